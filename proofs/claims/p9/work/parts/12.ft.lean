/-! words by their places -/
theorem good_rp {big ws : List Cond} (ps : List Nat) (hp : ps.map (fun i => big[i]?) = ws.map some) (h : ws.all goodWord = true) : GoodIn big ws := by
  intro w hw
  have h1 := List.all_eq_true.mp h w hw
  have h2 : some w ∈ ws.map some := List.mem_map.mpr ⟨w, hw, rfl⟩
  rw [← hp] at h2
  obtain ⟨i, -, hi⟩ := List.mem_map.mp h2
  exact ⟨List.mem_of_getElem? hi, good_of_word h1⟩
theorem goodIn_cons {big ws : List Cond} {c : Cond} (ha : GoodIn big [c]) (hb : GoodIn big ws) : GoodIn big (c :: ws) := fun w h => (List.mem_cons.mp h).elim (fun e => ha w (List.mem_singleton.mpr e)) (hb w)
noncomputable def subq (big : List Cond) : List (List Cond) → Prop
  | [] => True
  | l :: t => (∀ w ∈ l, w ∈ big) ∧ subq big t
theorem subq_m {big : List Cond} : ∀ {Rs : List (List Cond)}, subq big Rs → ∀ l ∈ Rs, ∀ w ∈ l, w ∈ big
  | [], _, _, h, _, _ => absurd h List.not_mem_nil
  | a :: t, q, l, h, w, hw => by
    rcases List.mem_cons.mp h with e | e
    · rw [e] at hw
      exact q.1 w hw
    · exact subq_m q.2 l e w hw
theorem good_rb {big ws : List Cond} {Rs : List (List Cond)} (hb : subq big Rs) (ps : List (Nat × Nat)) (hp : ps.map (fun i => (Rs[i.1]?).bind (fun l => l[i.2]?)) = ws.map some) (h : ws.all goodWord = true) : GoodIn big ws := by
  intro w hw
  have h1 := List.all_eq_true.mp h w hw
  have h2 : some w ∈ ws.map some := List.mem_map.mpr ⟨w, hw, rfl⟩
  rw [← hp] at h2
  obtain ⟨i, -, hi⟩ := List.mem_map.mp h2
  obtain ⟨l, hl, hi⟩ := Option.bind_eq_some_iff.mp hi
  exact ⟨subq_m hb l (List.mem_of_getElem? hl) w (List.mem_of_getElem? hi), good_of_word h1⟩
theorem goodIn_sb {big ws : List Cond} (hs : ∀ w ∈ ws, w ∈ big) (h : ws.all goodWord = true) : GoodIn big ws := fun w hw => ⟨hs w hw, good_of_word (List.all_eq_true.mp h w hw)⟩
theorem mem_b {big : List Cond} {Rs : List (List Cond)} (hb : subq big Rs) {w : Cond} (b j : Nat) (h : (Rs[b]?).bind (fun l => l[j]?) = some w) : w ∈ big := by
  obtain ⟨l, hl, hi⟩ := Option.bind_eq_some_iff.mp h
  exact subq_m hb l (List.mem_of_getElem? hl) w (List.mem_of_getElem? hi)
/-! texts -/
noncomputable def CtIE (l : Launch) (y : MethodName) (wd : List Cond) (rm : Room) (av : List Value) (D : va_G) (k : Nat → ClassId) (E : (Nat → Prop) → State → Prop) (sz : Nat) (ws : va_W) {S : Type} (post : Int32 → S → Prop) (wp : S → va_W) (mc ms : Nat) : Prop := Met l y wd rm (va_Pc av (fun U => hcP D k sz ws U ∧ E (va_A ws sz) U)) (va_Qi post (hcB D wp (va_A ws sz)) (va_A ws sz)) mc ms (va_A ws sz)
noncomputable def CtVE (l : Launch) (y : MethodName) (wd : List Cond) (rm : Room) (av : List Value) (D : va_G) (k : Nat → ClassId) (E : (Nat → Prop) → State → Prop) (sz : Nat) (ws : va_W) {S : Type} (post : S → Prop) (wp : S → va_W) (mc ms : Nat) : Prop := Met l y wd rm (va_Pc av (fun U => hcP D k sz ws U ∧ E (va_A ws sz) U)) (va_Qv post (hcB D wp (va_A ws sz)) (va_A ws sz)) mc ms (va_A ws sz)
noncomputable def EOk (E : (Nat → Prop) → State → Prop) : Prop := (∀ (A : Nat → Prop) (U : State) (g : JFrame) (mk : MethodId) (a : Array Value), E A U → E A (U.calling g mk a)) ∧ ∀ (A B : Nat → Prop) (s U : State) (H : Heap) (locs : List Loc), E A s → va_S A s.heap H locs → (∀ q, B q → A q) → U.heap = H → s.WarmedH U.vm → E B U
theorem CtIE.mk {l : Launch} {y : MethodName} {wd wd' : List Cond} {rm : Room} {av : List Value} {D : va_G} {k : Nat → ClassId} {E : (Nat → Prop) → State → Prop} {sz : Nat} {ws : va_W} {S : Type} {post : Int32 → S → Prop} {wp : S → va_W} {mc ms : Nat} {cc : ByteArray} {maxL : Nat} {ret : Option FieldType} (hy : plainName y.cls = true) (hw : wd = Cond.code y cc maxL ret :: wd') (hlv : (lg_sl av).length ≤ maxL)
    (body : ∀ (p : Program) (e : Env) (s : State) (m : MethodId) (below : List Frame) (meth : Method) (c : Code) (A : Nat → Prop) (ls : Array Slot), E A s → En p s m av.toArray meth c y cc ret maxL wd D k A → va_P D vwCl ws s.heap → va_D A ws → va_S A s.heap s.heap [] → lv_has ls maxL (lv_args 0 av) → W p l e rm s m av.toArray below meth c s.heap [] 0 0 (MQ below (va_Qi post (hcB D wp A) A) av.toArray s mc ms A) (F0 m 0 ls [])) : CtIE l y wd rm av D k E sz ws post wp mc ms := by
  refine Met.ofW (cc := cc) (maxL := maxL) (ret := ret) hy hw ?_
  intro p e s m args below meth c s₁ B hml hv
  obtain ⟨rfl, ⟨hsz, hP, hG, hD0⟩, hE⟩ := hv
  subst hsz
  have hts := atoms_spec (ws := wd) B.pre
  have hl := lv_entry av (n := maxL) hlv
  rw [lg_entry_eq]
  exact body p e s m below meth c (va_A ws s.heap.size) _ hE ⟨B.exec, B.bytes, B.returns, hml, findClass_of_methodNamed B.named, hts, B.notSynchronized, (name_of_methodNamed B.named B.method).1, hG, fun q h => Or.inr h⟩ hP (hD0.self (sz := s.heap.size)) va_S.rf hl
theorem CtVE.mk {l : Launch} {y : MethodName} {wd wd' : List Cond} {rm : Room} {av : List Value} {D : va_G} {k : Nat → ClassId} {E : (Nat → Prop) → State → Prop} {sz : Nat} {ws : va_W} {S : Type} {post : S → Prop} {wp : S → va_W} {mc ms : Nat} {cc : ByteArray} {maxL : Nat} {ret : Option FieldType} (hy : plainName y.cls = true) (hw : wd = Cond.code y cc maxL ret :: wd') (hlv : (lg_sl av).length ≤ maxL)
    (body : ∀ (p : Program) (e : Env) (s : State) (m : MethodId) (below : List Frame) (meth : Method) (c : Code) (A : Nat → Prop) (ls : Array Slot), E A s → En p s m av.toArray meth c y cc ret maxL wd D k A → va_P D vwCl ws s.heap → va_D A ws → va_S A s.heap s.heap [] → lv_has ls maxL (lv_args 0 av) → W p l e rm s m av.toArray below meth c s.heap [] 0 0 (MQ below (va_Qv post (hcB D wp A) A) av.toArray s mc ms A) (F0 m 0 ls [])) : CtVE l y wd rm av D k E sz ws post wp mc ms := by
  refine Met.ofW (cc := cc) (maxL := maxL) (ret := ret) hy hw ?_
  intro p e s m args below meth c s₁ B hml hv
  obtain ⟨rfl, ⟨hsz, hP, hG, hD0⟩, hE⟩ := hv
  subst hsz
  have hts := atoms_spec (ws := wd) B.pre
  have hl := lv_entry av (n := maxL) hlv
  rw [lg_entry_eq]
  exact body p e s m below meth c (va_A ws s.heap.size) _ hE ⟨B.exec, B.bytes, B.returns, hml, findClass_of_methodNamed B.named, hts, B.notSynchronized, (name_of_methodNamed B.named B.method).1, hG, fun q h => Or.inr h⟩ hP (hD0.self (sz := s.heap.size)) va_S.rf hl
noncomputable def strF (A : Nat → Prop) (a t n : Nat) (f : Nat → Int32) (U : State) (H : Heap) : Prop := va_O "java/lang/String" a A U H ∧ va_OF "java/lang/String" "coder" "B" (.int 0) a A U H ∧ va_OF "java/lang/String" "value" "[B" (.ref t) a A U H ∧ va_T .byte t n (fun j => .int (f j)) A U H
abbrev cmpF (A : Nat → Prop) (U : State) (H : Heap) : Prop := va_Z "java/lang/String" "COMPACT_STRINGS" "Z" (.int 1) A U H
abbrev fmtF (A : Nat → Prop) (U : State) (H : Heap) : Prop := va_Zq "jdk/internal/util/Preconditions" "SIOOBE_FORMATTER" "Ljava/util/function/BiFunction;" A U H
theorem strF.to {A B : Nat → Prop} {a t n : Nat} {f : Nat → Int32} {s U : State} {H : Heap} {locs : List Loc} (h : strF A a t n f s s.heap) (hS : va_S A s.heap H locs) (hF : ∀ q, B q → A q) (hvm : s.vm.Alike U.vm) : strF B a t n f U H := ⟨((h.1.kept hS.2.1).narrow hF).moved hvm, ((h.2.1.kept hS.2.1).narrow hF).moved hvm, ((h.2.2.1.kept hS.2.1).narrow hF).moved hvm, ((h.2.2.2.kept hS.2.1).narrow hF).moved hvm⟩
theorem cmpF.to {A B : Nat → Prop} {s U : State} {H : Heap} {locs : List Loc} (h : cmpF A s s.heap) (hS : va_S A s.heap H locs) (hF : ∀ q, B q → A q) (hvm : s.vm.Alike U.vm) : cmpF B U H := ((h.kept hS.2.1).narrow hF).moved hvm
theorem fmtF.to {A B : Nat → Prop} {s U : State} {H : Heap} {locs : List Loc} (h : fmtF A s s.heap) (hS : va_S A s.heap H locs) (hF : ∀ q, B q → A q) (hvm : s.vm.Alike U.vm) : fmtF B U H := ((h.kept hS.2.1).narrow hF).moved hvm
noncomputable def ES (a t n : Nat) (f : Nat → Int32) (A : Nat → Prop) (U : State) : Prop := cmpF A U U.heap ∧ strF A a t n f U U.heap ∧ fmtF A U U.heap
theorem ES.ok (a t n : Nat) (f : Nat → Int32) : EOk (ES a t n f) := ⟨fun A U g mk ar h => ⟨cmpF.to (U := U.calling g mk ar) h.1 (va_S.rf (A := A)) (fun _ q => q) (Vm.Alike.refl U.vm), strF.to (U := U.calling g mk ar) h.2.1 (va_S.rf (A := A)) (fun _ q => q) (Vm.Alike.refl U.vm), fmtF.to (U := U.calling g mk ar) h.2.2 (va_S.rf (A := A)) (fun _ q => q) (Vm.Alike.refl U.vm)⟩, fun A B s U H locs h hS hF hU hW => by
  subst hU
  exact ⟨cmpF.to h.1 hS hF hW.alike, strF.to h.2.1 hS hF hW.alike, fmtF.to h.2.2 hS hF hW.alike⟩⟩
theorem fmt.ok : EOk (fun A U => fmtF A U U.heap) := ⟨fun A U g mk ar h => fmtF.to (U := U.calling g mk ar) h (va_S.rf (A := A)) (fun _ q => q) (Vm.Alike.refl U.vm), fun A B s U H locs h hS hF hU hW => by
  subst hU
  exact fmtF.to h hS hF hW.alike⟩
noncomputable def EB (t n : Nat) (f : Nat → Int32) (A : Nat → Prop) (U : State) : Prop := va_T .byte t n (fun j => .int (f j)) A U U.heap ∧ fmtF A U U.heap
theorem EB.ok (t n : Nat) (f : Nat → Int32) : EOk (EB t n f) := ⟨fun A U g mk ar h => ⟨h.1.moved (U := U.calling g mk ar) (Vm.Alike.refl U.vm), fmtF.to (U := U.calling g mk ar) h.2 (va_S.rf (A := A)) (fun _ q => q) (Vm.Alike.refl U.vm)⟩, fun A B s U H locs h hS hF hU hW => by
  subst hU
  exact ⟨((h.1.kept hS.2.1).narrow hF).moved hW.alike, fmtF.to h.2 hS hF hW.alike⟩⟩
noncomputable def xl (i : Nat) : Nat := [6, 5, 6, 6, 4, 4, 4, 6, 5, 7, 6, 4, 6, 3, 2, 2, 3, 3, 0].getD i 0
noncomputable def xc (i : Nat) : Nat → Int32 := fun j => ([[115, 105, 116, 116, 101, 114], [99, 104, 97, 105, 114], [119, 101, 105, 103, 104, 116], [104, 101, 105, 103, 104, 116], [99, 97, 110, 101], [115, 105, 116, 115], [103, 105, 118, 101], [111, 116, 104, 101, 114, 115], [112, 114, 101, 115, 115], [100, 114, 111, 112, 112, 101, 100], [109, 105, 110, 117, 116, 101], [104, 97, 108, 108], [115, 116, 114, 97, 110, 100], [115, 105, 116], [105, 102], [111, 114], [97, 110, 100], [110, 111, 116], []].getD i []).getD j 0
theorem xl_b (i : Nat) : xl i ≤ 7 := by
  by_cases h : i < 19
  · exact (show ∀ i, i < 19 → xl i ≤ 7 from by decide) i h
  · unfold xl
    rw [List.getD_eq_getElem?_getD, List.getElem?_eq_none (by simp; omega)]
    decide
noncomputable def EX (ad tv : Nat → Nat) (A : Nat → Prop) (U : State) : Prop := cmpF A U U.heap ∧ fmtF A U U.heap ∧ (∀ i, i < 19 → strF A (ad i) (tv i) (xl i) (xc i) U U.heap) ∧ vk_R RX7 97 "sitter" (ad 0) U ∧ vk_R RX7 99 "chair" (ad 1) U ∧ vk_R RX7 101 "weight" (ad 2) U ∧ vk_R RX7 103 "height" (ad 3) U ∧ vk_R RX7 105 "cane" (ad 4) U ∧ vk_R RX7 107 "sits" (ad 5) U ∧ vk_R RX7 109 "give" (ad 6) U ∧ vk_R RX7 111 "others" (ad 7) U ∧ vk_R RX7 113 "press" (ad 8) U ∧ vk_R RX7 115 "dropped" (ad 9) U ∧ vk_R RX7 117 "minute" (ad 10) U ∧ vk_R RX7 119 "hall" (ad 11) U ∧ vk_R RX7 121 "strand" (ad 12) U ∧ vk_R RX7 123 "sit" (ad 13) U ∧ vk_R RX7 125 "if" (ad 14) U ∧ vk_R RX7 127 "or" (ad 15) U ∧ vk_R RX7 129 "and" (ad 16) U ∧ vk_R RX7 131 "not" (ad 17) U ∧ vk_R RX7 133 "" (ad 18) U
theorem EX.ok (ad tv : Nat → Nat) : EOk (EX ad tv) := ⟨fun A U g mk ar h => by
  obtain ⟨h0, h1, h2, r0, r1, r2, r3, r4, r5, r6, r7, r8, r9, r10, r11, r12, r13, r14, r15, r16, r17, r18⟩ := h
  have hR := va_S.rf (A := A) (H0 := U.heap)
  have hv := Vm.Alike.refl U.vm
  exact ⟨cmpF.to (U := U.calling g mk ar) h0 hR (fun _ q => q) hv, fmtF.to (U := U.calling g mk ar) h1 hR (fun _ q => q) hv, (fun i hi => strF.to (U := U.calling g mk ar) (h2 i hi) hR (fun _ q => q) hv), r0.same (U := U.calling g mk ar) rfl, r1.same (U := U.calling g mk ar) rfl, r2.same (U := U.calling g mk ar) rfl, r3.same (U := U.calling g mk ar) rfl, r4.same (U := U.calling g mk ar) rfl, r5.same (U := U.calling g mk ar) rfl, r6.same (U := U.calling g mk ar) rfl, r7.same (U := U.calling g mk ar) rfl, r8.same (U := U.calling g mk ar) rfl, r9.same (U := U.calling g mk ar) rfl, r10.same (U := U.calling g mk ar) rfl, r11.same (U := U.calling g mk ar) rfl, r12.same (U := U.calling g mk ar) rfl, r13.same (U := U.calling g mk ar) rfl, r14.same (U := U.calling g mk ar) rfl, r15.same (U := U.calling g mk ar) rfl, r16.same (U := U.calling g mk ar) rfl, r17.same (U := U.calling g mk ar) rfl, r18.same (U := U.calling g mk ar) rfl⟩, fun A B s U H locs h hS hF hU hW => by
  subst hU
  obtain ⟨h0, h1, h2, r0, r1, r2, r3, r4, r5, r6, r7, r8, r9, r10, r11, r12, r13, r14, r15, r16, r17, r18⟩ := h
  exact ⟨cmpF.to h0 hS hF hW.alike, fmtF.to h1 hS hF hW.alike, (fun i hi => strF.to (h2 i hi) hS hF hW.alike), r0.warm hW, r1.warm hW, r2.warm hW, r3.warm hW, r4.warm hW, r5.warm hW, r6.warm hW, r7.warm hW, r8.warm hW, r9.warm hW, r10.warm hW, r11.warm hW, r12.warm hW, r13.warm hW, r14.warm hW, r15.warm hW, r16.warm hW, r17.warm hW, r18.warm hW⟩⟩
noncomputable def EY (ad tv : Nat → Nat) (A : Nat → Prop) (U : State) : Prop := cmpF A U U.heap ∧ fmtF A U U.heap ∧ (∀ i, i < 18 → strF A (ad i) (tv i) (xl i) (xc i) U U.heap) ∧ vk_R RX9 142 "sitter" (ad 0) U ∧ vk_R RX9 144 "chair" (ad 1) U ∧ vk_R RX9 146 "weight" (ad 2) U ∧ vk_R RX9 147 "height" (ad 3) U ∧ vk_R RX9 148 "cane" (ad 4) U ∧ vk_R RX9 149 "sits" (ad 5) U ∧ vk_R RX9 151 "give" (ad 6) U ∧ vk_R RX9 153 "others" (ad 7) U ∧ vk_R RX9 155 "press" (ad 8) U ∧ vk_R RX9 157 "dropped" (ad 9) U ∧ vk_R RX9 159 "minute" (ad 10) U ∧ vk_R RX9 259 "hall" (ad 11) U ∧ vk_R RX9 261 "strand" (ad 12) U ∧ vk_R RX9 302 "sit" (ad 13) U ∧ vk_R RX9 304 "if" (ad 14) U ∧ vk_R RX9 257 "or" (ad 15) U ∧ vk_R RX9 255 "and" (ad 16) U ∧ vk_R RX9 241 "not" (ad 17) U
theorem EY.ok (ad tv : Nat → Nat) : EOk (EY ad tv) := ⟨fun A U g mk ar h => by
  obtain ⟨h0, h1, h2, r0, r1, r2, r3, r4, r5, r6, r7, r8, r9, r10, r11, r12, r13, r14, r15, r16, r17⟩ := h
  have hR := va_S.rf (A := A) (H0 := U.heap)
  have hv := Vm.Alike.refl U.vm
  exact ⟨cmpF.to (U := U.calling g mk ar) h0 hR (fun _ q => q) hv, fmtF.to (U := U.calling g mk ar) h1 hR (fun _ q => q) hv, (fun i hi => strF.to (U := U.calling g mk ar) (h2 i hi) hR (fun _ q => q) hv), r0.same (U := U.calling g mk ar) rfl, r1.same (U := U.calling g mk ar) rfl, r2.same (U := U.calling g mk ar) rfl, r3.same (U := U.calling g mk ar) rfl, r4.same (U := U.calling g mk ar) rfl, r5.same (U := U.calling g mk ar) rfl, r6.same (U := U.calling g mk ar) rfl, r7.same (U := U.calling g mk ar) rfl, r8.same (U := U.calling g mk ar) rfl, r9.same (U := U.calling g mk ar) rfl, r10.same (U := U.calling g mk ar) rfl, r11.same (U := U.calling g mk ar) rfl, r12.same (U := U.calling g mk ar) rfl, r13.same (U := U.calling g mk ar) rfl, r14.same (U := U.calling g mk ar) rfl, r15.same (U := U.calling g mk ar) rfl, r16.same (U := U.calling g mk ar) rfl, r17.same (U := U.calling g mk ar) rfl⟩, fun A B s U H locs h hS hF hU hW => by
  subst hU
  obtain ⟨h0, h1, h2, r0, r1, r2, r3, r4, r5, r6, r7, r8, r9, r10, r11, r12, r13, r14, r15, r16, r17⟩ := h
  exact ⟨cmpF.to h0 hS hF hW.alike, fmtF.to h1 hS hF hW.alike, (fun i hi => strF.to (h2 i hi) hS hF hW.alike), r0.warm hW, r1.warm hW, r2.warm hW, r3.warm hW, r4.warm hW, r5.warm hW, r6.warm hW, r7.warm hW, r8.warm hW, r9.warm hW, r10.warm hW, r11.warm hW, r12.warm hW, r13.warm hW, r14.warm hW, r15.warm hW, r16.warm hW, r17.warm hW⟩⟩
section HT
variable {p : Program} {l : Launch} {e : Env} {R : Room} {s : State} {m : MethodId} {args : Array Value} {below : List Frame} {meth : Method} {c : Code} {H : Heap} {locs : List Loc} {cells slots : Nat} {Q : State → Prop} {pc : Nat} {ls : Array Slot} {rest st0 As : List Value} {D : va_G} {k : Nat → ClassId} {A : Nat → Prop} {ws wc wr : va_W} {cc : ByteArray} {y : MethodName} {wd wd' Ts : List Cond} {rm : Room} {mc ms n index maxL nL : Nat} {bytes : ByteArray} {ret : Option FieldType} {own C host : String} {b : Nat} {E : (Nat → Prop) → State → Prop}
theorem hc_pSE (hE : EOk E) (hT : E A s) (hS : va_S A s.heap H locs) (hA : ∀ q : Nat, s.heap.size ≤ q → A q) (hG : GK D k s) (hP : va_P D vwCl ws H) (hD : va_D A ws) (isC : List Nat) (hC : isC.map (fun i => ws[i]?) = wc.map some) (hn : va_nd isC = true) : PreS s H (va_Pc As (fun U => hcP D k H.size wc U ∧ E (va_A wc H.size) U)) As :=
  ⟨fun a U g mk q => by obtain ⟨q0, ⟨q1, q2, q3, q4⟩, q5⟩ := q; exact ⟨q0, ⟨q1, q2, q3.call, q4⟩, hE.1 _ _ g mk a q5⟩, fun U hU hW => ⟨rfl, ((hc_pS (As := As) hG hP hD isC hC hn).2 U hU hW).2, hE.2 A _ s U H locs hT hS (va_free hD hS hA isC hC) hU hW⟩⟩
theorem hc_ViE {S : Type} {post : Int32 → S → Prop} {wp : S → va_W} (hE : EOk E) (hT : E A s) (hx : p.tables.exec = Jvm.exec) (hb : c.code = cc) (hml : c.maxLocals = nL) (hown : s.vm.findClass own = some m.cls) (hts : ∀ w ∈ Ts, w.before args s = true) (hG : GK D k s) (hA : ∀ q : Nat, s.heap.size ≤ q → A q) (hP : va_P D vwCl ws H) (hD : va_D A ws) (hS : va_S A s.heap H locs) (hsz : ls.size = nL)
    (isC isR : List Nat) (hM : CtIE l y wd rm (.ref b :: As) D k E H.size wc post wp mc ms) (hrv : ∃ cellB : Cell, H[b]? = some cellB ∧ cellB.vm.isStatics = false ∧ s.vm.findClass C = some cellB.cls) (hg : GoodIn Ts (wsV own index C y wd)) (hw : wd = Cond.code y bytes maxL ret :: wd') (hrc : rm.cells = mc ∧ rm.slots = ms ∧ rm.frames + 1 ≤ R.frames ∧ 8 + (maxL + 11) + rm.locals ≤ R.locals) (hd : y.cls = C ∧ hcD y n)
    (hC : isC.map (fun i => ws[i]?) = wc.map some) (hR : isR.map (fun i => ws[i]?) = wr.map some) (hn : va_nd isC = true ∧ va_nd isR = true ∧ ∀ i ∈ isR, i ∉ isC) (hst : As.length = n ∧ st0 = As.reverse ++ .ref b :: rest ∧ (rest.map fun v => v.category).sum ≤ 8 ∧ cells + mc ≤ R.cells ∧ slots + ms ≤ R.slots) (hdg : decode cc pc = .ok (.invokevirtual index, 3))
    (kk : ∀ (r : Int32) (u : S) (H : Heap) (locs : List Loc), post r u → va_P D vwCl (wr ++ wp u) H → va_D A (wr ++ wp u) → va_S A s.heap H locs → W p l e R s m args below meth c H locs (cells + mc) (slots + ms) Q (F0 m (pc + 3) ls (.int r :: rest))) : W p l e R s m args below meth c H locs cells slots Q (F0 m pc ls st0) :=
  hc_i (va_runV (As := As) (rest := rest) ⟨hx, hb, hml, hown, hts⟩ hM (cwV n hts hg hw hrc.1 hrc.2.1 hd hrc.2.2) ⟨(hc_pSE (As := .ref b :: As) hE hT hS hA hG hP hD isC hC hn.1).1, hrv, (hc_pSE (As := .ref b :: As) hE hT hS hA hG hP hD isC hC hn.1).2⟩ rfl hst.1 hsz hst.2.1 (lv_room hst.2.2.1) hdg hst.2.2.2) hA hP hD hS isC isR hC hR hn.2.1 hn.2.2 kk
theorem hc_VvE {S : Type} {post : S → Prop} {wp : S → va_W} (hE : EOk E) (hT : E A s) (hx : p.tables.exec = Jvm.exec) (hb : c.code = cc) (hml : c.maxLocals = nL) (hown : s.vm.findClass own = some m.cls) (hts : ∀ w ∈ Ts, w.before args s = true) (hG : GK D k s) (hA : ∀ q : Nat, s.heap.size ≤ q → A q) (hP : va_P D vwCl ws H) (hD : va_D A ws) (hS : va_S A s.heap H locs) (hsz : ls.size = nL)
    (isC isR : List Nat) (hM : CtVE l y wd rm (.ref b :: As) D k E H.size wc post wp mc ms) (hrv : ∃ cellB : Cell, H[b]? = some cellB ∧ cellB.vm.isStatics = false ∧ s.vm.findClass C = some cellB.cls) (hg : GoodIn Ts (wsV own index C y wd)) (hw : wd = Cond.code y bytes maxL ret :: wd') (hrc : rm.cells = mc ∧ rm.slots = ms ∧ rm.frames + 1 ≤ R.frames ∧ 8 + (maxL + 11) + rm.locals ≤ R.locals) (hd : y.cls = C ∧ hcD y n)
    (hC : isC.map (fun i => ws[i]?) = wc.map some) (hR : isR.map (fun i => ws[i]?) = wr.map some) (hn : va_nd isC = true ∧ va_nd isR = true ∧ ∀ i ∈ isR, i ∉ isC) (hst : As.length = n ∧ st0 = As.reverse ++ .ref b :: rest ∧ (rest.map fun v => v.category).sum ≤ 8 ∧ cells + mc ≤ R.cells ∧ slots + ms ≤ R.slots) (hdg : decode cc pc = .ok (.invokevirtual index, 3))
    (kk : ∀ (u : S) (H : Heap) (locs : List Loc), post u → va_P D vwCl (wr ++ wp u) H → va_D A (wr ++ wp u) → va_S A s.heap H locs → W p l e R s m args below meth c H locs (cells + mc) (slots + ms) Q (F0 m (pc + 3) ls rest)) : W p l e R s m args below meth c H locs cells slots Q (F0 m pc ls st0) :=
  hc_v (va_runV (As := As) (rest := rest) ⟨hx, hb, hml, hown, hts⟩ hM (cwV n hts hg hw hrc.1 hrc.2.1 hd hrc.2.2) ⟨(hc_pSE (As := .ref b :: As) hE hT hS hA hG hP hD isC hC hn.1).1, hrv, (hc_pSE (As := .ref b :: As) hE hT hS hA hG hP hD isC hC hn.1).2⟩ rfl hst.1 hsz hst.2.1 (lv_room hst.2.2.1) hdg hst.2.2.2) hA hP hD hS isC isR hC hR hn.2.1 hn.2.2 kk
theorem hc_SiE {S : Type} {post : Int32 → S → Prop} {wp : S → va_W} (hE : EOk E) (hT : E A s) (hx : p.tables.exec = Jvm.exec) (hb : c.code = cc) (hml : c.maxLocals = nL) (hown : s.vm.findClass own = some m.cls) (hts : ∀ w ∈ Ts, w.before args s = true) (hG : GK D k s) (hA : ∀ q : Nat, s.heap.size ≤ q → A q) (hP : va_P D vwCl ws H) (hD : va_D A ws) (hS : va_S A s.heap H locs) (hsz : ls.size = nL)
    (isC isR : List Nat) (hM : CtIE l y wd rm As D k E H.size wc post wp mc ms) (hg : GoodIn Ts (va_wsS own index y wd)) (hw : wd = Cond.code y bytes maxL ret :: wd') (hrc : rm.cells = mc ∧ rm.slots = ms ∧ rm.frames + 1 ≤ R.frames ∧ 8 + (maxL + 11) + rm.locals ≤ R.locals) (hd : hcD y n)
    (hC : isC.map (fun i => ws[i]?) = wc.map some) (hR : isR.map (fun i => ws[i]?) = wr.map some) (hn : va_nd isC = true ∧ va_nd isR = true ∧ ∀ i ∈ isR, i ∉ isC) (hst : As.length = n ∧ st0 = As.reverse ++ rest ∧ (rest.map fun v => v.category).sum ≤ 8 ∧ cells + mc ≤ R.cells ∧ slots + ms ≤ R.slots) (hdg : decode cc pc = .ok (.invokestatic index, 3))
    (kk : ∀ (r : Int32) (u : S) (H : Heap) (locs : List Loc), post r u → va_P D vwCl (wr ++ wp u) H → va_D A (wr ++ wp u) → va_S A s.heap H locs → W p l e R s m args below meth c H locs (cells + mc) (slots + ms) Q (F0 m (pc + 3) ls (.int r :: rest))) : W p l e R s m args below meth c H locs cells slots Q (F0 m pc ls st0) :=
  hc_i (va_runS (As := As) (rest := rest) ⟨hx, hb, hml, hown, hts⟩ hM (va_cwS n hts hg hw hrc.1 hrc.2.1 hd hrc.2.2) (hc_pSE hE hT hS hA hG hP hD isC hC hn.1) rfl hst.1 hsz hst.2.1 (lv_room hst.2.2.1) hdg hst.2.2.2) hA hP hD hS isC isR hC hR hn.2.1 hn.2.2 kk
theorem hc_SvE {S : Type} {post : S → Prop} {wp : S → va_W} (hE : EOk E) (hT : E A s) (hx : p.tables.exec = Jvm.exec) (hb : c.code = cc) (hml : c.maxLocals = nL) (hown : s.vm.findClass own = some m.cls) (hts : ∀ w ∈ Ts, w.before args s = true) (hG : GK D k s) (hA : ∀ q : Nat, s.heap.size ≤ q → A q) (hP : va_P D vwCl ws H) (hD : va_D A ws) (hS : va_S A s.heap H locs) (hsz : ls.size = nL)
    (isC isR : List Nat) (hM : CtVE l y wd rm As D k E H.size wc post wp mc ms) (hg : GoodIn Ts (va_wsS own index y wd)) (hw : wd = Cond.code y bytes maxL ret :: wd') (hrc : rm.cells = mc ∧ rm.slots = ms ∧ rm.frames + 1 ≤ R.frames ∧ 8 + (maxL + 11) + rm.locals ≤ R.locals) (hd : hcD y n)
    (hC : isC.map (fun i => ws[i]?) = wc.map some) (hR : isR.map (fun i => ws[i]?) = wr.map some) (hn : va_nd isC = true ∧ va_nd isR = true ∧ ∀ i ∈ isR, i ∉ isC) (hst : As.length = n ∧ st0 = As.reverse ++ rest ∧ (rest.map fun v => v.category).sum ≤ 8 ∧ cells + mc ≤ R.cells ∧ slots + ms ≤ R.slots) (hdg : decode cc pc = .ok (.invokestatic index, 3))
    (kk : ∀ (u : S) (H : Heap) (locs : List Loc), post u → va_P D vwCl (wr ++ wp u) H → va_D A (wr ++ wp u) → va_S A s.heap H locs → W p l e R s m args below meth c H locs (cells + mc) (slots + ms) Q (F0 m (pc + 3) ls rest)) : W p l e R s m args below meth c H locs cells slots Q (F0 m pc ls st0) :=
  hc_v (va_runS (As := As) (rest := rest) ⟨hx, hb, hml, hown, hts⟩ hM (va_cwS n hts hg hw hrc.1 hrc.2.1 hd hrc.2.2) (hc_pSE hE hT hS hA hG hP hD isC hC hn.1) rfl hst.1 hsz hst.2.1 (lv_room hst.2.2.1) hdg hst.2.2.2) hA hP hD hS isC isR hC hR hn.2.1 hn.2.2 kk
theorem hc_endC {S : Type} {post : Int32 → S → Prop} {wp : S → va_W} {v : Int32} (hx : p.tables.exec = Jvm.exec) (hb : c.code = cc) (hr : meth.sig.returnType = some .char) (hlocks : meth.locks = false) (hv : iv 0 65535 v) (u : S) (hpost : post v u) (hP : va_P D vwCl (wp u) H) (hD : va_D A (wp u)) (hS : va_S A s.heap H locs) (hdg : decode cc pc = .ok (.ireturn, 1)) : W p l e R s m args below meth c H locs cells slots (MQ below (va_Qi post (hcB D wp A) A) args s cells slots A) (F0 m pc ls [.int v]) :=
  W.zret hx hb hr (by show Value.int _ = Value.int _; rw [lg_i2c_small hv.1 (by have := hv.2; omega)]) (fun t ht hW => ⟨⟨v, u, rfl, hpost, by rw [ht]; exact hP, hD⟩, hS.F ht⟩) hS.2.2 hdg hlocks
end HT
theorem dJ0_charAt_5068e_0 : decode cJ0_charAt_5068e 0 = .ok (.aload_n 0, 1) := of_0 ok_aload_n_0 (by decide +kernel)
theorem dJ0_charAt_5068e_1 : decode cJ0_charAt_5068e 1 = .ok (.invokevirtual 492, 3) := of_u2 ok_invokevirtual 1 236 (by decide +kernel)
theorem dJ0_charAt_5068e_4 : decode cJ0_charAt_5068e 4 = .ok (.ifCond .eq 12, 3) := of_s2 ok_ifCond_eq 0 12 (by decide +kernel)
theorem dJ0_charAt_5068e_7 : decode cJ0_charAt_5068e 7 = .ok (.aload_n 0, 1) := of_0 ok_aload_n_0 (by decide +kernel)
theorem dJ0_charAt_5068e_8 : decode cJ0_charAt_5068e 8 = .ok (.getfield 9, 3) := of_u2 ok_getfield 0 9 (by decide +kernel)
theorem dJ0_charAt_5068e_11 : decode cJ0_charAt_5068e 11 = .ok (.iload_n 1, 1) := of_0 ok_iload_n_1 (by decide +kernel)
theorem dJ0_charAt_5068e_12 : decode cJ0_charAt_5068e 12 = .ok (.invokestatic 495, 3) := of_u2 ok_invokestatic 1 239 (by decide +kernel)
theorem dJ0_charAt_5068e_15 : decode cJ0_charAt_5068e 15 = .ok (.ireturn, 1) := of_0 ok_ireturn (by decide +kernel)
theorem dJ0_checkIndex_df160_0 : decode cJ0_checkIndex_df160 0 = .ok (.iload_n 0, 1) := of_0 ok_iload_n_0 (by decide +kernel)
theorem dJ0_checkIndex_df160_1 : decode cJ0_checkIndex_df160 1 = .ok (.iload_n 1, 1) := of_0 ok_iload_n_1 (by decide +kernel)
theorem dJ0_checkIndex_df160_2 : decode cJ0_checkIndex_df160 2 = .ok (.getstatic 1053, 3) := of_u2 ok_getstatic 4 29 (by decide +kernel)
theorem dJ0_checkIndex_df160_5 : decode cJ0_checkIndex_df160 5 = .ok (.invokestatic 1059, 3) := of_u2 ok_invokestatic 4 35 (by decide +kernel)
theorem dJ0_checkIndex_df160_8 : decode cJ0_checkIndex_df160 8 = .ok (.pop, 1) := of_0 ok_pop (by decide +kernel)
theorem dJ0_checkIndex_df160_9 : decode cJ0_checkIndex_df160 9 = .ok (.return_, 1) := of_0 ok_return_ (by decide +kernel)
theorem dJ0_coder_7d493_0 : decode cJ0_coder_7d493 0 = .ok (.getstatic 38, 3) := of_u2 ok_getstatic 0 38 (by decide +kernel)
theorem dJ0_coder_7d493_3 : decode cJ0_coder_7d493 3 = .ok (.ifCond .eq 10, 3) := of_s2 ok_ifCond_eq 0 10 (by decide +kernel)
theorem dJ0_coder_7d493_6 : decode cJ0_coder_7d493 6 = .ok (.aload_n 0, 1) := of_0 ok_aload_n_0 (by decide +kernel)
theorem dJ0_coder_7d493_7 : decode cJ0_coder_7d493 7 = .ok (.getfield 15, 3) := of_u2 ok_getfield 0 15 (by decide +kernel)
theorem dJ0_coder_7d493_10 : decode cJ0_coder_7d493 10 = .ok (.goto 4, 3) := of_s2 ok_goto 0 4 (by decide +kernel)
theorem dJ0_coder_7d493_14 : decode cJ0_coder_7d493 14 = .ok (.ireturn, 1) := of_0 ok_ireturn (by decide +kernel)
theorem dJ0_isLatin1_aae02_0 : decode cJ0_isLatin1_aae02 0 = .ok (.getstatic 38, 3) := of_u2 ok_getstatic 0 38 (by decide +kernel)
theorem dJ0_isLatin1_aae02_3 : decode cJ0_isLatin1_aae02 3 = .ok (.ifCond .eq 14, 3) := of_s2 ok_ifCond_eq 0 14 (by decide +kernel)
theorem dJ0_isLatin1_aae02_6 : decode cJ0_isLatin1_aae02 6 = .ok (.aload_n 0, 1) := of_0 ok_aload_n_0 (by decide +kernel)
theorem dJ0_isLatin1_aae02_7 : decode cJ0_isLatin1_aae02 7 = .ok (.getfield 15, 3) := of_u2 ok_getfield 0 15 (by decide +kernel)
theorem dJ0_isLatin1_aae02_10 : decode cJ0_isLatin1_aae02 10 = .ok (.ifCond .ne 7, 3) := of_s2 ok_ifCond_ne 0 7 (by decide +kernel)
theorem dJ0_isLatin1_aae02_13 : decode cJ0_isLatin1_aae02 13 = .ok (.iconst 1, 1) := of_0 ok_iconst_1 (by decide +kernel)
theorem dJ0_isLatin1_aae02_14 : decode cJ0_isLatin1_aae02 14 = .ok (.goto 4, 3) := of_s2 ok_goto 0 4 (by decide +kernel)
theorem dJ0_isLatin1_aae02_18 : decode cJ0_isLatin1_aae02 18 = .ok (.ireturn, 1) := of_0 ok_ireturn (by decide +kernel)
theorem dJ0_length_8abf5_0 : decode cJ0_length_8abf5 0 = .ok (.aload_n 0, 1) := of_0 ok_aload_n_0 (by decide +kernel)
theorem dJ0_length_8abf5_1 : decode cJ0_length_8abf5 1 = .ok (.getfield 9, 3) := of_u2 ok_getfield 0 9 (by decide +kernel)
theorem dJ0_length_8abf5_4 : decode cJ0_length_8abf5 4 = .ok (.arraylength, 1) := of_0 ok_arraylength (by decide +kernel)
theorem dJ0_length_8abf5_5 : decode cJ0_length_8abf5 5 = .ok (.aload_n 0, 1) := of_0 ok_aload_n_0 (by decide +kernel)
theorem dJ0_length_8abf5_6 : decode cJ0_length_8abf5 6 = .ok (.invokevirtual 335, 3) := of_u2 ok_invokevirtual 1 79 (by decide +kernel)
theorem dJ0_length_8abf5_9 : decode cJ0_length_8abf5 9 = .ok (.ishr, 1) := of_0 ok_ishr (by decide +kernel)
theorem dJ0_length_8abf5_10 : decode cJ0_length_8abf5 10 = .ok (.ireturn, 1) := of_0 ok_ireturn (by decide +kernel)
theorem dJ1_charAt_3b067_0 : decode cJ1_charAt_3b067 0 = .ok (.iload_n 1, 1) := of_0 ok_iload_n_1 (by decide +kernel)
theorem dJ1_charAt_3b067_1 : decode cJ1_charAt_3b067 1 = .ok (.aload_n 0, 1) := of_0 ok_aload_n_0 (by decide +kernel)
theorem dJ1_charAt_3b067_2 : decode cJ1_charAt_3b067 2 = .ok (.arraylength, 1) := of_0 ok_arraylength (by decide +kernel)
theorem dJ1_charAt_3b067_3 : decode cJ1_charAt_3b067 3 = .ok (.invokestatic 9, 3) := of_u2 ok_invokestatic 0 9 (by decide +kernel)
theorem dJ1_charAt_3b067_6 : decode cJ1_charAt_3b067 6 = .ok (.aload_n 0, 1) := of_0 ok_aload_n_0 (by decide +kernel)
theorem dJ1_charAt_3b067_7 : decode cJ1_charAt_3b067 7 = .ok (.iload_n 1, 1) := of_0 ok_iload_n_1 (by decide +kernel)
theorem dJ1_charAt_3b067_8 : decode cJ1_charAt_3b067 8 = .ok (.baload, 1) := of_0 ok_baload (by decide +kernel)
theorem dJ1_charAt_3b067_9 : decode cJ1_charAt_3b067 9 = .ok (.sipush 255, 3) := of_s2 ok_sipush 0 255 (by decide +kernel)
theorem dJ1_charAt_3b067_12 : decode cJ1_charAt_3b067 12 = .ok (.iand, 1) := of_0 ok_iand (by decide +kernel)
theorem dJ1_charAt_3b067_13 : decode cJ1_charAt_3b067 13 = .ok (.i2c, 1) := of_0 ok_i2c (by decide +kernel)
theorem dJ1_charAt_3b067_14 : decode cJ1_charAt_3b067 14 = .ok (.ireturn, 1) := of_0 ok_ireturn (by decide +kernel)
theorem dJ3_checkIndex_8e157_0 : decode cJ3_checkIndex_8e157 0 = .ok (.iload_n 0, 1) := of_0 ok_iload_n_0 (by decide +kernel)
theorem dJ3_checkIndex_8e157_1 : decode cJ3_checkIndex_8e157 1 = .ok (.ifCond .lt 8, 3) := of_s2 ok_ifCond_lt 0 8 (by decide +kernel)
theorem dJ3_checkIndex_8e157_4 : decode cJ3_checkIndex_8e157 4 = .ok (.iload_n 0, 1) := of_0 ok_iload_n_0 (by decide +kernel)
theorem dJ3_checkIndex_8e157_5 : decode cJ3_checkIndex_8e157 5 = .ok (.iload_n 1, 1) := of_0 ok_iload_n_1 (by decide +kernel)
theorem dJ3_checkIndex_8e157_6 : decode cJ3_checkIndex_8e157 6 = .ok (.if_icmp .lt 10, 3) := of_s2 ok_if_icmp_lt 0 10 (by decide +kernel)
theorem dJ3_checkIndex_8e157_16 : decode cJ3_checkIndex_8e157 16 = .ok (.iload_n 0, 1) := of_0 ok_iload_n_0 (by decide +kernel)
theorem dJ3_checkIndex_8e157_17 : decode cJ3_checkIndex_8e157 17 = .ok (.ireturn, 1) := of_0 ok_ireturn (by decide +kernel)
set_option maxRecDepth 20000 in
theorem bq_wsJ0_charAt_5068e : subq wsJ0_charAt_5068e [wsJ0_charAt_5068e_r1, wsJ0_charAt_5068e_r2] := ⟨(fun _ h => (List.mem_cons_of_mem _ (List.mem_append_left _ h))), (fun _ h => (List.mem_cons_of_mem _ (List.mem_append_right _ h))), trivial⟩
set_option maxRecDepth 20000 in
theorem ggJ0_charAt_5068e_J0_isLatin1_aae02 : GoodIn wsJ0_charAt_5068e wsJ0_isLatin1_aae02 := (goodIn_cons (good_rb bq_wsJ0_charAt_5068e ([(0, 5)] : List (Nat × Nat)) rfl (by decide +kernel)) (good_rb bq_wsJ0_charAt_5068e ([(0, 6), (0, 7)] : List (Nat × Nat)) rfl (by decide +kernel)))
set_option maxRecDepth 20000 in
theorem gJ0_charAt_5068e_J0_isLatin1_aae02 : GoodIn wsJ0_charAt_5068e (wsV RJ0 492 RJ0 yJ0_isLatin1_aae02 wsJ0_isLatin1_aae02) := goodIn_app (good_rp ([2, 3, 4, 5] : List Nat) rfl (by decide +kernel)) ggJ0_charAt_5068e_J0_isLatin1_aae02
set_option maxRecDepth 20000 in
theorem ggJ0_charAt_5068e_J1_charAt_3b067 : GoodIn wsJ0_charAt_5068e wsJ1_charAt_3b067 := (goodIn_cons (good_rb bq_wsJ0_charAt_5068e ([(0, 11)] : List (Nat × Nat)) rfl (by decide +kernel)) (good_rb bq_wsJ0_charAt_5068e ([(0, 12), (0, 13), (0, 4), (0, 14), (0, 15), (0, 16), (0, 17), (0, 18), (0, 19)] : List (Nat × Nat)) rfl (by decide +kernel)))
set_option maxRecDepth 20000 in
theorem gJ0_charAt_5068e_J1_charAt_3b067 : GoodIn wsJ0_charAt_5068e (va_wsS RJ0 495 yJ1_charAt_3b067 wsJ1_charAt_3b067) := goodIn_app (good_rp ([9, 10, 11] : List Nat) rfl (by decide +kernel)) ggJ0_charAt_5068e_J1_charAt_3b067
set_option maxRecDepth 20000 in
theorem bq_wsJ0_checkIndex_df160 : subq wsJ0_checkIndex_df160 [[.fieldLink RJ0 1053 "jdk/internal/util/Preconditions" "SIOOBE_FORMATTER" "Ljava/util/function/BiFunction;", .methodLink RJ0 1059 yJ3_checkIndex_8e157, .static yJ3_checkIndex_8e157, .initialized RJ3, .code yJ3_checkIndex_8e157 cJ3_checkIndex_8e157 3 (some .int)]] := ⟨(fun _ h => (List.mem_cons_of_mem _ h)), trivial⟩
set_option maxRecDepth 20000 in
theorem ggJ0_checkIndex_df160_J3_checkIndex_8e157 : GoodIn wsJ0_checkIndex_df160 wsJ3_checkIndex_8e157 := (goodIn_cons (good_rb bq_wsJ0_checkIndex_df160 ([(0, 4)] : List (Nat × Nat)) rfl (by decide +kernel)) (good_rb bq_wsJ0_checkIndex_df160 ([] : List (Nat × Nat)) rfl (by decide +kernel)))
set_option maxRecDepth 20000 in
theorem gJ0_checkIndex_df160_J3_checkIndex_8e157 : GoodIn wsJ0_checkIndex_df160 (va_wsS RJ0 1059 yJ3_checkIndex_8e157 wsJ3_checkIndex_8e157) := goodIn_app (good_rp ([2, 3, 4] : List Nat) rfl (by decide +kernel)) ggJ0_checkIndex_df160_J3_checkIndex_8e157
set_option maxRecDepth 20000 in
theorem bq_wsJ0_length_8abf5 : subq wsJ0_length_8abf5 [[.fieldLink RJ0 9 "java/lang/String" "value" "[B", .methodLink RJ0 335 yJ0_coder_7d493, .instanceMethod yJ0_coder_7d493, .selects RJ0 yJ0_coder_7d493 yJ0_coder_7d493, .initialized RJ0, .code yJ0_coder_7d493 cJ0_coder_7d493 1 (some .byte), .fieldLink RJ0 38 "java/lang/String" "COMPACT_STRINGS" "Z", .fieldLink RJ0 15 "java/lang/String" "coder" "B"]] := ⟨(fun _ h => (List.mem_cons_of_mem _ h)), trivial⟩
set_option maxRecDepth 20000 in
theorem ggJ0_length_8abf5_J0_coder_7d493 : GoodIn wsJ0_length_8abf5 wsJ0_coder_7d493 := (goodIn_cons (good_rb bq_wsJ0_length_8abf5 ([(0, 5)] : List (Nat × Nat)) rfl (by decide +kernel)) (good_rb bq_wsJ0_length_8abf5 ([(0, 6), (0, 7)] : List (Nat × Nat)) rfl (by decide +kernel)))
set_option maxRecDepth 20000 in
theorem gJ0_length_8abf5_J0_coder_7d493 : GoodIn wsJ0_length_8abf5 (wsV RJ0 335 RJ0 yJ0_coder_7d493 wsJ0_coder_7d493) := goodIn_app (good_rp ([2, 3, 4, 5] : List Nat) rfl (by decide +kernel)) ggJ0_length_8abf5_J0_coder_7d493
set_option maxRecDepth 20000 in
theorem bq_wsJ1_charAt_3b067 : subq wsJ1_charAt_3b067 [[.methodLink RJ1 9 yJ0_checkIndex_df160, .static yJ0_checkIndex_df160, .initialized RJ0, .code yJ0_checkIndex_df160 cJ0_checkIndex_df160 2 none, .fieldLink RJ0 1053 "jdk/internal/util/Preconditions" "SIOOBE_FORMATTER" "Ljava/util/function/BiFunction;", .methodLink RJ0 1059 yJ3_checkIndex_8e157, .static yJ3_checkIndex_8e157, .initialized RJ3, .code yJ3_checkIndex_8e157 cJ3_checkIndex_8e157 3 (some .int)]] := ⟨(fun _ h => (List.mem_cons_of_mem _ h)), trivial⟩
set_option maxRecDepth 20000 in
theorem ggJ1_charAt_3b067_J0_checkIndex_df160 : GoodIn wsJ1_charAt_3b067 wsJ0_checkIndex_df160 := (goodIn_cons (good_rb bq_wsJ1_charAt_3b067 ([(0, 3)] : List (Nat × Nat)) rfl (by decide +kernel)) (good_rb bq_wsJ1_charAt_3b067 ([(0, 4), (0, 5), (0, 6), (0, 7), (0, 8)] : List (Nat × Nat)) rfl (by decide +kernel)))
set_option maxRecDepth 20000 in
theorem gJ1_charAt_3b067_J0_checkIndex_df160 : GoodIn wsJ1_charAt_3b067 (va_wsS RJ1 9 yJ0_checkIndex_df160 wsJ0_checkIndex_df160) := goodIn_app (good_rp ([1, 2, 3] : List Nat) rfl (by decide +kernel)) ggJ1_charAt_3b067_J0_checkIndex_df160
set_option maxRecDepth 20000 in
theorem bq_wsJ0_coder_7d493 : subq wsJ0_coder_7d493 [[.fieldLink RJ0 38 "java/lang/String" "COMPACT_STRINGS" "Z", .fieldLink RJ0 15 "java/lang/String" "coder" "B"]] := ⟨(fun _ h => (List.mem_cons_of_mem _ h)), trivial⟩
set_option maxHeartbeats 4000000 in
set_option maxRecDepth 100000 in
theorem c_coder (l : Launch) (D : va_G) (k : Nat → ClassId) (sz a t n : Nat) (f : Nat → Int32) : CtIE l yJ0_coder_7d493 wsJ0_coder_7d493 (rmK 1 0 0) [.ref a] D k (ES a t n f) sz [] (fun (r : Int32) (_ : Unit) => r = 0) (fun _ : Unit => []) 0 0 := by
  refine CtIE.mk (cc := cJ0_coder_7d493) (maxL := 1) (ret := some .byte) (by decide) rfl (Nat.le_of_ble_eq_true rfl) ?_
  intro p e s m below meth c A ls hE E hP hD hS hl
  obtain ⟨hx, hb, hr, hml, hown, hts, hlocks, hin, hG, hA⟩ := E
  have hown : s.vm.findClass RJ0 = some m.cls := hown
  have hl : lv_has ls 1 [(0, .ref a)] := hl
  refine va_gets hx hb hE.1 hS hown (hts (.fieldLink RJ0 38 "java/lang/String" "COMPACT_STRINGS" "Z") (mem_b bq_wsJ0_coder_7d493 0 0 rfl)) (fun _ h => h) dJ0_coder_7d493_0 ?_
  refine lv_if_eq (tgt := 13) hx hb dJ0_coder_7d493_3 (by decide) (fun h => absurd h (by decide)) (fun _ => ?_)
  refine lv_aload_n hx hb dJ0_coder_7d493_6 rfl (lv_at hl 0 rfl) ?_
  refine vk_getf hx hb hE.2.1.2.1 hS hown (hts (.fieldLink RJ0 15 "java/lang/String" "coder" "B") (mem_b bq_wsJ0_coder_7d493 0 1 rfl)) (fun _ h => h) dJ0_coder_7d493_7 ?_
  refine lv_goto (tgt := 14) hx hb dJ0_coder_7d493_10 (by decide) ?_
  exact W.zret hx hb hr rfl (fun t ht hW => ⟨⟨0, (), rfl, rfl, by rw [ht]; exact hP, hD⟩, hS.F ht⟩) hS.2.2 dJ0_coder_7d493_14 hlocks
set_option maxHeartbeats 4000000 in
set_option maxRecDepth 100000 in
theorem c_length (l : Launch) (D : va_G) (k : Nat → ClassId) (sz a t n : Nat) (f : Nat → Int32) : CtIE l yJ0_length_8abf5 wsJ0_length_8abf5 (rmK 2 0 0) [.ref a] D k (ES a t n f) sz [] (fun (r : Int32) (_ : Unit) => r = nI n) (fun _ : Unit => []) 0 0 := by
  refine CtIE.mk (cc := cJ0_length_8abf5) (maxL := 1) (ret := some .int) (by decide) rfl (Nat.le_of_ble_eq_true rfl) ?_
  intro p e s m below meth c A ls hE E hP hD hS hl
  obtain ⟨hx, hb, hr, hml, hown, hts, hlocks, hin, hG, hA⟩ := E
  have hown : s.vm.findClass RJ0 = some m.cls := hown
  have hl : lv_has ls 1 [(0, .ref a)] := hl
  refine lv_aload_n hx hb dJ0_length_8abf5_0 rfl (lv_at hl 0 rfl) ?_
  refine vk_getf hx hb hE.2.1.2.2.1 hS hown (hts (.fieldLink RJ0 9 "java/lang/String" "value" "[B") (mem_b bq_wsJ0_length_8abf5 0 0 rfl)) (fun _ h => h) dJ0_length_8abf5_1 ?_
  have hf := hE.2.1.2.2.2
  refine va_tlen (v := nI n) hx hb hf hS rfl dJ0_length_8abf5_4 ?_
  refine lv_aload_n hx hb dJ0_length_8abf5_5 rfl (lv_at hl 0 rfl) ?_
  refine hc_ViE (As := []) (rest := [.int (nI n)]) (n := 0) (wr := []) (ES.ok a t n f) hE hx hb hml hown hts hG hA hP hD hS hl.1 [] [] (c_coder l D k _ a t n f) (va_Orecv hE.2.1.1 hS) gJ0_length_8abf5_J0_coder_7d493 rfl ⟨rfl, rfl, Nat.le_of_ble_eq_true rfl, Nat.le_of_ble_eq_true rfl⟩ (by decide +kernel) rfl rfl ⟨by decide +kernel, by decide +kernel, by decide +kernel⟩ ⟨rfl, rfl, Nat.le_of_ble_eq_true rfl, Nat.le_of_ble_eq_true rfl, Nat.le_of_ble_eq_true rfl⟩ dJ0_length_8abf5_6 (fun r u H locs hw hP hD hS => ?_)
  obtain rfl : r = 0 := hw
  refine lv_ishr hx hb dJ0_length_8abf5_9 ?_
  refine hc_is (z := nI n) (sb_shr0 _) ?_
  exact hc_end hx hb hr hlocks () rfl hP hD hS dJ0_length_8abf5_10
set_option maxRecDepth 20000 in
theorem bq_wsJ0_isLatin1_aae02 : subq wsJ0_isLatin1_aae02 [[.fieldLink RJ0 38 "java/lang/String" "COMPACT_STRINGS" "Z", .fieldLink RJ0 15 "java/lang/String" "coder" "B"]] := ⟨(fun _ h => (List.mem_cons_of_mem _ h)), trivial⟩
set_option maxHeartbeats 4000000 in
set_option maxRecDepth 100000 in
theorem c_latin (l : Launch) (D : va_G) (k : Nat → ClassId) (sz a t n : Nat) (f : Nat → Int32) : CtIE l yJ0_isLatin1_aae02 wsJ0_isLatin1_aae02 (rmK 1 0 0) [.ref a] D k (ES a t n f) sz [] (fun (r : Int32) (_ : Unit) => r = 1) (fun _ : Unit => []) 0 0 := by
  refine CtIE.mk (cc := cJ0_isLatin1_aae02) (maxL := 1) (ret := some .boolean) (by decide) rfl (Nat.le_of_ble_eq_true rfl) ?_
  intro p e s m below meth c A ls hE E hP hD hS hl
  obtain ⟨hx, hb, hr, hml, hown, hts, hlocks, hin, hG, hA⟩ := E
  have hown : s.vm.findClass RJ0 = some m.cls := hown
  have hl : lv_has ls 1 [(0, .ref a)] := hl
  refine va_gets hx hb hE.1 hS hown (hts (.fieldLink RJ0 38 "java/lang/String" "COMPACT_STRINGS" "Z") (mem_b bq_wsJ0_isLatin1_aae02 0 0 rfl)) (fun _ h => h) dJ0_isLatin1_aae02_0 ?_
  refine lv_if_eq (tgt := 17) hx hb dJ0_isLatin1_aae02_3 (by decide) (fun h => absurd h (by decide)) (fun _ => ?_)
  refine lv_aload_n hx hb dJ0_isLatin1_aae02_6 rfl (lv_at hl 0 rfl) ?_
  refine vk_getf hx hb hE.2.1.2.1 hS hown (hts (.fieldLink RJ0 15 "java/lang/String" "coder" "B") (mem_b bq_wsJ0_isLatin1_aae02 0 1 rfl)) (fun _ h => h) dJ0_isLatin1_aae02_7 ?_
  refine lv_if_ne (tgt := 17) hx hb dJ0_isLatin1_aae02_10 (by decide) (fun h => absurd rfl h) (fun _ => ?_)
  refine lv_iconst (v := 1) hx hb dJ0_isLatin1_aae02_13 (by decide) ?_
  refine lv_goto (tgt := 18) hx hb dJ0_isLatin1_aae02_14 (by decide) ?_
  exact hc_endZ hx hb hr hlocks rfl () rfl hP hD hS dJ0_isLatin1_aae02_18
set_option maxHeartbeats 4000000 in
set_option maxRecDepth 100000 in
theorem c_pcheck (l : Launch) (D : va_G) (k : Nat → ClassId) (sz : Nat) (fo : Option Nat) (i n : Int32) (h0 : 0 ≤ i.toInt) (h1 : i.toInt < n.toInt) : CtI l yJ3_checkIndex_8e157 wsJ3_checkIndex_8e157 (rmK 1 0 0) [.int i, .int n, va_rf fo] D k sz [] (fun (r : Int32) (_ : Unit) => r = i) (fun _ : Unit => []) 0 0 := by
  refine CtI.mk (cc := cJ3_checkIndex_8e157) (maxL := 3) (ret := some .int) (by decide) rfl (by cases fo <;> exact Nat.le_of_ble_eq_true rfl) ?_
  intro p e s m below meth c A ls E hP hD hS hl
  obtain ⟨hx, hb, hr, hml, hown, hts, hlocks, hin, hG, hA⟩ := E
  have hl : lv_has ls 3 [(0, .int i), (1, .int n), (2, va_rf fo)] := (by cases fo <;> exact hl)
  refine lv_iload_n hx hb dJ3_checkIndex_8e157_0 rfl (lv_at hl 0 rfl) ?_
  refine lv_if_lt (tgt := 9) hx hb dJ3_checkIndex_8e157_1 (by decide) (fun h => absurd h (cd_lt_f (a := i.toInt) (b := 0) rfl (by decide) (by omega))) (fun _ => ?_)
  refine lv_iload_n hx hb dJ3_checkIndex_8e157_4 rfl (lv_at hl 0 rfl) ?_
  refine lv_iload_n hx hb dJ3_checkIndex_8e157_5 rfl (lv_at hl 1 rfl) ?_
  refine lv_icmp_lt (tgt := 16) hx hb dJ3_checkIndex_8e157_6 (by decide) (fun _ => ?_) (fun h => absurd (cd_lt_t (a := i.toInt) (b := n.toInt) rfl rfl (by omega)) h)
  refine lv_iload_n hx hb dJ3_checkIndex_8e157_16 rfl (lv_at hl 0 rfl) ?_
  exact hc_end hx hb hr hlocks () rfl hP hD hS dJ3_checkIndex_8e157_17
theorem fmt_get {p : Program} {l : Launch} {e : Env} {R : Room} {s : State} {m : MethodId} {args : Array Value} {below : List Frame} {meth : Method} {c : Code} {H : Heap} {locs : List Loc} {cells slots : Nat} {Q : State → Prop} {pc : Nat} {ls : Array Slot} {rest : List Value} {A : Nat → Prop} {cc : ByteArray} {own : String} {index : Nat} (hx : p.tables.exec = Jvm.exec) (hb : c.code = cc) (hZ : fmtF A s s.heap) (hS : va_S A s.heap H locs) (hown : s.vm.findClass own = some m.cls) (hlink : (Cond.fieldLink own index "jdk/internal/util/Preconditions" "SIOOBE_FORMATTER" "Ljava/util/function/BiFunction;").before args s = true) (hdg : decode cc pc = .ok (.getstatic index, 3)) (kk : ∀ fo : Option Nat, W p l e R s m args below meth c H locs cells slots Q (F0 m (pc + 3) ls (va_rf fo :: rest))) : W p l e R s m args below meth c H locs cells slots Q (F0 m pc ls rest) := by
  rcases hZ with h | ⟨t, h⟩
  · exact va_gets hx hb h hS hown hlink (fun _ h => h) hdg (kk none)
  · exact va_gets hx hb h hS hown hlink (fun _ h => h) hdg (kk (some t))
set_option maxHeartbeats 4000000 in
set_option maxRecDepth 100000 in
theorem c_scheck (l : Launch) (D : va_G) (k : Nat → ClassId) (sz : Nat) (i n : Int32) (h0 : 0 ≤ i.toInt) (h1 : i.toInt < n.toInt) : CtVE l yJ0_checkIndex_df160 wsJ0_checkIndex_df160 (rmK 2 0 0) [.int i, .int n] D k (fun A U => fmtF A U U.heap) sz [] (fun _ : Unit => True) (fun _ : Unit => []) 0 0 := by
  refine CtVE.mk (cc := cJ0_checkIndex_df160) (maxL := 2) (ret := none) (by decide) rfl (Nat.le_of_ble_eq_true rfl) ?_
  intro p e s m below meth c A ls hE E hP hD hS hl
  obtain ⟨hx, hb, hr, hml, hown, hts, hlocks, hin, hG, hA⟩ := E
  have hown : s.vm.findClass RJ0 = some m.cls := hown
  have hl : lv_has ls 2 [(0, .int i), (1, .int n)] := hl
  refine lv_iload_n hx hb dJ0_checkIndex_df160_0 rfl (lv_at hl 0 rfl) ?_
  refine lv_iload_n hx hb dJ0_checkIndex_df160_1 rfl (lv_at hl 1 rfl) ?_
  refine fmt_get hx hb hE hS hown (hts (.fieldLink RJ0 1053 "jdk/internal/util/Preconditions" "SIOOBE_FORMATTER" "Ljava/util/function/BiFunction;") (mem_b bq_wsJ0_checkIndex_df160 0 0 rfl)) dJ0_checkIndex_df160_2 (fun fo => ?_)
  refine hc_Si (As := [.int i, .int n, va_rf fo]) (rest := []) (n := 3) (wr := []) hx hb hml hown hts hG hA hP hD hS hl.1 [] [] (c_pcheck l D k _ fo i n h0 h1) gJ0_checkIndex_df160_J3_checkIndex_8e157 rfl ⟨rfl, rfl, Nat.le_of_ble_eq_true rfl, Nat.le_of_ble_eq_true rfl⟩ (by decide +kernel) rfl rfl ⟨by decide +kernel, by decide +kernel, by decide +kernel⟩ ⟨rfl, rfl, Nat.le_of_ble_eq_true rfl, Nat.le_of_ble_eq_true rfl, Nat.le_of_ble_eq_true rfl⟩ dJ0_checkIndex_df160_5 (fun r u H locs hw hP hD hS => ?_)
  refine lv_pop hx hb dJ0_checkIndex_df160_8 rfl ?_
  exact hc_endV hx hb hr hlocks () trivial hP hD hS dJ0_checkIndex_df160_9
set_option maxHeartbeats 4000000 in
set_option maxRecDepth 100000 in
theorem c_lchar (l : Launch) (D : va_G) (k : Nat → ClassId) (sz t n : Nat) (f : Nat → Int32) (i : Int32) (hn : n < 1000) (h0 : 0 ≤ i.toInt) (h1 : i.toInt < n) : CtIE l yJ1_charAt_3b067 wsJ1_charAt_3b067 (rmK 3 0 0) [.ref t, .int i] D k (EB t n f) sz [] (fun (r : Int32) (_ : Unit) => r = f (Int32.toNatClampNeg i) &&& 255) (fun _ : Unit => []) 0 0 := by
  refine CtIE.mk (cc := cJ1_charAt_3b067) (maxL := 2) (ret := some .char) (by decide) rfl (Nat.le_of_ble_eq_true rfl) ?_
  intro p e s m below meth c A ls hE E hP hD hS hl
  obtain ⟨hx, hb, hr, hml, hown, hts, hlocks, hin, hG, hA⟩ := E
  have hown : s.vm.findClass RJ1 = some m.cls := hown
  have hl : lv_has ls 2 [(0, .ref t), (1, .int i)] := hl
  have hf := hE.1
  have hnI : (nI n).toInt = n := nI_toInt (by omega)
  refine lv_iload_n hx hb dJ1_charAt_3b067_0 rfl (lv_at hl 1 rfl) ?_
  refine lv_aload_n hx hb dJ1_charAt_3b067_1 rfl (lv_at hl 0 rfl) ?_
  refine va_tlen (v := nI n) hx hb hf hS rfl dJ1_charAt_3b067_2 ?_
  refine hc_SvE (As := [.int i, .int (nI n)]) (rest := []) (n := 2) (wr := []) fmt.ok hE.2 hx hb hml hown hts hG hA hP hD hS hl.1 [] [] (c_scheck l D k _ i (nI n) h0 (by omega)) gJ1_charAt_3b067_J0_checkIndex_df160 rfl ⟨rfl, rfl, Nat.le_of_ble_eq_true rfl, Nat.le_of_ble_eq_true rfl⟩ (by decide +kernel) rfl rfl ⟨by decide +kernel, by decide +kernel, by decide +kernel⟩ ⟨rfl, rfl, Nat.le_of_ble_eq_true rfl, Nat.le_of_ble_eq_true rfl, Nat.le_of_ble_eq_true rfl⟩ dJ1_charAt_3b067_3 (fun u H locs hw hP hD hS => ?_)
  refine lv_aload_n hx hb dJ1_charAt_3b067_6 rfl (lv_at hl 0 rfl) ?_
  refine lv_iload_n hx hb dJ1_charAt_3b067_7 rfl (lv_at hl 1 rfl) ?_
  refine va_tb hx hb hf hS (vp_in_iff.mpr ⟨by omega, by omega⟩) rfl dJ1_charAt_3b067_8 ?_
  refine lv_sipush (v := 255) hx hb dJ1_charAt_3b067_9 (by decide) ?_
  refine lv_iand hx hb dJ1_charAt_3b067_12 ?_
  refine lv_topi (fun z ez => ?_)
  have bz : iv 0 255 z := ai_mask 8 (by decide) (by decide) ez
  have b1 := bz.1
  have b2 := bz.2
  refine lv_i2c (v := z) hx hb dJ1_charAt_3b067_13 (lg_i2c_word b1 (by omega)) ?_
  exact hc_endC hx hb hr hlocks ⟨by omega, by omega⟩ () ez hP hD hS dJ1_charAt_3b067_14
set_option maxHeartbeats 4000000 in
set_option maxRecDepth 100000 in
theorem c_charAt (l : Launch) (D : va_G) (k : Nat → ClassId) (sz a t n : Nat) (f : Nat → Int32) (i : Int32) (hn : n < 1000) (h0 : 0 ≤ i.toInt) (h1 : i.toInt < n) : CtIE l yJ0_charAt_5068e wsJ0_charAt_5068e (rmK 4 0 0) [.ref a, .int i] D k (ES a t n f) sz [] (fun (r : Int32) (_ : Unit) => r = f (Int32.toNatClampNeg i) &&& 255) (fun _ : Unit => []) 0 0 := by
  refine CtIE.mk (cc := cJ0_charAt_5068e) (maxL := 2) (ret := some .char) (by decide) rfl (Nat.le_of_ble_eq_true rfl) ?_
  intro p e s m below meth c A ls hE E hP hD hS hl
  obtain ⟨hx, hb, hr, hml, hown, hts, hlocks, hin, hG, hA⟩ := E
  have hown : s.vm.findClass RJ0 = some m.cls := hown
  have hl : lv_has ls 2 [(0, .ref a), (1, .int i)] := hl
  refine lv_aload_n hx hb dJ0_charAt_5068e_0 rfl (lv_at hl 0 rfl) ?_
  refine hc_ViE (As := []) (rest := []) (n := 0) (wr := []) (ES.ok a t n f) hE hx hb hml hown hts hG hA hP hD hS hl.1 [] [] (c_latin l D k _ a t n f) (va_Orecv hE.2.1.1 hS) gJ0_charAt_5068e_J0_isLatin1_aae02 rfl ⟨rfl, rfl, Nat.le_of_ble_eq_true rfl, Nat.le_of_ble_eq_true rfl⟩ (by decide +kernel) rfl rfl ⟨by decide +kernel, by decide +kernel, by decide +kernel⟩ ⟨rfl, rfl, Nat.le_of_ble_eq_true rfl, Nat.le_of_ble_eq_true rfl, Nat.le_of_ble_eq_true rfl⟩ dJ0_charAt_5068e_1 (fun r u H locs hw hP hD hS => ?_)
  obtain rfl : r = 1 := hw
  refine lv_if_eq (tgt := 16) hx hb dJ0_charAt_5068e_4 (by decide) (fun h => absurd h (by decide)) (fun _ => ?_)
  refine lv_aload_n hx hb dJ0_charAt_5068e_7 rfl (lv_at hl 0 rfl) ?_
  refine vk_getf hx hb hE.2.1.2.2.1 hS hown (hts (.fieldLink RJ0 9 "java/lang/String" "value" "[B") (mem_b bq_wsJ0_charAt_5068e 0 0 rfl)) (fun _ h => h) dJ0_charAt_5068e_8 ?_
  refine lv_iload_n hx hb dJ0_charAt_5068e_11 rfl (lv_at hl 1 rfl) ?_
  refine hc_SiE (As := [.ref t, .int i]) (rest := []) (n := 2) (wr := []) (EB.ok t n f) ⟨hE.2.1.2.2.2, hE.2.2⟩ hx hb hml hown hts hG hA hP hD hS hl.1 [] [] (c_lchar l D k _ t n f i hn h0 h1) gJ0_charAt_5068e_J1_charAt_3b067 rfl ⟨rfl, rfl, Nat.le_of_ble_eq_true rfl, Nat.le_of_ble_eq_true rfl⟩ (by decide +kernel) rfl rfl ⟨by decide +kernel, by decide +kernel, by decide +kernel⟩ ⟨rfl, rfl, Nat.le_of_ble_eq_true rfl, Nat.le_of_ble_eq_true rfl, Nat.le_of_ble_eq_true rfl⟩ dJ0_charAt_5068e_12 (fun r u H locs hw hP hD hS => ?_)
  have hw : r = f (Int32.toNatClampNeg i) &&& 255 := hw
  have bz : iv 0 255 r := ai_mask 8 (by decide) (by decide) hw
  exact hc_endC hx hb hr hlocks ⟨bz.1, by have := bz.2; omega⟩ () hw hP hD hS dJ0_charAt_5068e_15
noncomputable def CtRE (l : Launch) (y : MethodName) (wd : List Cond) (rm : Room) (av : List Value) (D : va_G) (k : Nat → ClassId) (E : (Nat → Prop) → State → Prop) (sz : Nat) (a : Nat) : Prop := Met l y wd rm (va_Pc av (fun U => hcP D k sz [] U ∧ E (va_A [] sz) U)) (va_Qr (fun _ : Unit => True) (fun _ ra _ => ra = a) (va_A [] sz)) 0 0 (va_A [] sz)
theorem CtRE.mk {l : Launch} {y : MethodName} {wd wd' : List Cond} {rm : Room} {av : List Value} {D : va_G} {k : Nat → ClassId} {E : (Nat → Prop) → State → Prop} {sz a : Nat} {cc : ByteArray} {maxL : Nat} {ret : Option FieldType} (hy : plainName y.cls = true) (hw : wd = Cond.code y cc maxL ret :: wd') (hlv : (lg_sl av).length ≤ maxL)
    (body : ∀ (p : Program) (e : Env) (s : State) (m : MethodId) (below : List Frame) (meth : Method) (c : Code) (A : Nat → Prop) (ls : Array Slot), E A s → En p s m av.toArray meth c y cc ret maxL wd D k A → va_S A s.heap s.heap [] → lv_has ls maxL (lv_args 0 av) → W p l e rm s m av.toArray below meth c s.heap [] 0 0 (MQ below (va_Qr (fun _ : Unit => True) (fun _ ra _ => ra = a) A) av.toArray s 0 0 A) (F0 m 0 ls [])) : CtRE l y wd rm av D k E sz a := by
  refine Met.ofW (cc := cc) (maxL := maxL) (ret := ret) hy hw ?_
  intro p e s m args below meth c s₁ B hml hv
  obtain ⟨rfl, ⟨hsz, hP, hG, hD0⟩, hE⟩ := hv
  subst hsz
  have hts := atoms_spec (ws := wd) B.pre
  have hl := lv_entry av (n := maxL) hlv
  rw [lg_entry_eq]
  exact body p e s m below meth c (va_A [] s.heap.size) _ hE ⟨B.exec, B.bytes, B.returns, hml, findClass_of_methodNamed B.named, hts, B.notSynchronized, (name_of_methodNamed B.named B.method).1, hG, fun q h => Or.inr h⟩ va_S.rf hl
section HTY
variable {p : Program} {l : Launch} {e : Env} {R : Room} {s : State} {m : MethodId} {args : Array Value} {below : List Frame} {meth : Method} {c : Code} {H : Heap} {locs : List Loc} {cells slots : Nat} {Q : State → Prop} {pc : Nat} {ls : Array Slot} {rest st0 As : List Value} {D : va_G} {k : Nat → ClassId} {A : Nat → Prop} {ws wc wr : va_W} {cc : ByteArray} {y : MethodName} {wd wd' Ts : List Cond} {rm : Room} {mc ms n index maxL nL : Nat} {bytes : ByteArray} {ret : Option FieldType} {own C host : String} {b : Nat} {E : (Nat → Prop) → State → Prop}
theorem hc_ldcwS {p : Program} {l : Launch} {e : Env} {R : Room} {s : State} {m : MethodId} {args : Array Value} {below : List Frame} {meth : Method} {c : Code} {T : State} {locs : List Loc} {cells slots : Nat}
    (X : Stand p l e R s m args below meth c T locs cells slots) (hexec : p.tables.exec = Jvm.exec) {own text : String} {index : Nat} {a : Addr} (hown : s.vm.findClass own = some m.cls)
    (hconst : (Cond.stringRef own index text).before #[] s = true) (hev : (Term.string own index).eval #[] s none [] s = some (.ref a)) {g : JFrame} (hg : g.method = m) (hdg : decode c.code g.pc = .ok (.ldc_w index, 3)) :
    ∀ target, Steps p.tables e below (T.setTop { g with pc := g.pc + 3, stack := .ref a :: g.stack }) target → Steps p.tables e below (T.setTop g) target := by
  obtain ⟨k, cf, i, a', hk, hcf, hcp, -, hr, hev'⟩ := Cond.stringRef_spec hown hconst
  cases hev.symm.trans hev'
  obtain ⟨k', hk', he⟩ := X.warmed.alike.2.2 _ _ hk
  have hr' : k'.resolved[index]? = some (some (.string a)) := by
    rcases X.warmed.entry hk hk' index with h | ⟨h, -⟩
    · rw [h]; exact hr
    · rw [hr] at h; cases h
  intro target hrest
  subst hg
  jvm_step X.here [hexec, hdg, ldc_w.wp_string (s := T) (f := g) X.here.top hk' (by rw [he]; exact hcf) hcp hr']
  exact hrest
theorem hc_ldcw (hx : p.tables.exec = Jvm.exec) (hb : c.code = cc) {tx : String} {q : Nat} (hown : s.vm.findClass own = some m.cls) (hZ : vk_R own index tx q s) (hdg : decode cc pc = .ok (.ldc_w index, 3))
    (kk : W p l e R s m args below meth c H locs cells slots Q (F0 m (pc + 3) ls (.ref q :: rest))) : W p l e R s m args below meth c H locs cells slots Q (F0 m pc ls rest) := by
  intro T hT X
  obtain ⟨t, a1, b1⟩ := kk T hT X
  exact ⟨t, hc_ldcwS X hx hown hZ.1 hZ.2 (g := F0 m pc ls rest) rfl (by rw [hb]; exact hdg) t a1, b1⟩
theorem hc_SrE {ra0 : Nat} (hE : EOk E) (hT : E A s) (hx : p.tables.exec = Jvm.exec) (hb : c.code = cc) (hml : c.maxLocals = nL) (hown : s.vm.findClass own = some m.cls) (hts : ∀ w ∈ Ts, w.before args s = true) (hG : GK D k s) (hA : ∀ q : Nat, s.heap.size ≤ q → A q) (hP : va_P D vwCl ws H) (hD : va_D A ws) (hS : va_S A s.heap H locs) (hsz : ls.size = nL)
    (isR : List Nat) (hM : CtRE l y wd rm As D k E H.size ra0) (hg : GoodIn Ts (va_wsS own index y wd)) (hw : wd = Cond.code y bytes maxL ret :: wd') (hrc : rm.cells = 0 ∧ rm.slots = 0 ∧ rm.frames + 1 ≤ R.frames ∧ 8 + (maxL + 11) + rm.locals ≤ R.locals) (hd : hcD y n)
    (hR : isR.map (fun i => ws[i]?) = wr.map some) (hn : va_nd isR = true) (hst : As.length = n ∧ st0 = As.reverse ++ rest ∧ (rest.map fun v => v.category).sum ≤ 8 ∧ cells + 0 ≤ R.cells ∧ slots + 0 ≤ R.slots) (hdg : decode cc pc = .ok (.invokestatic index, 3))
    (kk : ∀ (H : Heap) (locs : List Loc), va_P D vwCl wr H → va_D A wr → va_S A s.heap H locs → W p l e R s m args below meth c H locs (cells + 0) (slots + 0) Q (F0 m (pc + 3) ls (.ref ra0 :: rest))) : W p l e R s m args below meth c H locs cells slots Q (F0 m pc ls st0) := by
  have hFc := va_free (wc := []) hD hS hA [] rfl
  refine va_callr (va_runS (As := As) (rest := rest) ⟨hx, hb, hml, hown, hts⟩ hM (va_cwS n hts hg hw hrc.1 hrc.2.1 hd hrc.2.2) (hc_pSE (wc := []) hE hT hS hA hG hP hD [] rfl rfl) rfl hst.1 hsz hst.2.1 (lv_room hst.2.2.1) hdg hst.2.2.2) hS (fun q _ h => hFc q h) hFc (fun u ra t H1 locs ht hvm hw hB hz1 hk1 hS => ?_)
  subst hB
  obtain ⟨hP, hD⟩ := va_join (wr := wr) (w1 := []) hP hD [] isR rfl hR hn (fun _ _ h => by cases h) hk1 hFc (fun k q h => by simp at h) ⟨fun i j p q h => by simp at h, fun k q h => by simp at h⟩
  rw [List.append_nil] at hP hD
  exact kk H1 locs hP hD hS
end HTY
noncomputable def wdX (x : Int32) : Nat := if x = 260 then 0 else if x = 261 then 1 else if x = 262 then 2 else if x = 263 then 3 else if x = 264 then 4 else if x = 265 then 5 else if x = 266 then 6 else if x = 267 then 7 else if x = 268 then 8 else if x = 269 then 9 else if x = 270 then 10 else if x = 271 then 11 else if x = 272 then 12 else if x = 273 then 13 else if x = 274 then 14 else if x = 275 then 15 else if x = 276 then 16 else if x = 277 then 17 else 18
noncomputable def wdY (x : Int32) : Nat := if x = 0 then 0 else if x = 1 then 1 else if x = 2 then 2 else if x = 3 then 3 else if x = 4 then 4 else if x = 5 then 5 else if x = 6 then 6 else if x = 7 then 7 else if x = 8 then 8 else if x = 9 then 9 else 10
noncomputable def wdH (x : Int32) : Nat := if x = 0 then 11 else if x = 1 then 12 else if x = 2 then 1 else 0
