/-! texts that the machine holds ready: a contract may ask for what stands outside its world -/
def CtIE (l : Launch) (y : MethodName) (wd : List Cond) (rm : Room) (av : List Value) (D : va_G) (k : Nat → ClassId) (E : (Nat → Prop) → State → Prop) (sz : Nat) (ws : va_W) {S : Type} (post : Int32 → S → Prop) (wp : S → va_W) (mc ms : Nat) : Prop := Met l y wd rm (va_Pc av (fun U => hcP D k sz ws U ∧ E (va_A ws sz) U)) (va_Qi post (hcB D wp (va_A ws sz)) (va_A ws sz)) mc ms (va_A ws sz)
def CtVE (l : Launch) (y : MethodName) (wd : List Cond) (rm : Room) (av : List Value) (D : va_G) (k : Nat → ClassId) (E : (Nat → Prop) → State → Prop) (sz : Nat) (ws : va_W) {S : Type} (post : S → Prop) (wp : S → va_W) (mc ms : Nat) : Prop := Met l y wd rm (va_Pc av (fun U => hcP D k sz ws U ∧ E (va_A ws sz) U)) (va_Qv post (hcB D wp (va_A ws sz)) (va_A ws sz)) mc ms (va_A ws sz)
def CtRE (l : Launch) (y : MethodName) (wd : List Cond) (rm : Room) (av : List Value) (D : va_G) (k : Nat → ClassId) (E : (Nat → Prop) → State → Prop) (sz : Nat) (a : Nat) : Prop := Met l y wd rm (va_Pc av (fun U => hcP D k sz [] U ∧ E (va_A [] sz) U)) (va_Qr (fun _ : Unit => True) (fun _ ra _ => ra = a) (va_A [] sz)) 0 0 (va_A [] sz)
def EOk (E : (Nat → Prop) → State → Prop) : Prop := (∀ (A : Nat → Prop) (U : State) (g : JFrame) (mk : MethodId) (a : Array Value), E A U → E A (U.calling g mk a)) ∧ ∀ (A B : Nat → Prop) (s U : State) (H : Heap) (locs : List Loc), E A s → va_S A s.heap H locs → (∀ q, B q → A q) → U.heap = H → s.WarmedH U.vm → E B U
theorem CtIE.mk {l : Launch} {y : MethodName} {wd wd' : List Cond} {rm : Room} {av : List Value} {D : va_G} {k : Nat → ClassId} {E : (Nat → Prop) → State → Prop} {sz : Nat} {ws : va_W} {S : Type} {post : Int32 → S → Prop} {wp : S → va_W} {mc ms : Nat} {cc : ByteArray} {maxL : Nat} {ret : Option FieldType} (hy : plainName y.cls = true) (hw : wd = Cond.code y cc maxL ret :: wd') (hlv : (lg_sl av).length ≤ maxL)
    (body : ∀ (p : Program) (e : Env) (s : State) (m : MethodId) (below : List Frame) (meth : Method) (c : Code) (A : Nat → Prop) (ls : Array Slot), E A s → En p s m av.toArray meth c y cc ret maxL wd D k A → va_P D vwCl ws s.heap → va_D A ws → va_S A s.heap s.heap [] → lv_has ls maxL (lv_args 0 av) → W p l e rm s m av.toArray below meth c s.heap [] 0 0 (MQ below (va_Qi post (hcB D wp A) A) av.toArray s mc ms A) (F0 m 0 ls [])) : CtIE l y wd rm av D k E sz ws post wp mc ms := by
  refine Met.ofW (cc := cc) (maxL := maxL) (ret := ret) hy hw ?_
  intro p e s m args below meth c s₁ B hml hv
  obtain ⟨rfl, ⟨hsz, hP, hG, hD0⟩, hE⟩ := hv
  subst hsz
  have hts := atoms_spec (ws := wd) B.pre
  have hl := lv_entry av (n := maxL) hlv
  rw [lg_entry_eq]
  exact body p e s m below meth c (va_A ws s.heap.size) _ hE ⟨B.exec, B.bytes, B.returns, hml, findClass_of_methodNamed B.named, hts, B.notSynchronized, (name_of_methodNamed B.named B.method).1, hG, fun q h => Or.inr h⟩ hP (hD0.self (sz := s.heap.size)) va_S.rf hl
theorem CtVE.mk {l : Launch} {y : MethodName} {wd wd' : List Cond} {rm : Room} {av : List Value} {D : va_G} {k : Nat → ClassId} {E : (Nat → Prop) → State → Prop} {sz : Nat} {ws : va_W} {S : Type} {post : S → Prop} {wp : S → va_W} {mc ms : Nat} {cc : ByteArray} {maxL : Nat} {ret : Option FieldType} (hy : plainName y.cls = true) (hw : wd = Cond.code y cc maxL ret :: wd') (hlv : (lg_sl av).length ≤ maxL)
    (body : ∀ (p : Program) (e : Env) (s : State) (m : MethodId) (below : List Frame) (meth : Method) (c : Code) (A : Nat → Prop) (ls : Array Slot), E A s → En p s m av.toArray meth c y cc ret maxL wd D k A → va_P D vwCl ws s.heap → va_D A ws → va_S A s.heap s.heap [] → lv_has ls maxL (lv_args 0 av) → W p l e rm s m av.toArray below meth c s.heap [] 0 0 (MQ below (va_Qv post (hcB D wp A) A) av.toArray s mc ms A) (F0 m 0 ls [])) : CtVE l y wd rm av D k E sz ws post wp mc ms := by
  refine Met.ofW (cc := cc) (maxL := maxL) (ret := ret) hy hw ?_
  intro p e s m args below meth c s₁ B hml hv
  obtain ⟨rfl, ⟨hsz, hP, hG, hD0⟩, hE⟩ := hv
  subst hsz
  have hts := atoms_spec (ws := wd) B.pre
  have hl := lv_entry av (n := maxL) hlv
  rw [lg_entry_eq]
  exact body p e s m below meth c (va_A ws s.heap.size) _ hE ⟨B.exec, B.bytes, B.returns, hml, findClass_of_methodNamed B.named, hts, B.notSynchronized, (name_of_methodNamed B.named B.method).1, hG, fun q h => Or.inr h⟩ hP (hD0.self (sz := s.heap.size)) va_S.rf hl
theorem CtRE.mk {l : Launch} {y : MethodName} {wd wd' : List Cond} {rm : Room} {av : List Value} {D : va_G} {k : Nat → ClassId} {E : (Nat → Prop) → State → Prop} {sz a : Nat} {cc : ByteArray} {maxL : Nat} {ret : Option FieldType} (hy : plainName y.cls = true) (hw : wd = Cond.code y cc maxL ret :: wd') (hlv : (lg_sl av).length ≤ maxL)
    (body : ∀ (p : Program) (e : Env) (s : State) (m : MethodId) (below : List Frame) (meth : Method) (c : Code) (A : Nat → Prop) (ls : Array Slot), E A s → En p s m av.toArray meth c y cc ret maxL wd D k A → va_S A s.heap s.heap [] → lv_has ls maxL (lv_args 0 av) → W p l e rm s m av.toArray below meth c s.heap [] 0 0 (MQ below (va_Qr (fun _ : Unit => True) (fun _ ra _ => ra = a) A) av.toArray s 0 0 A) (F0 m 0 ls [])) : CtRE l y wd rm av D k E sz a := by
  refine Met.ofW (cc := cc) (maxL := maxL) (ret := ret) hy hw ?_
  intro p e s m args below meth c s₁ B hml hv
  obtain ⟨rfl, ⟨hsz, hP, hG, hD0⟩, hE⟩ := hv
  subst hsz
  have hts := atoms_spec (ws := wd) B.pre
  have hl := lv_entry av (n := maxL) hlv
  rw [lg_entry_eq]
  exact body p e s m below meth c (va_A [] s.heap.size) _ hE ⟨B.exec, B.bytes, B.returns, hml, findClass_of_methodNamed B.named, hts, B.notSynchronized, (name_of_methodNamed B.named B.method).1, hG, fun q h => Or.inr h⟩ va_S.rf hl
/-- a text: its object, its bytes' row -/
def strF (A : Nat → Prop) (a t n : Nat) (U : State) (H : Heap) : Prop := va_O "java/lang/String" a A U H ∧ va_OF "java/lang/String" "coder" "B" (.int 0) a A U H ∧ va_OF "java/lang/String" "value" "[B" (.ref t) a A U H ∧ ∃ f, va_T .byte t n f A U H
abbrev cmpF (A : Nat → Prop) (U : State) (H : Heap) : Prop := va_Z "java/lang/String" "COMPACT_STRINGS" "Z" (.int 1) A U H
theorem strF.to {A B : Nat → Prop} {a t n : Nat} {s U : State} {H : Heap} {locs : List Loc} (h : strF A a t n s s.heap) (hS : va_S A s.heap H locs) (hF : ∀ q, B q → A q) (hvm : s.vm.Alike U.vm) : strF B a t n U H := ⟨((h.1.kept hS.2.1).narrow hF).moved hvm, ((h.2.1.kept hS.2.1).narrow hF).moved hvm, ((h.2.2.1.kept hS.2.1).narrow hF).moved hvm, h.2.2.2.elim (fun f hf => ⟨f, ((hf.kept hS.2.1).narrow hF).moved hvm⟩)⟩
theorem cmpF.to {A B : Nat → Prop} {s U : State} {H : Heap} {locs : List Loc} (h : cmpF A s s.heap) (hS : va_S A s.heap H locs) (hF : ∀ q, B q → A q) (hvm : s.vm.Alike U.vm) : cmpF B U H := ((h.kept hS.2.1).narrow hF).moved hvm
def ES (a t n : Nat) (A : Nat → Prop) (U : State) : Prop := cmpF A U U.heap ∧ strF A a t n U U.heap
theorem ES.ok (a t n : Nat) : EOk (ES a t n) := ⟨fun A U g mk ar h => ⟨cmpF.to (U := U.calling g mk ar) h.1 (va_S.rf (A := A)) (fun _ q => q) (Vm.Alike.refl U.vm), strF.to (U := U.calling g mk ar) h.2 (va_S.rf (A := A)) (fun _ q => q) (Vm.Alike.refl U.vm)⟩, fun A B s U H locs h hS hF hU hW => by
  subst hU
  exact ⟨cmpF.to h.1 hS hF hW.alike, strF.to h.2 hS hF hW.alike⟩⟩
def ET (ad tv : Nat → Nat) (A : Nat → Prop) (U : State) : Prop := cmpF A U U.heap ∧ (strF A (ad 0) (tv 0) 4 U U.heap ∧ strF A (ad 1) (tv 1) 6 U U.heap ∧ strF A (ad 2) (tv 2) 5 U U.heap ∧ strF A (ad 3) (tv 3) 6 U U.heap ∧ strF A (ad 4) (tv 4) 3 U U.heap) ∧ vk_R RX9 259 "hall" (ad 0) U ∧ vk_R RX9 261 "strand" (ad 1) U ∧ vk_R RX9 144 "chair" (ad 2) U ∧ vk_R RX9 142 "sitter" (ad 3) U ∧ vk_R RX9 302 "sit" (ad 4) U
theorem ET.ok (ad tv : Nat → Nat) : EOk (ET ad tv) := ⟨fun A U g mk ar h => by
  obtain ⟨h0, ⟨a0, a1, a2, a3, a4⟩, r0, r1, r2, r3, r4⟩ := h
  have hR := va_S.rf (A := A) (H0 := U.heap)
  have hv := Vm.Alike.refl U.vm
  exact ⟨cmpF.to (U := U.calling g mk ar) h0 hR (fun _ q => q) hv, ⟨strF.to (U := U.calling g mk ar) a0 hR (fun _ q => q) hv, strF.to (U := U.calling g mk ar) a1 hR (fun _ q => q) hv, strF.to (U := U.calling g mk ar) a2 hR (fun _ q => q) hv, strF.to (U := U.calling g mk ar) a3 hR (fun _ q => q) hv, strF.to (U := U.calling g mk ar) a4 hR (fun _ q => q) hv⟩, r0.same (U := U.calling g mk ar) rfl, r1.same (U := U.calling g mk ar) rfl, r2.same (U := U.calling g mk ar) rfl, r3.same (U := U.calling g mk ar) rfl, r4.same (U := U.calling g mk ar) rfl⟩, fun A B s U H locs h hS hF hU hW => by
  subst hU
  obtain ⟨h0, ⟨a0, a1, a2, a3, a4⟩, r0, r1, r2, r3, r4⟩ := h
  exact ⟨cmpF.to h0 hS hF hW.alike, ⟨strF.to a0 hS hF hW.alike, strF.to a1 hS hF hW.alike, strF.to a2 hS hF hW.alike, strF.to a3 hS hF hW.alike, strF.to a4 hS hF hW.alike⟩, r0.warm hW, r1.warm hW, r2.warm hW, r3.warm hW, r4.warm hW⟩⟩
theorem hc_ldcwS {p : Program} {l : Launch} {e : Env} {R : Room} {s : State} {m : MethodId} {args : Array Value} {below : List Frame} {meth : Method} {c : Code} {T : State} {locs : List Loc} {cells slots : Nat}
    (X : Stand p l e R s m args below meth c T locs cells slots) (hexec : p.tables.exec = Jvm.exec) {own text : String} {index : Nat} {a : Addr} (hown : s.vm.findClass own = some m.cls)
    (hconst : (Cond.stringRef own index text).before #[] s = true) (hev : (Term.string own index).eval #[] s none [] s = some (.ref a)) {g : JFrame} (hg : g.method = m) (hdg : decode c.code g.pc = .ok (.ldc_w index, 3)) :
    ∀ target, Steps p.tables e below (T.setTop { g with pc := g.pc + 3, stack := .ref a :: g.stack }) target → Steps p.tables e below (T.setTop g) target := by
  obtain ⟨k, cf, i, a', hk, hcf, hcp, -, hr, hev'⟩ := Cond.stringRef_spec hown hconst
  cases hev.symm.trans hev'
  obtain ⟨k', hk', he⟩ := X.warmed.alike.2.2 _ _ hk
  have hr' : k'.resolved[index]? = some (some (.string a)) := by
    rcases X.warmed.entry hk hk' index with h | ⟨h, -⟩
    · rw [h]; exact hr
    · rw [hr] at h; cases h
  intro target hrest
  subst hg
  jvm_step X.here [hexec, hdg, ldc_w.wp_string (s := T) (f := g) X.here.top hk' (by rw [he]; exact hcf) hcp hr']
  exact hrest
section HT
variable {p : Program} {l : Launch} {e : Env} {R : Room} {s : State} {m : MethodId} {args : Array Value} {below : List Frame} {meth : Method} {c : Code} {H : Heap} {locs : List Loc} {cells slots : Nat} {Q : State → Prop} {pc : Nat} {ls : Array Slot} {rest st0 As : List Value} {D : va_G} {k : Nat → ClassId} {A : Nat → Prop} {ws wc wr : va_W} {cc : ByteArray} {y : MethodName} {wd wd' Ts : List Cond} {rm : Room} {mc ms n index maxL nL : Nat} {bytes : ByteArray} {ret : Option FieldType} {own C host : String} {b : Nat} {E : (Nat → Prop) → State → Prop}
theorem hc_ldcw (hx : p.tables.exec = Jvm.exec) (hb : c.code = cc) {tx : String} {q : Nat} (hown : s.vm.findClass own = some m.cls) (hZ : vk_R own index tx q s) (hdg : decode cc pc = .ok (.ldc_w index, 3))
    (kk : W p l e R s m args below meth c H locs cells slots Q (F0 m (pc + 3) ls (.ref q :: rest))) : W p l e R s m args below meth c H locs cells slots Q (F0 m pc ls rest) := by
  intro T hT X
  obtain ⟨t, a1, b1⟩ := kk T hT X
  exact ⟨t, hc_ldcwS X hx hown hZ.1 hZ.2 (g := F0 m pc ls rest) rfl (by rw [hb]; exact hdg) t a1, b1⟩
theorem hc_pSE (hE : EOk E) (hT : E A s) (hS : va_S A s.heap H locs) (hA : ∀ q : Nat, s.heap.size ≤ q → A q) (hG : GK D k s) (hP : va_P D vwCl ws H) (hD : va_D A ws) (isC : List Nat) (hC : isC.map (fun i => ws[i]?) = wc.map some) (hn : va_nd isC = true) : PreS s H (va_Pc As (fun U => hcP D k H.size wc U ∧ E (va_A wc H.size) U)) As :=
  ⟨fun a U g mk q => by obtain ⟨q0, ⟨q1, q2, q3, q4⟩, q5⟩ := q; exact ⟨q0, ⟨q1, q2, q3.call, q4⟩, hE.1 _ _ g mk a q5⟩, fun U hU hW => ⟨rfl, ((hc_pS (As := As) hG hP hD isC hC hn).2 U hU hW).2, hE.2 A _ s U H locs hT hS (va_free hD hS hA isC hC) hU hW⟩⟩
/-- a call of an object's method that answers an int and asks for more than its world -/
theorem hc_ViE {S : Type} {post : Int32 → S → Prop} {wp : S → va_W} (hE : EOk E) (hT : E A s) (hx : p.tables.exec = Jvm.exec) (hb : c.code = cc) (hml : c.maxLocals = nL) (hown : s.vm.findClass own = some m.cls) (hts : ∀ w ∈ Ts, w.before args s = true) (hG : GK D k s) (hA : ∀ q : Nat, s.heap.size ≤ q → A q) (hP : va_P D vwCl ws H) (hD : va_D A ws) (hS : va_S A s.heap H locs) (hsz : ls.size = nL)
    (isC isR : List Nat) (hM : CtIE l y wd rm (.ref b :: As) D k E H.size wc post wp mc ms) (hrv : ∃ cellB : Cell, H[b]? = some cellB ∧ cellB.vm.isStatics = false ∧ s.vm.findClass C = some cellB.cls) (hg : GoodIn Ts (wsV own index C y wd)) (hw : wd = Cond.code y bytes maxL ret :: wd') (hrc : rm.cells = mc ∧ rm.slots = ms ∧ rm.frames + 1 ≤ R.frames ∧ 8 + (maxL + 11) + rm.locals ≤ R.locals) (hd : y.cls = C ∧ hcD y n)
    (hC : isC.map (fun i => ws[i]?) = wc.map some) (hR : isR.map (fun i => ws[i]?) = wr.map some) (hn : va_nd isC = true ∧ va_nd isR = true ∧ ∀ i ∈ isR, i ∉ isC) (hst : As.length = n ∧ st0 = As.reverse ++ .ref b :: rest ∧ (rest.map fun v => v.category).sum ≤ 8 ∧ cells + mc ≤ R.cells ∧ slots + ms ≤ R.slots) (hdg : decode cc pc = .ok (.invokevirtual index, 3))
    (kk : ∀ (r : Int32) (u : S) (H : Heap) (locs : List Loc), post r u → va_P D vwCl (wr ++ wp u) H → va_D A (wr ++ wp u) → va_S A s.heap H locs → W p l e R s m args below meth c H locs (cells + mc) (slots + ms) Q (F0 m (pc + 3) ls (.int r :: rest))) : W p l e R s m args below meth c H locs cells slots Q (F0 m pc ls st0) :=
  hc_i (va_runV (As := As) (rest := rest) ⟨hx, hb, hml, hown, hts⟩ hM (cwV n hts hg hw hrc.1 hrc.2.1 hd hrc.2.2) ⟨(hc_pSE (As := .ref b :: As) hE hT hS hA hG hP hD isC hC hn.1).1, hrv, (hc_pSE (As := .ref b :: As) hE hT hS hA hG hP hD isC hC hn.1).2⟩ rfl hst.1 hsz hst.2.1 (lv_room hst.2.2.1) hdg hst.2.2.2) hA hP hD hS isC isR hC hR hn.2.1 hn.2.2 kk
theorem hc_VvE {S : Type} {post : S → Prop} {wp : S → va_W} (hE : EOk E) (hT : E A s) (hx : p.tables.exec = Jvm.exec) (hb : c.code = cc) (hml : c.maxLocals = nL) (hown : s.vm.findClass own = some m.cls) (hts : ∀ w ∈ Ts, w.before args s = true) (hG : GK D k s) (hA : ∀ q : Nat, s.heap.size ≤ q → A q) (hP : va_P D vwCl ws H) (hD : va_D A ws) (hS : va_S A s.heap H locs) (hsz : ls.size = nL)
    (isC isR : List Nat) (hM : CtVE l y wd rm (.ref b :: As) D k E H.size wc post wp mc ms) (hrv : ∃ cellB : Cell, H[b]? = some cellB ∧ cellB.vm.isStatics = false ∧ s.vm.findClass C = some cellB.cls) (hg : GoodIn Ts (wsV own index C y wd)) (hw : wd = Cond.code y bytes maxL ret :: wd') (hrc : rm.cells = mc ∧ rm.slots = ms ∧ rm.frames + 1 ≤ R.frames ∧ 8 + (maxL + 11) + rm.locals ≤ R.locals) (hd : y.cls = C ∧ hcD y n)
    (hC : isC.map (fun i => ws[i]?) = wc.map some) (hR : isR.map (fun i => ws[i]?) = wr.map some) (hn : va_nd isC = true ∧ va_nd isR = true ∧ ∀ i ∈ isR, i ∉ isC) (hst : As.length = n ∧ st0 = As.reverse ++ .ref b :: rest ∧ (rest.map fun v => v.category).sum ≤ 8 ∧ cells + mc ≤ R.cells ∧ slots + ms ≤ R.slots) (hdg : decode cc pc = .ok (.invokevirtual index, 3))
    (kk : ∀ (u : S) (H : Heap) (locs : List Loc), post u → va_P D vwCl (wr ++ wp u) H → va_D A (wr ++ wp u) → va_S A s.heap H locs → W p l e R s m args below meth c H locs (cells + mc) (slots + ms) Q (F0 m (pc + 3) ls rest)) : W p l e R s m args below meth c H locs cells slots Q (F0 m pc ls st0) :=
  hc_v (va_runV (As := As) (rest := rest) ⟨hx, hb, hml, hown, hts⟩ hM (cwV n hts hg hw hrc.1 hrc.2.1 hd hrc.2.2) ⟨(hc_pSE (As := .ref b :: As) hE hT hS hA hG hP hD isC hC hn.1).1, hrv, (hc_pSE (As := .ref b :: As) hE hT hS hA hG hP hD isC hC hn.1).2⟩ rfl hst.1 hsz hst.2.1 (lv_room hst.2.2.1) hdg hst.2.2.2) hA hP hD hS isC isR hC hR hn.2.1 hn.2.2 kk
theorem hc_SrE {ra0 : Nat} (hE : EOk E) (hT : E A s) (hx : p.tables.exec = Jvm.exec) (hb : c.code = cc) (hml : c.maxLocals = nL) (hown : s.vm.findClass own = some m.cls) (hts : ∀ w ∈ Ts, w.before args s = true) (hG : GK D k s) (hA : ∀ q : Nat, s.heap.size ≤ q → A q) (hP : va_P D vwCl ws H) (hD : va_D A ws) (hS : va_S A s.heap H locs) (hsz : ls.size = nL)
    (isR : List Nat) (hM : CtRE l y wd rm As D k E H.size ra0) (hg : GoodIn Ts (va_wsS own index y wd)) (hw : wd = Cond.code y bytes maxL ret :: wd') (hrc : rm.cells = 0 ∧ rm.slots = 0 ∧ rm.frames + 1 ≤ R.frames ∧ 8 + (maxL + 11) + rm.locals ≤ R.locals) (hd : hcD y n)
    (hR : isR.map (fun i => ws[i]?) = wr.map some) (hn : va_nd isR = true) (hst : As.length = n ∧ st0 = As.reverse ++ rest ∧ (rest.map fun v => v.category).sum ≤ 8 ∧ cells + 0 ≤ R.cells ∧ slots + 0 ≤ R.slots) (hdg : decode cc pc = .ok (.invokestatic index, 3))
    (kk : ∀ (H : Heap) (locs : List Loc), va_P D vwCl wr H → va_D A wr → va_S A s.heap H locs → W p l e R s m args below meth c H locs (cells + 0) (slots + 0) Q (F0 m (pc + 3) ls (.ref ra0 :: rest))) : W p l e R s m args below meth c H locs cells slots Q (F0 m pc ls st0) := by
  have hFc := va_free (wc := []) hD hS hA [] rfl
  refine va_callr (va_runS (As := As) (rest := rest) ⟨hx, hb, hml, hown, hts⟩ hM (va_cwS n hts hg hw hrc.1 hrc.2.1 hd hrc.2.2) (hc_pSE (wc := []) hE hT hS hA hG hP hD [] rfl rfl) rfl hst.1 hsz hst.2.1 (lv_room hst.2.2.1) hdg hst.2.2.2) hS (fun q _ h => hFc q h) hFc (fun u ra t H1 locs ht hvm hw hB hz1 hk1 hS => ?_)
  subst hB
  obtain ⟨hP, hD⟩ := va_join (wr := wr) (w1 := []) hP hD [] isR rfl hR hn (fun _ _ h => by cases h) hk1 hFc (fun k q h => by simp at h) ⟨fun i j p q h => by simp at h, fun k q h => by simp at h⟩
  rw [List.append_nil] at hP hD
  exact kk H1 locs hP hD hS
end HT
