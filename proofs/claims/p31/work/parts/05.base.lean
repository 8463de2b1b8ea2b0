/-! 05.base -/
section
/-! what every contract here rests on: one world a method, the tables' facts in one bundle -/
noncomputable abbrev tysA (k : Nat → ClassId) : List (ClassId × FieldType) := [(k 0, .int), (k 1, .byte), (k 2, .boolean), (k 3, .long), (k 4, .object RX4), (k 5, .object RX6)]
noncomputable abbrev vwCl : List vw_C := [(RX0, TX0, 5), (RX2, TX2, 4), (RX3, TX3, 17), (RX4, TX4, 8), (RX6, TX6, 5), (RX7, TX7, 8), (RX8, TX8, 12), (RX9, TX9, 53)]
noncomputable def hcN (U : State) : Prop := va_Nw (.methodLinkNest RX8 9 yX7_init RX8) U ∧ va_Nw (.methodLinkNest RX8 28 yX6_init RX8) U ∧ va_Nw (.methodLinkNest RX6 11 yX3_init RX8) U ∧ va_Nw (.methodLinkNest RX6 20 yX0_init RX8) U ∧ va_Nw (.methodLinkNest RX6 27 yX2_init RX8) U ∧ va_Nw (.methodLinkNest RX8 43 yX3_init RX8) U ∧ va_Nw (.methodLinkNest RX8 64 yX4_init RX8) U
noncomputable def GK (D : va_G) (k : Nat → ClassId) (U : State) : Prop := va_K D vwCl (tysA k) U ∧ va_AO RX4 U ∧ va_AO RX6 U ∧ hcN U
theorem hcN.warm {s U : State} (hW : s.WarmedH U.vm) (h : hcN s) : hcN U := ⟨va_Nw.warmM hW h.1, va_Nw.warmM hW h.2.1, va_Nw.warmM hW h.2.2.1, va_Nw.warmM hW h.2.2.2.1, va_Nw.warmM hW h.2.2.2.2.1, va_Nw.warmM hW h.2.2.2.2.2.1, va_Nw.warmM hW h.2.2.2.2.2.2⟩
theorem hcN.same {s U : State} (hW : s.vm = U.vm) (h : hcN s) : hcN U := ⟨va_Nw.same rfl hW h.1, va_Nw.same rfl hW h.2.1, va_Nw.same rfl hW h.2.2.1, va_Nw.same rfl hW h.2.2.2.1, va_Nw.same rfl hW h.2.2.2.2.1, va_Nw.same rfl hW h.2.2.2.2.2.1, va_Nw.same rfl hW h.2.2.2.2.2.2⟩
theorem GK.warm {D : va_G} {k : Nat → ClassId} {s U : State} (hW : s.WarmedH U.vm) (h : GK D k s) : GK D k U := ⟨va_K.moved hW.alike h.1, va_AO.moved hW.alike h.2.1, va_AO.moved hW.alike h.2.2.1, h.2.2.2.warm hW⟩
theorem GK.call {D : va_G} {k : Nat → ClassId} {U : State} {g : JFrame} {mk : MethodId} {a : Array Value} (h : GK D k U) : GK D k (U.calling g mk a) := ⟨va_K.moved (u := U) (U := U.calling g mk a) (Vm.Alike.refl U.vm) h.1, va_AO.moved (u := U) (U := U.calling g mk a) (Vm.Alike.refl U.vm) h.2.1, va_AO.moved (u := U) (U := U.calling g mk a) (Vm.Alike.refl U.vm) h.2.2.1, hcN.same (s := U) (U := U.calling g mk a) rfl h.2.2.2⟩
noncomputable abbrev rmK (d mc ms : Nat) : Room := { frames := d, cells := mc, slots := ms, locals := 64 * d }
abbrev hcB (D : va_G) {S : Type} (wp : S → va_W) (A : Nat → Prop) : S → State → Prop := fun u t => va_P D vwCl (wp u) t.heap ∧ va_D A (wp u)
noncomputable abbrev hcP (D : va_G) (k : Nat → ClassId) (sz : Nat) (ws : va_W) : State → Prop := fun U => U.heap.size = sz ∧ va_P D vwCl ws U.heap ∧ GK D k U ∧ va_D (fun _ => True) ws
noncomputable def CtV (l : Launch) (y : MethodName) (wd : List Cond) (rm : Room) (av : List Value) (D : va_G) (k : Nat → ClassId) (sz : Nat) (ws : va_W) {S : Type} (post : S → Prop) (wp : S → va_W) (mc ms : Nat) : Prop := Met l y wd rm (va_Pc av (hcP D k sz ws)) (va_Qv post (hcB D wp (va_A ws sz)) (va_A ws sz)) mc ms (va_A ws sz)
noncomputable def CtI (l : Launch) (y : MethodName) (wd : List Cond) (rm : Room) (av : List Value) (D : va_G) (k : Nat → ClassId) (sz : Nat) (ws : va_W) {S : Type} (post : Int32 → S → Prop) (wp : S → va_W) (mc ms : Nat) : Prop := Met l y wd rm (va_Pc av (hcP D k sz ws)) (va_Qi post (hcB D wp (va_A ws sz)) (va_A ws sz)) mc ms (va_A ws sz)
/-- what holds all along a method's walk -/
noncomputable def En (p : Program) (s : State) (m : MethodId) (args : Array Value) (meth : Method) (c : Code) (y : MethodName) (cc : ByteArray) (ret : Option FieldType) (maxL : Nat) (wd : List Cond) (D : va_G) (k : Nat → ClassId) (A : Nat → Prop) : Prop := p.tables.exec = Jvm.exec ∧ c.code = cc ∧ meth.sig.returnType = ret ∧ c.maxLocals = maxL ∧ s.vm.findClass y.cls = some m.cls ∧ (∀ w ∈ wd, w.before args s = true) ∧ meth.locks = false ∧ meth.name = y.name ∧ GK D k s ∧ ∀ q : Nat, s.heap.size ≤ q → A q
theorem CtI.mk {l : Launch} {y : MethodName} {wd wd' : List Cond} {rm : Room} {av : List Value} {D : va_G} {k : Nat → ClassId} {sz : Nat} {ws : va_W} {S : Type} {post : Int32 → S → Prop} {wp : S → va_W} {mc ms : Nat} {cc : ByteArray} {maxL : Nat} {ret : Option FieldType} (hy : plainName y.cls = true) (hw : wd = Cond.code y cc maxL ret :: wd') (hlv : (lg_sl av).length ≤ maxL)
    (body : ∀ (p : Program) (e : Env) (s : State) (m : MethodId) (below : List Frame) (meth : Method) (c : Code) (A : Nat → Prop) (ls : Array Slot), En p s m av.toArray meth c y cc ret maxL wd D k A → va_P D vwCl ws s.heap → va_D A ws → va_S A s.heap s.heap [] → lv_has ls maxL (lv_args 0 av) → W p l e rm s m av.toArray below meth c s.heap [] 0 0 (MQ below (va_Qi post (hcB D wp A) A) av.toArray s mc ms A) (F0 m 0 ls [])) : CtI l y wd rm av D k sz ws post wp mc ms := by
  refine Met.ofW (cc := cc) (maxL := maxL) (ret := ret) hy hw ?_
  intro p e s m args below meth c s₁ B hml hv
  obtain ⟨rfl, hsz, hP, hG, hD0⟩ := hv
  subst hsz
  have hts := atoms_spec (ws := wd) B.pre
  have hl := lv_entry av (n := maxL) hlv
  rw [lg_entry_eq]
  exact body p e s m below meth c (va_A ws s.heap.size) _ ⟨B.exec, B.bytes, B.returns, hml, findClass_of_methodNamed B.named, hts, B.notSynchronized, (name_of_methodNamed B.named B.method).1, hG, fun q h => Or.inr h⟩ hP (hD0.self (sz := s.heap.size)) va_S.rf hl
theorem CtV.mk {l : Launch} {y : MethodName} {wd wd' : List Cond} {rm : Room} {av : List Value} {D : va_G} {k : Nat → ClassId} {sz : Nat} {ws : va_W} {S : Type} {post : S → Prop} {wp : S → va_W} {mc ms : Nat} {cc : ByteArray} {maxL : Nat} {ret : Option FieldType} (hy : plainName y.cls = true) (hw : wd = Cond.code y cc maxL ret :: wd') (hlv : (lg_sl av).length ≤ maxL)
    (body : ∀ (p : Program) (e : Env) (s : State) (m : MethodId) (below : List Frame) (meth : Method) (c : Code) (A : Nat → Prop) (ls : Array Slot), En p s m av.toArray meth c y cc ret maxL wd D k A → va_P D vwCl ws s.heap → va_D A ws → va_S A s.heap s.heap [] → lv_has ls maxL (lv_args 0 av) → W p l e rm s m av.toArray below meth c s.heap [] 0 0 (MQ below (va_Qv post (hcB D wp A) A) av.toArray s mc ms A) (F0 m 0 ls [])) : CtV l y wd rm av D k sz ws post wp mc ms := by
  refine Met.ofW (cc := cc) (maxL := maxL) (ret := ret) hy hw ?_
  intro p e s m args below meth c s₁ B hml hv
  obtain ⟨rfl, hsz, hP, hG, hD0⟩ := hv
  subst hsz
  have hts := atoms_spec (ws := wd) B.pre
  have hl := lv_entry av (n := maxL) hlv
  rw [lg_entry_eq]
  exact body p e s m below meth c (va_A ws s.heap.size) _ ⟨B.exec, B.bytes, B.returns, hml, findClass_of_methodNamed B.named, hts, B.notSynchronized, (name_of_methodNamed B.named B.method).1, hG, fun q h => Or.inr h⟩ hP (hD0.self (sz := s.heap.size)) va_S.rf hl
theorem hc_fm {α β : Type} (f : α → Option β) : ∀ (l : List α) (w : List β), l.map f = w.map some → l.filterMap f = w
  | [], w, h => by cases w with
    | nil => rfl
    | cons b w => simp at h
  | a :: l, w, h => by cases w with
    | nil => simp at h
    | cons b w =>
      simp only [List.map_cons, List.cons.injEq] at h
      rw [List.filterMap_cons, h.1, hc_fm f l w h.2]
section HC
variable {p : Program} {l : Launch} {e : Env} {R : Room} {s : State} {m : MethodId} {args : Array Value} {below : List Frame} {meth : Method} {c : Code} {H : Heap} {locs : List Loc} {cells slots : Nat} {Q : State → Prop} {pc : Nat} {ls : Array Slot} {rest st0 As : List Value} {D : va_G} {k : Nat → ClassId} {A : Nat → Prop} {ws wc wr : va_W} {cc : ByteArray} {y : MethodName} {wd wd' Ts : List Cond} {rm : Room} {mc ms n index maxL nL : Nat} {bytes : ByteArray} {ret : Option FieldType} {own C host : String} {b : Nat}
/-- the end of a method that answers an int -/
theorem hc_end {S : Type} {post : Int32 → S → Prop} {wp : S → va_W} {v : Int32} (hx : p.tables.exec = Jvm.exec) (hb : c.code = cc) (hr : meth.sig.returnType = some .int) (hlocks : meth.locks = false) (u : S) (hpost : post v u) (hP : va_P D vwCl (wp u) H) (hD : va_D A (wp u)) (hS : va_S A s.heap H locs) (hdg : decode cc pc = .ok (.ireturn, 1)) : W p l e R s m args below meth c H locs cells slots (MQ below (va_Qi post (hcB D wp A) A) args s cells slots A) (F0 m pc ls [.int v]) :=
  W.iret hx hb hr (fun t ht hW => ⟨⟨v, u, rfl, hpost, by rw [ht]; exact hP, hD⟩, hS.F ht⟩) hS.2.2 hdg hlocks
theorem hc_endZ {S : Type} {post : Int32 → S → Prop} {wp : S → va_W} {v : Int32} (hx : p.tables.exec = Jvm.exec) (hb : c.code = cc) (hr : meth.sig.returnType = some .boolean) (hlocks : meth.locks = false) (hn : narrow .boolean (.int v) = .int v) (u : S) (hpost : post v u) (hP : va_P D vwCl (wp u) H) (hD : va_D A (wp u)) (hS : va_S A s.heap H locs) (hdg : decode cc pc = .ok (.ireturn, 1)) : W p l e R s m args below meth c H locs cells slots (MQ below (va_Qi post (hcB D wp A) A) args s cells slots A) (F0 m pc ls [.int v]) :=
  W.zret hx hb hr hn (fun t ht hW => ⟨⟨v, u, rfl, hpost, by rw [ht]; exact hP, hD⟩, hS.F ht⟩) hS.2.2 hdg hlocks
theorem hc_endV {S : Type} {post : S → Prop} {wp : S → va_W} (hx : p.tables.exec = Jvm.exec) (hb : c.code = cc) (hr : meth.sig.returnType = none) (hlocks : meth.locks = false) (u : S) (hpost : post u) (hP : va_P D vwCl (wp u) H) (hD : va_D A (wp u)) (hS : va_S A s.heap H locs) (hdg : decode cc pc = .ok (.return_, 1)) : W p l e R s m args below meth c H locs cells slots (MQ below (va_Qv post (hcB D wp A) A) args s cells slots A) (F0 m pc ls []) :=
  W.vret hx hb hr (fun t ht hW => ⟨⟨u, rfl, hpost, by rw [ht]; exact hP, hD⟩, hS.F ht⟩) hS.2.2 hdg hlocks
/-- a callee's start, out of the caller's cells -/
theorem hc_pS (hG : GK D k s) (hP : va_P D vwCl ws H) (hD : va_D A ws) (isC : List Nat) (hC : isC.map (fun i => ws[i]?) = wc.map some) (hn : va_nd isC = true) : PreS s H (va_Pc As (hcP D k H.size wc)) As :=
  ⟨fun a U g mk q => by obtain ⟨q0, q1, q2, q3, q4⟩ := q; exact ⟨q0, q1, q2, q3.call, q4⟩, fun U hU hW => ⟨rfl, by rw [hU], by rw [hU]; exact hP.sub isC (hc_fm _ _ _ hC), hG.warm hW, (hD.sub isC hn hC).weaken (fun _ _ _ _ => trivial)⟩⟩
theorem hc_pV (hG : GK D k s) (hP : va_P D vwCl ws H) (hD : va_D A ws) (isC : List Nat) (hC : isC.map (fun i => ws[i]?) = wc.map some) (hn : va_nd isC = true) {ci q0 : Nat} {q : vw_C} {fs : List Value} (hc : vwCl[ci]? = some q) (he : ws[q0]? = some (b, .inr (ci, fs))) : PreV s H q.1 b (va_Pc (.ref b :: As) (hcP D k H.size wc)) As :=
  ⟨(hc_pS (As := .ref b :: As) hG hP hD isC hC hn).1, va_recv hG.1 hP hc he, (hc_pS (As := .ref b :: As) hG hP hD isC hC hn).2⟩
theorem hc_i {S : Type} {post : Int32 → S → Prop} {wp : S → va_W} {a : Array Value} (hr : va_Run p l e R s m args below meth c H locs cells slots mc ms (F0 m pc ls st0) rest (va_Qi post (hcB D wp (va_A wc H.size)) (va_A wc H.size) a) (va_A wc H.size)) (hA : ∀ q : Nat, s.heap.size ≤ q → A q) (hP : va_P D vwCl ws H) (hD : va_D A ws) (hS : va_S A s.heap H locs) (isC isR : List Nat) (hC : isC.map (fun i => ws[i]?) = wc.map some) (hR : isR.map (fun i => ws[i]?) = wr.map some) (hn : va_nd isR = true) (hdis : ∀ i ∈ isR, i ∉ isC)
    (kk : ∀ (r : Int32) (u : S) (H : Heap) (locs : List Loc), post r u → va_P D vwCl (wr ++ wp u) H → va_D A (wr ++ wp u) → va_S A s.heap H locs → W p l e R s m args below meth c H locs (cells + mc) (slots + ms) Q (F0 m (pc + 3) ls (.int r :: rest))) : W p l e R s m args below meth c H locs cells slots Q (F0 m pc ls st0) := by
  have hFc := va_free (wc := wc) hD hS hA isC hC
  refine va_calli hr hS (fun q _ h => hFc q h) hFc (fun r u t H1 locs ht hvm hw hB hz1 hk1 hS => ?_)
  obtain ⟨hP1, hD1⟩ := hB
  rw [ht] at hP1
  obtain ⟨hP, hD⟩ := va_join (wr := wr) (w1 := wp u) hP hD isC isR hC hR hn hdis hk1 hFc hP1 hD1
  exact kk r u H1 locs hw hP hD hS
theorem hc_v {S : Type} {post : S → Prop} {wp : S → va_W} {a : Array Value} (hr : va_Run p l e R s m args below meth c H locs cells slots mc ms (F0 m pc ls st0) rest (va_Qv post (hcB D wp (va_A wc H.size)) (va_A wc H.size) a) (va_A wc H.size)) (hA : ∀ q : Nat, s.heap.size ≤ q → A q) (hP : va_P D vwCl ws H) (hD : va_D A ws) (hS : va_S A s.heap H locs) (isC isR : List Nat) (hC : isC.map (fun i => ws[i]?) = wc.map some) (hR : isR.map (fun i => ws[i]?) = wr.map some) (hn : va_nd isR = true) (hdis : ∀ i ∈ isR, i ∉ isC)
    (kk : ∀ (u : S) (H : Heap) (locs : List Loc), post u → va_P D vwCl (wr ++ wp u) H → va_D A (wr ++ wp u) → va_S A s.heap H locs → W p l e R s m args below meth c H locs (cells + mc) (slots + ms) Q (F0 m (pc + 3) ls rest)) : W p l e R s m args below meth c H locs cells slots Q (F0 m pc ls st0) := by
  have hFc := va_free (wc := wc) hD hS hA isC hC
  refine va_callv hr hS (fun q _ h => hFc q h) hFc (fun u t H1 locs ht hvm hw hB hz1 hk1 hS => ?_)
  obtain ⟨hP1, hD1⟩ := hB
  rw [ht] at hP1
  obtain ⟨hP, hD⟩ := va_join (wr := wr) (w1 := wp u) hP hD isC isR hC hR hn hdis hk1 hFc hP1 hD1
  exact kk u H1 locs hw hP hD hS
abbrev hcD (y : MethodName) (n : Nat) : Prop := y.cls ≠ "java/lang/invoke/MethodHandle" ∧ y.cls ≠ "java/lang/invoke/VarHandle" ∧ (parseMethodDescriptor y.desc).map (fun d => d.parameters.length) = some n
/-- a call of an object's method that answers an int -/
theorem hc_Vi {S : Type} {post : Int32 → S → Prop} {wp : S → va_W} (hx : p.tables.exec = Jvm.exec) (hb : c.code = cc) (hml : c.maxLocals = nL) (hown : s.vm.findClass own = some m.cls) (hts : ∀ w ∈ Ts, w.before args s = true) (hG : GK D k s) (hA : ∀ q : Nat, s.heap.size ≤ q → A q) (hP : va_P D vwCl ws H) (hD : va_D A ws) (hS : va_S A s.heap H locs) (hsz : ls.size = nL)
    (isC isR : List Nat) (hM : CtI l y wd rm (.ref b :: As) D k H.size wc post wp mc ms) {ci q0 : Nat} {q : vw_C} {fs : List Value} (hc : vwCl[ci]? = some q) (he : ws[q0]? = some (b, .inr (ci, fs))) (hg : GoodIn Ts (wsV own index q.1 y wd)) (hw : wd = Cond.code y bytes maxL ret :: wd') (hrc : rm.cells = mc ∧ rm.slots = ms ∧ rm.frames + 1 ≤ R.frames ∧ 8 + (maxL + 11) + rm.locals ≤ R.locals) (hd : y.cls = q.1 ∧ hcD y n)
    (hC : isC.map (fun i => ws[i]?) = wc.map some) (hR : isR.map (fun i => ws[i]?) = wr.map some) (hn : va_nd isC = true ∧ va_nd isR = true ∧ ∀ i ∈ isR, i ∉ isC) (hst : As.length = n ∧ st0 = As.reverse ++ .ref b :: rest ∧ (rest.map fun v => v.category).sum ≤ 8 ∧ cells + mc ≤ R.cells ∧ slots + ms ≤ R.slots) (hdg : decode cc pc = .ok (.invokevirtual index, 3))
    (kk : ∀ (r : Int32) (u : S) (H : Heap) (locs : List Loc), post r u → va_P D vwCl (wr ++ wp u) H → va_D A (wr ++ wp u) → va_S A s.heap H locs → W p l e R s m args below meth c H locs (cells + mc) (slots + ms) Q (F0 m (pc + 3) ls (.int r :: rest))) : W p l e R s m args below meth c H locs cells slots Q (F0 m pc ls st0) :=
  hc_i (va_runV (As := As) (rest := rest) ⟨hx, hb, hml, hown, hts⟩ hM (cwV n hts hg hw hrc.1 hrc.2.1 hd hrc.2.2) (hc_pV hG hP hD isC hC hn.1 hc he) rfl hst.1 hsz hst.2.1 (lv_room hst.2.2.1) hdg hst.2.2.2) hA hP hD hS isC isR hC hR hn.2.1 hn.2.2 kk
theorem hc_Vv {S : Type} {post : S → Prop} {wp : S → va_W} (hx : p.tables.exec = Jvm.exec) (hb : c.code = cc) (hml : c.maxLocals = nL) (hown : s.vm.findClass own = some m.cls) (hts : ∀ w ∈ Ts, w.before args s = true) (hG : GK D k s) (hA : ∀ q : Nat, s.heap.size ≤ q → A q) (hP : va_P D vwCl ws H) (hD : va_D A ws) (hS : va_S A s.heap H locs) (hsz : ls.size = nL)
    (isC isR : List Nat) (hM : CtV l y wd rm (.ref b :: As) D k H.size wc post wp mc ms) {ci q0 : Nat} {q : vw_C} {fs : List Value} (hc : vwCl[ci]? = some q) (he : ws[q0]? = some (b, .inr (ci, fs))) (hg : GoodIn Ts (wsV own index q.1 y wd)) (hw : wd = Cond.code y bytes maxL ret :: wd') (hrc : rm.cells = mc ∧ rm.slots = ms ∧ rm.frames + 1 ≤ R.frames ∧ 8 + (maxL + 11) + rm.locals ≤ R.locals) (hd : y.cls = q.1 ∧ hcD y n)
    (hC : isC.map (fun i => ws[i]?) = wc.map some) (hR : isR.map (fun i => ws[i]?) = wr.map some) (hn : va_nd isC = true ∧ va_nd isR = true ∧ ∀ i ∈ isR, i ∉ isC) (hst : As.length = n ∧ st0 = As.reverse ++ .ref b :: rest ∧ (rest.map fun v => v.category).sum ≤ 8 ∧ cells + mc ≤ R.cells ∧ slots + ms ≤ R.slots) (hdg : decode cc pc = .ok (.invokevirtual index, 3))
    (kk : ∀ (u : S) (H : Heap) (locs : List Loc), post u → va_P D vwCl (wr ++ wp u) H → va_D A (wr ++ wp u) → va_S A s.heap H locs → W p l e R s m args below meth c H locs (cells + mc) (slots + ms) Q (F0 m (pc + 3) ls rest)) : W p l e R s m args below meth c H locs cells slots Q (F0 m pc ls st0) :=
  hc_v (va_runV (As := As) (rest := rest) ⟨hx, hb, hml, hown, hts⟩ hM (cwV n hts hg hw hrc.1 hrc.2.1 hd hrc.2.2) (hc_pV hG hP hD isC hC hn.1 hc he) rfl hst.1 hsz hst.2.1 (lv_room hst.2.2.1) hdg hst.2.2.2) hA hP hD hS isC isR hC hR hn.2.1 hn.2.2 kk
/-- a call of a static method that answers an int -/
theorem hc_Si {S : Type} {post : Int32 → S → Prop} {wp : S → va_W} (hx : p.tables.exec = Jvm.exec) (hb : c.code = cc) (hml : c.maxLocals = nL) (hown : s.vm.findClass own = some m.cls) (hts : ∀ w ∈ Ts, w.before args s = true) (hG : GK D k s) (hA : ∀ q : Nat, s.heap.size ≤ q → A q) (hP : va_P D vwCl ws H) (hD : va_D A ws) (hS : va_S A s.heap H locs) (hsz : ls.size = nL)
    (isC isR : List Nat) (hM : CtI l y wd rm As D k H.size wc post wp mc ms) (hg : GoodIn Ts (va_wsS own index y wd)) (hw : wd = Cond.code y bytes maxL ret :: wd') (hrc : rm.cells = mc ∧ rm.slots = ms ∧ rm.frames + 1 ≤ R.frames ∧ 8 + (maxL + 11) + rm.locals ≤ R.locals) (hd : hcD y n)
    (hC : isC.map (fun i => ws[i]?) = wc.map some) (hR : isR.map (fun i => ws[i]?) = wr.map some) (hn : va_nd isC = true ∧ va_nd isR = true ∧ ∀ i ∈ isR, i ∉ isC) (hst : As.length = n ∧ st0 = As.reverse ++ rest ∧ (rest.map fun v => v.category).sum ≤ 8 ∧ cells + mc ≤ R.cells ∧ slots + ms ≤ R.slots) (hdg : decode cc pc = .ok (.invokestatic index, 3))
    (kk : ∀ (r : Int32) (u : S) (H : Heap) (locs : List Loc), post r u → va_P D vwCl (wr ++ wp u) H → va_D A (wr ++ wp u) → va_S A s.heap H locs → W p l e R s m args below meth c H locs (cells + mc) (slots + ms) Q (F0 m (pc + 3) ls (.int r :: rest))) : W p l e R s m args below meth c H locs cells slots Q (F0 m pc ls st0) :=
  hc_i (va_runS (As := As) (rest := rest) ⟨hx, hb, hml, hown, hts⟩ hM (va_cwS n hts hg hw hrc.1 hrc.2.1 hd hrc.2.2) (hc_pS hG hP hD isC hC hn.1) rfl hst.1 hsz hst.2.1 (lv_room hst.2.2.1) hdg hst.2.2.2) hA hP hD hS isC isR hC hR hn.2.1 hn.2.2 kk
/-- a call of a constructor, the class's own right -/
theorem hc_I {S : Type} {post : S → Prop} {wp : S → va_W} (hx : p.tables.exec = Jvm.exec) (hb : c.code = cc) (hml : c.maxLocals = nL) (hown : s.vm.findClass own = some m.cls) (hts : ∀ w ∈ Ts, w.before args s = true) (hG : GK D k s) (hA : ∀ q : Nat, s.heap.size ≤ q → A q) (hP : va_P D vwCl ws H) (hD : va_D A ws) (hS : va_S A s.heap H locs) (hsz : ls.size = nL)
    (isC isR : List Nat) (hM : CtV l y wd rm (.ref b :: As) D k H.size wc post wp mc ms) (hg : GoodIn Ts wd) (hw : wd = Cond.code y bytes maxL none :: wd') (hrc : rm.cells = mc ∧ rm.slots = ms ∧ rm.frames + 1 ≤ R.frames ∧ 8 + (maxL + 11) + rm.locals ≤ R.locals) (hini : (Cond.initialized y.cls).before args s = true) (hlk : (Cond.methodLink own index y).before args s = true) (hin : (Cond.instanceMethod y).before args s = true) (hy1 : y.name = "<init>") (hd : hcD y n)
    (hC : isC.map (fun i => ws[i]?) = wc.map some) (hR : isR.map (fun i => ws[i]?) = wr.map some) (hn : va_nd isC = true ∧ va_nd isR = true ∧ ∀ i ∈ isR, i ∉ isC) (hst : As.length = n ∧ st0 = As.reverse ++ .ref b :: rest ∧ (rest.map fun v => v.category).sum ≤ 8 ∧ cells + mc ≤ R.cells ∧ slots + ms ≤ R.slots) (hdg : decode cc pc = .ok (.invokespecial index, 3))
    (kk : ∀ (u : S) (H : Heap) (locs : List Loc), post u → va_P D vwCl (wr ++ wp u) H → va_D A (wr ++ wp u) → va_S A s.heap H locs → W p l e R s m args below meth c H locs (cells + mc) (slots + ms) Q (F0 m (pc + 3) ls rest)) : W p l e R s m args below meth c H locs cells slots Q (F0 m pc ls st0) :=
  hc_v (va_runI (As := As) (rest := rest) ⟨hx, hb, hml, hown, hts⟩ hM (cwI n hts hg hw hrc.1 hrc.2.1 hini hlk hin hy1 hd hrc.2.2) (hc_pS hG hP hD isC hC hn.1) rfl hst.1 hsz hst.2.1 (lv_room hst.2.2.1) hdg hst.2.2.2) hA hP hD hS isC isR hC hR hn.2.1 hn.2.2 kk
/-- a call of a nest mate's private constructor -/
theorem hc_N {S : Type} {post : S → Prop} {wp : S → va_W} (hx : p.tables.exec = Jvm.exec) (hb : c.code = cc) (hml : c.maxLocals = nL) (hown : s.vm.findClass own = some m.cls) (hts : ∀ w ∈ Ts, w.before args s = true) (hG : GK D k s) (hA : ∀ q : Nat, s.heap.size ≤ q → A q) (hP : va_P D vwCl ws H) (hD : va_D A ws) (hS : va_S A s.heap H locs) (hsz : ls.size = nL)
    (isC isR : List Nat) (hM : CtV l y wd rm (.ref b :: As) D k H.size wc post wp mc ms) (hg : GoodIn Ts wd) (hw : wd = Cond.code y bytes maxL none :: wd') (hrc : rm.cells = mc ∧ rm.slots = ms ∧ rm.frames + 1 ≤ R.frames ∧ 8 + (maxL + 11) + rm.locals ≤ R.locals) (hlk : va_Nw (.methodLinkNest own index y host) s) (hini : (Cond.initialized y.cls).before args s = true) (hin : (Cond.instanceMethod y).before args s = true) (hy1 : y.name = "<init>") (hd : hcD y n)
    (hC : isC.map (fun i => ws[i]?) = wc.map some) (hR : isR.map (fun i => ws[i]?) = wr.map some) (hn : va_nd isC = true ∧ va_nd isR = true ∧ ∀ i ∈ isR, i ∉ isC) (hst : As.length = n ∧ st0 = As.reverse ++ .ref b :: rest ∧ (rest.map fun v => v.category).sum ≤ 8 ∧ cells + mc ≤ R.cells ∧ slots + ms ≤ R.slots) (hdg : decode cc pc = .ok (.invokespecial index, 3))
    (kk : ∀ (u : S) (H : Heap) (locs : List Loc), post u → va_P D vwCl (wr ++ wp u) H → va_D A (wr ++ wp u) → va_S A s.heap H locs → W p l e R s m args below meth c H locs (cells + mc) (slots + ms) Q (F0 m (pc + 3) ls rest)) : W p l e R s m args below meth c H locs cells slots Q (F0 m pc ls st0) :=
  hc_v (va_runIN (As := As) (rest := rest) ⟨hx, hb, hml, hown, hts⟩ hM ⟨va_cnB n hts hg hw hrc.1 hrc.2.1 hlk hini hd hrc.2.2, hy1, hin⟩ (hc_pS hG hP hD isC hC hn.1) rfl hst.1 hsz hst.2.1 (lv_room hst.2.2.1) hdg hst.2.2.2) hA hP hD hS isC isR hC hR hn.2.1 hn.2.2 kk
/-- a computed int is this one -/
theorem hc_is {x z : Int32} (h : x = z) (kk : W p l e R s m args below meth c H locs cells slots Q (F0 m pc ls (.int z :: rest))) : W p l e R s m args below meth c H locs cells slots Q (F0 m pc ls (.int x :: rest)) := h ▸ kk
theorem hc_isL {x z : Int64} (h : x = z) (kk : W p l e R s m args below meth c H locs cells slots Q (F0 m pc ls (.long z :: rest))) : W p l e R s m args below meth c H locs cells slots Q (F0 m pc ls (.long x :: rest)) := h ▸ kk
theorem hc_oneI {D : va_G} {k : Nat → ClassId} {cA : ClassId} {s : State} (h : va_K D vwCl (tysA k ++ [(cA, .int)]) s) : cA = k 0 := Option.some.inj ((va_nm_int (h.2 6 _ rfl).2).symm.trans (va_nm_int (h.2 0 _ rfl).2))
theorem hc_oneB {D : va_G} {k : Nat → ClassId} {cA : ClassId} {s : State} (h : va_K D vwCl (tysA k ++ [(cA, .byte)]) s) : cA = k 1 := Option.some.inj ((va_nm_byte (h.2 6 _ rfl).2).symm.trans (va_nm_byte (h.2 1 _ rfl).2))
theorem hc_oneZ {D : va_G} {k : Nat → ClassId} {cA : ClassId} {s : State} (h : va_K D vwCl (tysA k ++ [(cA, .boolean)]) s) : cA = k 2 := Option.some.inj ((va_nm_boolean (h.2 6 _ rfl).2).symm.trans (va_nm_boolean (h.2 2 _ rfl).2))
theorem hc_oneJ {D : va_G} {k : Nat → ClassId} {cA : ClassId} {s : State} (h : va_K D vwCl (tysA k ++ [(cA, .long)]) s) : cA = k 3 := Option.some.inj ((va_nm_long (h.2 6 _ rfl).2).symm.trans (va_nm_long (h.2 3 _ rfl).2))
theorem hc_oneR {D : va_G} {k : Nat → ClassId} {cA : ClassId} {s : State} (h : va_K D vwCl (tysA k ++ [(cA, .object RX4)]) s) : cA = k 4 := Option.some.inj ((va_nmO (h.2 6 _ rfl).2 rfl).symm.trans (va_nmO (h.2 4 _ rfl).2 rfl))
theorem hc_oneS {D : va_G} {k : Nat → ClassId} {cA : ClassId} {s : State} (h : va_K D vwCl (tysA k ++ [(cA, .object RX6)]) s) : cA = k 5 := Option.some.inj ((va_nmO (h.2 6 _ rfl).2 rfl).symm.trans (va_nmO (h.2 5 _ rfl).2 rfl))
noncomputable abbrev hcI (k : Nat → ClassId) (N : Nat) (f : Nat → Int32) : va_E := .inl (k 0, N, .inl f)
noncomputable abbrev hcY (k : Nat → ClassId) (N : Nat) (f : Nat → Int32) : va_E := .inl (k 1, N, .inl f)
noncomputable abbrev hcZ (k : Nat → ClassId) (N : Nat) (f : Nat → Int32) : va_E := .inl (k 2, N, .inl f)
noncomputable abbrev hcJ (k : Nat → ClassId) (N : Nat) (f : Nat → Int64) : va_E := .inl (k 3, N, .inr (.inl f))
noncomputable abbrev hcR (k : Nat → ClassId) (N : Nat) (f : Nat → Option Nat) : va_E := .inl (k 4, N, .inr (.inr (.inr (.inr f))))
noncomputable abbrev hcS (k : Nat → ClassId) (N : Nat) (f : Nat → Option Nat) : va_E := .inl (k 5, N, .inr (.inr (.inr (.inr f))))
theorem hc_newI (hx : p.tables.exec = Jvm.exec) (hb : c.code = cc) (harr : (Cond.arrayClass .int).before args s = true) (hG : GK D k s) (hA : ∀ q : Nat, s.heap.size ≤ q → A q) (hP : va_P D vwCl ws H) (hD : va_D A ws) (hS : va_S A s.heap H locs) {v : Int32} (N : Nat) (hv : ¬ v < 0 ∧ v.toNatClampNeg = N ∧ N * 4 ≤ 536870912) (hc : cells + 1 ≤ R.cells ∧ slots + N ≤ R.slots) (hdg : decode cc pc = .ok (.newarray .int, 2))
    (kk : ∀ (q : Nat) (H : Heap), va_P D vwCl (ws ++ [(q, hcI k N (fun _ => 0))]) H → va_D A (ws ++ [(q, hcI k N (fun _ => 0))]) → va_S A s.heap H locs → W p l e R s m args below meth c H locs (cells + 1) (slots + N) Q (F0 m (pc + 2) ls (.ref q :: rest))) : W p l e R s m args below meth c H locs cells slots Q (F0 m pc ls (.int v :: rest)) := by
  refine va_newa (a0 := (N, .inl (fun _ => 0))) hx hb (atype := .int) harr (ty := .int) rfl hG.1 hP hD hS hA (fun _ => rfl) hv.1 hv.2.1 hv.2.2 hc.1 hc.2 hdg (fun q cA H1 hK hP hD hS => ?_)
  have e := hc_oneI hK
  subst e
  exact kk q H1 hP hD hS
theorem hc_newB (hx : p.tables.exec = Jvm.exec) (hb : c.code = cc) (harr : (Cond.arrayClass .byte).before args s = true) (hG : GK D k s) (hA : ∀ q : Nat, s.heap.size ≤ q → A q) (hP : va_P D vwCl ws H) (hD : va_D A ws) (hS : va_S A s.heap H locs) {v : Int32} (N : Nat) (hv : ¬ v < 0 ∧ v.toNatClampNeg = N ∧ N * 1 ≤ 536870912) (hc : cells + 1 ≤ R.cells ∧ slots + N ≤ R.slots) (hdg : decode cc pc = .ok (.newarray .byte, 2))
    (kk : ∀ (q : Nat) (H : Heap), va_P D vwCl (ws ++ [(q, hcY k N (fun _ => 0))]) H → va_D A (ws ++ [(q, hcY k N (fun _ => 0))]) → va_S A s.heap H locs → W p l e R s m args below meth c H locs (cells + 1) (slots + N) Q (F0 m (pc + 2) ls (.ref q :: rest))) : W p l e R s m args below meth c H locs cells slots Q (F0 m pc ls (.int v :: rest)) := by
  refine va_newa (a0 := (N, .inl (fun _ => 0))) hx hb (atype := .byte) harr (ty := .byte) rfl hG.1 hP hD hS hA (fun _ => rfl) hv.1 hv.2.1 hv.2.2 hc.1 hc.2 hdg (fun q cA H1 hK hP hD hS => ?_)
  have e := hc_oneB hK
  subst e
  exact kk q H1 hP hD hS
theorem hc_newZ (hx : p.tables.exec = Jvm.exec) (hb : c.code = cc) (harr : (Cond.arrayClass .boolean).before args s = true) (hG : GK D k s) (hA : ∀ q : Nat, s.heap.size ≤ q → A q) (hP : va_P D vwCl ws H) (hD : va_D A ws) (hS : va_S A s.heap H locs) {v : Int32} (N : Nat) (hv : ¬ v < 0 ∧ v.toNatClampNeg = N ∧ N * 1 ≤ 536870912) (hc : cells + 1 ≤ R.cells ∧ slots + N ≤ R.slots) (hdg : decode cc pc = .ok (.newarray .boolean, 2))
    (kk : ∀ (q : Nat) (H : Heap), va_P D vwCl (ws ++ [(q, hcZ k N (fun _ => 0))]) H → va_D A (ws ++ [(q, hcZ k N (fun _ => 0))]) → va_S A s.heap H locs → W p l e R s m args below meth c H locs (cells + 1) (slots + N) Q (F0 m (pc + 2) ls (.ref q :: rest))) : W p l e R s m args below meth c H locs cells slots Q (F0 m pc ls (.int v :: rest)) := by
  refine va_newa (a0 := (N, .inl (fun _ => 0))) hx hb (atype := .boolean) harr (ty := .boolean) rfl hG.1 hP hD hS hA (fun _ => rfl) hv.1 hv.2.1 hv.2.2 hc.1 hc.2 hdg (fun q cA H1 hK hP hD hS => ?_)
  have e := hc_oneZ hK
  subst e
  exact kk q H1 hP hD hS
theorem hc_newJ (hx : p.tables.exec = Jvm.exec) (hb : c.code = cc) (harr : (Cond.arrayClass .long).before args s = true) (hG : GK D k s) (hA : ∀ q : Nat, s.heap.size ≤ q → A q) (hP : va_P D vwCl ws H) (hD : va_D A ws) (hS : va_S A s.heap H locs) {v : Int32} (N : Nat) (hv : ¬ v < 0 ∧ v.toNatClampNeg = N ∧ N * 8 ≤ 536870912) (hc : cells + 1 ≤ R.cells ∧ slots + N ≤ R.slots) (hdg : decode cc pc = .ok (.newarray .long, 2))
    (kk : ∀ (q : Nat) (H : Heap), va_P D vwCl (ws ++ [(q, hcJ k N (fun _ => 0))]) H → va_D A (ws ++ [(q, hcJ k N (fun _ => 0))]) → va_S A s.heap H locs → W p l e R s m args below meth c H locs (cells + 1) (slots + N) Q (F0 m (pc + 2) ls (.ref q :: rest))) : W p l e R s m args below meth c H locs cells slots Q (F0 m pc ls (.int v :: rest)) := by
  refine va_newa (a0 := (N, .inr (.inl (fun _ => 0)))) hx hb (atype := .long) harr (ty := .long) rfl hG.1 hP hD hS hA (fun _ => rfl) hv.1 hv.2.1 hv.2.2 hc.1 hc.2 hdg (fun q cA H1 hK hP hD hS => ?_)
  have e := hc_oneJ hK
  subst e
  exact kk q H1 hP hD hS
end HC
end
section
/-! what the first call answers -/
theorem sp_lt (a b : Int32) : a < b ↔ a.toInt < b.toInt := Int32.lt_iff_toInt_lt
theorem sp_le (a b : Int32) : a ≤ b ↔ a.toInt ≤ b.toInt := Int32.le_iff_toInt_le
theorem sp_eq (a b : Int32) : a = b ↔ a.toInt = b.toInt := Int32.toInt_inj.symm
theorem sp0 : (0 : Int32).toInt = 0 := by decide
theorem spm1 : (-1 : Int32).toInt = -1 := by decide
end
section
/-! intervals of ints and rows -/
abbrev iv (lo hi : Int) (x : Int32) : Prop := lo ≤ x.toInt ∧ x.toInt ≤ hi
noncomputable def rowIn (lo hi : Int) (f : Nat → Int32) : Prop := ∀ i, iv lo hi (f i)
theorem ai_bm {z : Int} (h1 : -2147483648 ≤ z) (h2 : z < 2147483648) : z.bmod (2 ^ 32) = z := by
  rw [Int.bmod_eq_of_le (by omega) (by omega)]
theorem ai_add {x y z : Int32} {a b : Int} (ha : x.toInt = a) (hb : y.toInt = b) (e : z = x + y) (h1 : -2147483648 ≤ a + b) (h2 : a + b < 2147483648) : z.toInt = a + b := by
  rw [e, Int32.toInt_add, ha, hb, ai_bm h1 h2]
theorem ai_sub {x y z : Int32} {a b : Int} (ha : x.toInt = a) (hb : y.toInt = b) (e : z = x - y) (h1 : -2147483648 ≤ a - b) (h2 : a - b < 2147483648) : z.toInt = a - b := by
  rw [e, Int32.toInt_sub, ha, hb, ai_bm h1 h2]
theorem ai_mask {x z m : Int32} {hi : Int} (k : Nat) (hm : m.toBitVec.toNat = 2 ^ k - 1) (hh : (2 : Int) ^ k - 1 = hi ∧ k ≤ 30) (e : z = x &&& m) : iv 0 hi z := by
  obtain ⟨j, hj, ej⟩ := pk_andE x k hm
  have hk : 2 ^ k ≤ 2 ^ 30 := Nat.pow_le_pow_right (by decide) hh.2
  rw [e, ej]
  unfold iv
  rw [nI_toInt (by omega), ← hh.1]
  have : ((2 ^ k : Nat) : Int) = (2 : Int) ^ k := by simp
  omega
theorem cd_lt_t {x y : Int32} {a b : Int} (ha : x.toInt = a) (hb : y.toInt = b) (h : a < b) : x < y := by
  simp only [sp_lt, sp_le, sp_eq, ha, hb]
  omega
theorem cd_lt_f {x y : Int32} {a b : Int} (ha : x.toInt = a) (hb : y.toInt = b) (h : b ≤ a) : ¬ (x < y) := by
  simp only [sp_lt, sp_le, sp_eq, ha, hb]
  omega
theorem cd_gt_t {x y : Int32} {a b : Int} (ha : x.toInt = a) (hb : y.toInt = b) (h : b < a) : y < x := by
  simp only [sp_lt, sp_le, sp_eq, ha, hb]
  omega
theorem cd_gt_f {x y : Int32} {a b : Int} (ha : x.toInt = a) (hb : y.toInt = b) (h : a ≤ b) : ¬ (y < x) := by
  simp only [sp_lt, sp_le, sp_eq, ha, hb]
  omega
end
section
/-! contracts that answer a long, or an object or none; a contract over a greater world -/
noncomputable def CtL (l : Launch) (y : MethodName) (wd : List Cond) (rm : Room) (av : List Value) (D : va_G) (k : Nat → ClassId) (sz : Nat) (ws : va_W) {S : Type} (post : Int64 → S → Prop) (wp : S → va_W) (mc ms : Nat) : Prop := Met l y wd rm (va_Pc av (hcP D k sz ws)) (va_Ql post (hcB D wp (va_A ws sz)) (va_A ws sz)) mc ms (va_A ws sz)
theorem CtL.mk {l : Launch} {y : MethodName} {wd wd' : List Cond} {rm : Room} {av : List Value} {D : va_G} {k : Nat → ClassId} {sz : Nat} {ws : va_W} {S : Type} {post : Int64 → S → Prop} {wp : S → va_W} {mc ms : Nat} {cc : ByteArray} {maxL : Nat} {ret : Option FieldType} (hy : plainName y.cls = true) (hw : wd = Cond.code y cc maxL ret :: wd') (hlv : (lg_sl av).length ≤ maxL)
    (body : ∀ (p : Program) (e : Env) (s : State) (m : MethodId) (below : List Frame) (meth : Method) (c : Code) (A : Nat → Prop) (ls : Array Slot), En p s m av.toArray meth c y cc ret maxL wd D k A → va_P D vwCl ws s.heap → va_D A ws → va_S A s.heap s.heap [] → lv_has ls maxL (lv_args 0 av) → W p l e rm s m av.toArray below meth c s.heap [] 0 0 (MQ below (va_Ql post (hcB D wp A) A) av.toArray s mc ms A) (F0 m 0 ls [])) : CtL l y wd rm av D k sz ws post wp mc ms := by
  refine Met.ofW (cc := cc) (maxL := maxL) (ret := ret) hy hw ?_
  intro p e s m args below meth c s₁ B hml hv
  obtain ⟨rfl, hsz, hP, hG, hD0⟩ := hv
  subst hsz
  have hts := atoms_spec (ws := wd) B.pre
  have hl := lv_entry av (n := maxL) hlv
  rw [lg_entry_eq]
  exact body p e s m below meth c (va_A ws s.heap.size) _ ⟨B.exec, B.bytes, B.returns, hml, findClass_of_methodNamed B.named, hts, B.notSynchronized, (name_of_methodNamed B.named B.method).1, hG, fun q h => Or.inr h⟩ hP (hD0.self (sz := s.heap.size)) va_S.rf hl
noncomputable def CtQ (l : Launch) (y : MethodName) (wd : List Cond) (rm : Room) (av : List Value) (D : va_G) (k : Nat → ClassId) (sz : Nat) (ws : va_W) {S : Type} (post : Option Nat → S → Prop) (wp : S → va_W) (mc ms : Nat) : Prop := Met l y wd rm (va_Pc av (hcP D k sz ws)) (va_Qq post (hcB D wp (va_A ws sz)) (va_A ws sz)) mc ms (va_A ws sz)
theorem CtQ.mk {l : Launch} {y : MethodName} {wd wd' : List Cond} {rm : Room} {av : List Value} {D : va_G} {k : Nat → ClassId} {sz : Nat} {ws : va_W} {S : Type} {post : Option Nat → S → Prop} {wp : S → va_W} {mc ms : Nat} {cc : ByteArray} {maxL : Nat} {ret : Option FieldType} (hy : plainName y.cls = true) (hw : wd = Cond.code y cc maxL ret :: wd') (hlv : (lg_sl av).length ≤ maxL)
    (body : ∀ (p : Program) (e : Env) (s : State) (m : MethodId) (below : List Frame) (meth : Method) (c : Code) (A : Nat → Prop) (ls : Array Slot), En p s m av.toArray meth c y cc ret maxL wd D k A → va_P D vwCl ws s.heap → va_D A ws → va_S A s.heap s.heap [] → lv_has ls maxL (lv_args 0 av) → W p l e rm s m av.toArray below meth c s.heap [] 0 0 (MQ below (va_Qq post (hcB D wp A) A) av.toArray s mc ms A) (F0 m 0 ls [])) : CtQ l y wd rm av D k sz ws post wp mc ms := by
  refine Met.ofW (cc := cc) (maxL := maxL) (ret := ret) hy hw ?_
  intro p e s m args below meth c s₁ B hml hv
  obtain ⟨rfl, hsz, hP, hG, hD0⟩ := hv
  subst hsz
  have hts := atoms_spec (ws := wd) B.pre
  have hl := lv_entry av (n := maxL) hlv
  rw [lg_entry_eq]
  exact body p e s m below meth c (va_A ws s.heap.size) _ ⟨B.exec, B.bytes, B.returns, hml, findClass_of_methodNamed B.named, hts, B.notSynchronized, (name_of_methodNamed B.named B.method).1, hG, fun q h => Or.inr h⟩ hP (hD0.self (sz := s.heap.size)) va_S.rf hl
section HC3
variable {p : Program} {l : Launch} {e : Env} {R : Room} {s : State} {m : MethodId} {args : Array Value} {below : List Frame} {meth : Method} {c : Code} {H : Heap} {locs : List Loc} {cells slots : Nat} {Q : State → Prop} {pc : Nat} {ls : Array Slot} {rest st0 As : List Value} {D : va_G} {k : Nat → ClassId} {A : Nat → Prop} {ws wc wr : va_W} {cc : ByteArray} {y : MethodName} {wd wd' Ts : List Cond} {rm : Room} {mc ms n index maxL nL : Nat} {bytes : ByteArray} {ret : Option FieldType} {own C host : String} {b : Nat}
theorem hc_endL {S : Type} {post : Int64 → S → Prop} {wp : S → va_W} {v : Int64} (hx : p.tables.exec = Jvm.exec) (hb : c.code = cc) (hr : meth.sig.returnType = some .long) (hlocks : meth.locks = false) (u : S) (hpost : post v u) (hP : va_P D vwCl (wp u) H) (hD : va_D A (wp u)) (hS : va_S A s.heap H locs) (hdg : decode cc pc = .ok (.lreturn, 1)) : W p l e R s m args below meth c H locs cells slots (MQ below (va_Ql post (hcB D wp A) A) args s cells slots A) (F0 m pc ls [.long v]) :=
  W.lret hx hb hr (fun t ht hW => ⟨⟨v, u, rfl, hpost, by rw [ht]; exact hP, hD⟩, hS.F ht⟩) hS.2.2 hdg hlocks
theorem hc_endQ {S : Type} {post : Option Nat → S → Prop} {wp : S → va_W} {cn : String} (v : Option Nat) (hx : p.tables.exec = Jvm.exec) (hb : c.code = cc) (hr : meth.sig.returnType = some (.object cn)) (hlocks : meth.locks = false) (u : S) (hpost : post v u) (hP : va_P D vwCl (wp u) H) (hD : va_D A (wp u)) (hS : va_S A s.heap H locs) (hdg : decode cc pc = .ok (.areturn, 1)) : W p l e R s m args below meth c H locs cells slots (MQ below (va_Qq post (hcB D wp A) A) args s cells slots A) (F0 m pc ls [va_rf v]) :=
  W.aret hx hb hr (Or.inl ⟨_, rfl⟩) (va_rf_or v) (fun t ht hW => ⟨⟨v, u, rfl, hpost, by rw [ht]; exact hP, hD⟩, hS.F ht⟩) hS.2.2 hdg hlocks
theorem hc_l {S : Type} {post : Int64 → S → Prop} {wp : S → va_W} {a : Array Value} (hr : va_Run p l e R s m args below meth c H locs cells slots mc ms (F0 m pc ls st0) rest (va_Ql post (hcB D wp (va_A wc H.size)) (va_A wc H.size) a) (va_A wc H.size)) (hA : ∀ q : Nat, s.heap.size ≤ q → A q) (hP : va_P D vwCl ws H) (hD : va_D A ws) (hS : va_S A s.heap H locs) (isC isR : List Nat) (hC : isC.map (fun i => ws[i]?) = wc.map some) (hR : isR.map (fun i => ws[i]?) = wr.map some) (hn : va_nd isR = true) (hdis : ∀ i ∈ isR, i ∉ isC)
    (kk : ∀ (r : Int64) (u : S) (H : Heap) (locs : List Loc), post r u → va_P D vwCl (wr ++ wp u) H → va_D A (wr ++ wp u) → va_S A s.heap H locs → W p l e R s m args below meth c H locs (cells + mc) (slots + ms) Q (F0 m (pc + 3) ls (.long r :: rest))) : W p l e R s m args below meth c H locs cells slots Q (F0 m pc ls st0) := by
  have hFc := va_free (wc := wc) hD hS hA isC hC
  refine va_calll hr hS (fun q _ h => hFc q h) hFc (fun r u t H1 locs ht hvm hw hB hz1 hk1 hS => ?_)
  obtain ⟨hP1, hD1⟩ := hB
  rw [ht] at hP1
  obtain ⟨hP, hD⟩ := va_join (wr := wr) (w1 := wp u) hP hD isC isR hC hR hn hdis hk1 hFc hP1 hD1
  exact kk r u H1 locs hw hP hD hS
theorem hc_Vl {S : Type} {post : Int64 → S → Prop} {wp : S → va_W} (hx : p.tables.exec = Jvm.exec) (hb : c.code = cc) (hml : c.maxLocals = nL) (hown : s.vm.findClass own = some m.cls) (hts : ∀ w ∈ Ts, w.before args s = true) (hG : GK D k s) (hA : ∀ q : Nat, s.heap.size ≤ q → A q) (hP : va_P D vwCl ws H) (hD : va_D A ws) (hS : va_S A s.heap H locs) (hsz : ls.size = nL)
    (isC isR : List Nat) (hM : CtL l y wd rm (.ref b :: As) D k H.size wc post wp mc ms) {ci q0 : Nat} {q : vw_C} {fs : List Value} (hc : vwCl[ci]? = some q) (he : ws[q0]? = some (b, .inr (ci, fs))) (hg : GoodIn Ts (wsV own index q.1 y wd)) (hw : wd = Cond.code y bytes maxL ret :: wd') (hrc : rm.cells = mc ∧ rm.slots = ms ∧ rm.frames + 1 ≤ R.frames ∧ 8 + (maxL + 11) + rm.locals ≤ R.locals) (hd : y.cls = q.1 ∧ hcD y n)
    (hC : isC.map (fun i => ws[i]?) = wc.map some) (hR : isR.map (fun i => ws[i]?) = wr.map some) (hn : va_nd isC = true ∧ va_nd isR = true ∧ ∀ i ∈ isR, i ∉ isC) (hst : As.length = n ∧ st0 = As.reverse ++ .ref b :: rest ∧ (rest.map fun v => v.category).sum ≤ 8 ∧ cells + mc ≤ R.cells ∧ slots + ms ≤ R.slots) (hdg : decode cc pc = .ok (.invokevirtual index, 3))
    (kk : ∀ (r : Int64) (u : S) (H : Heap) (locs : List Loc), post r u → va_P D vwCl (wr ++ wp u) H → va_D A (wr ++ wp u) → va_S A s.heap H locs → W p l e R s m args below meth c H locs (cells + mc) (slots + ms) Q (F0 m (pc + 3) ls (.long r :: rest))) : W p l e R s m args below meth c H locs cells slots Q (F0 m pc ls st0) :=
  hc_l (va_runV (As := As) (rest := rest) ⟨hx, hb, hml, hown, hts⟩ hM (cwV n hts hg hw hrc.1 hrc.2.1 hd hrc.2.2) (hc_pV hG hP hD isC hC hn.1 hc he) rfl hst.1 hsz hst.2.1 (lv_room hst.2.2.1) hdg hst.2.2.2) hA hP hD hS isC isR hC hR hn.2.1 hn.2.2 kk
theorem hc_Sl {S : Type} {post : Int64 → S → Prop} {wp : S → va_W} (hx : p.tables.exec = Jvm.exec) (hb : c.code = cc) (hml : c.maxLocals = nL) (hown : s.vm.findClass own = some m.cls) (hts : ∀ w ∈ Ts, w.before args s = true) (hG : GK D k s) (hA : ∀ q : Nat, s.heap.size ≤ q → A q) (hP : va_P D vwCl ws H) (hD : va_D A ws) (hS : va_S A s.heap H locs) (hsz : ls.size = nL)
    (isC isR : List Nat) (hM : CtL l y wd rm As D k H.size wc post wp mc ms) (hg : GoodIn Ts (va_wsS own index y wd)) (hw : wd = Cond.code y bytes maxL ret :: wd') (hrc : rm.cells = mc ∧ rm.slots = ms ∧ rm.frames + 1 ≤ R.frames ∧ 8 + (maxL + 11) + rm.locals ≤ R.locals) (hd : hcD y n)
    (hC : isC.map (fun i => ws[i]?) = wc.map some) (hR : isR.map (fun i => ws[i]?) = wr.map some) (hn : va_nd isC = true ∧ va_nd isR = true ∧ ∀ i ∈ isR, i ∉ isC) (hst : As.length = n ∧ st0 = As.reverse ++ rest ∧ (rest.map fun v => v.category).sum ≤ 8 ∧ cells + mc ≤ R.cells ∧ slots + ms ≤ R.slots) (hdg : decode cc pc = .ok (.invokestatic index, 3))
    (kk : ∀ (r : Int64) (u : S) (H : Heap) (locs : List Loc), post r u → va_P D vwCl (wr ++ wp u) H → va_D A (wr ++ wp u) → va_S A s.heap H locs → W p l e R s m args below meth c H locs (cells + mc) (slots + ms) Q (F0 m (pc + 3) ls (.long r :: rest))) : W p l e R s m args below meth c H locs cells slots Q (F0 m pc ls st0) :=
  hc_l (va_runS (As := As) (rest := rest) ⟨hx, hb, hml, hown, hts⟩ hM (va_cwS n hts hg hw hrc.1 hrc.2.1 hd hrc.2.2) (hc_pS hG hP hD isC hC hn.1) rfl hst.1 hsz hst.2.1 (lv_room hst.2.2.1) hdg hst.2.2.2) hA hP hD hS isC isR hC hR hn.2.1 hn.2.2 kk
theorem hc_q {S : Type} {post : Option Nat → S → Prop} {wp : S → va_W} {a : Array Value} (hr : va_Run p l e R s m args below meth c H locs cells slots mc ms (F0 m pc ls st0) rest (va_Qq post (hcB D wp (va_A wc H.size)) (va_A wc H.size) a) (va_A wc H.size)) (hA : ∀ q : Nat, s.heap.size ≤ q → A q) (hP : va_P D vwCl ws H) (hD : va_D A ws) (hS : va_S A s.heap H locs) (isC isR : List Nat) (hC : isC.map (fun i => ws[i]?) = wc.map some) (hR : isR.map (fun i => ws[i]?) = wr.map some) (hn : va_nd isR = true) (hdis : ∀ i ∈ isR, i ∉ isC)
    (kk : ∀ (r : Option Nat) (u : S) (H : Heap) (locs : List Loc), post r u → va_P D vwCl (wr ++ wp u) H → va_D A (wr ++ wp u) → va_S A s.heap H locs → W p l e R s m args below meth c H locs (cells + mc) (slots + ms) Q (F0 m (pc + 3) ls (va_rf r :: rest))) : W p l e R s m args below meth c H locs cells slots Q (F0 m pc ls st0) := by
  have hFc := va_free (wc := wc) hD hS hA isC hC
  refine va_callq hr hS (fun q _ h => hFc q h) hFc (fun r u t H1 locs ht hvm hw hB hz1 hk1 hS => ?_)
  obtain ⟨hP1, hD1⟩ := hB
  rw [ht] at hP1
  obtain ⟨hP, hD⟩ := va_join (wr := wr) (w1 := wp u) hP hD isC isR hC hR hn hdis hk1 hFc hP1 hD1
  exact kk r u H1 locs hw hP hD hS
theorem hc_Vq {S : Type} {post : Option Nat → S → Prop} {wp : S → va_W} (hx : p.tables.exec = Jvm.exec) (hb : c.code = cc) (hml : c.maxLocals = nL) (hown : s.vm.findClass own = some m.cls) (hts : ∀ w ∈ Ts, w.before args s = true) (hG : GK D k s) (hA : ∀ q : Nat, s.heap.size ≤ q → A q) (hP : va_P D vwCl ws H) (hD : va_D A ws) (hS : va_S A s.heap H locs) (hsz : ls.size = nL)
    (isC isR : List Nat) (hM : CtQ l y wd rm (.ref b :: As) D k H.size wc post wp mc ms) {ci q0 : Nat} {q : vw_C} {fs : List Value} (hc : vwCl[ci]? = some q) (he : ws[q0]? = some (b, .inr (ci, fs))) (hg : GoodIn Ts (wsV own index q.1 y wd)) (hw : wd = Cond.code y bytes maxL ret :: wd') (hrc : rm.cells = mc ∧ rm.slots = ms ∧ rm.frames + 1 ≤ R.frames ∧ 8 + (maxL + 11) + rm.locals ≤ R.locals) (hd : y.cls = q.1 ∧ hcD y n)
    (hC : isC.map (fun i => ws[i]?) = wc.map some) (hR : isR.map (fun i => ws[i]?) = wr.map some) (hn : va_nd isC = true ∧ va_nd isR = true ∧ ∀ i ∈ isR, i ∉ isC) (hst : As.length = n ∧ st0 = As.reverse ++ .ref b :: rest ∧ (rest.map fun v => v.category).sum ≤ 8 ∧ cells + mc ≤ R.cells ∧ slots + ms ≤ R.slots) (hdg : decode cc pc = .ok (.invokevirtual index, 3))
    (kk : ∀ (r : Option Nat) (u : S) (H : Heap) (locs : List Loc), post r u → va_P D vwCl (wr ++ wp u) H → va_D A (wr ++ wp u) → va_S A s.heap H locs → W p l e R s m args below meth c H locs (cells + mc) (slots + ms) Q (F0 m (pc + 3) ls (va_rf r :: rest))) : W p l e R s m args below meth c H locs cells slots Q (F0 m pc ls st0) :=
  hc_q (va_runV (As := As) (rest := rest) ⟨hx, hb, hml, hown, hts⟩ hM (cwV n hts hg hw hrc.1 hrc.2.1 hd hrc.2.2) (hc_pV hG hP hD isC hC hn.1 hc he) rfl hst.1 hsz hst.2.1 (lv_room hst.2.2.1) hdg hst.2.2.2) hA hP hD hS isC isR hC hR hn.2.1 hn.2.2 kk
theorem hc_isV {x z : Value} (h : x = z) (kk : W p l e R s m args below meth c H locs cells slots Q (F0 m pc ls (z :: rest))) : W p l e R s m args below meth c H locs cells slots Q (F0 m pc ls (x :: rest)) := h ▸ kk
theorem lv_aload_nO (hx : p.tables.exec = Jvm.exec) (hb : c.code = cc) {kf : Fin 4} {i : Nat} {r : Option Nat} (hdg : decode cc pc = .ok (.aload_n kf, 1)) (hi : (kf : Nat) = i) (hl : ls[i]? = some (.val (va_rf r))) (kk : W p l e R s m args below meth c H locs cells slots Q (F0 m (pc + 1) ls (va_rf r :: rest))) : W p l e R s m args below meth c H locs cells slots Q (F0 m pc ls rest) := by
  cases r with
  | none => exact lv_aload_nN hx hb hdg hi hl kk
  | some a => exact lv_aload_n hx hb hdg hi hl kk
theorem lv_aloadO (hx : p.tables.exec = Jvm.exec) (hb : c.code = cc) {i : Nat} {r : Option Nat} (hdg : decode cc pc = .ok (.aload i, 2)) (hl : ls[i]? = some (.val (va_rf r))) (kk : W p l e R s m args below meth c H locs cells slots Q (F0 m (pc + 2) ls (va_rf r :: rest))) : W p l e R s m args below meth c H locs cells slots Q (F0 m pc ls rest) := by
  cases r with
  | none => exact lv_aloadN hx hb hdg hl kk
  | some a => exact lv_aload hx hb hdg hl kk
theorem lv_astore_nO (hx : p.tables.exec = Jvm.exec) (hb : c.code = cc) {kf : Fin 4} {i nL : Nat} {r : Option Nat} {lv lv' : List (Nat × Value)} (hdg : decode cc pc = .ok (.astore_n kf, 1)) (hi : (kf : Nat) = i) (h : lv_has ls nL lv) (hn : i < nL) (hl : (i, va_rf r) :: lv.filter (fun q => !(q.1 == i) && !(q.1 + 1 == i && q.2.category == 2)) = lv') (kk : ∀ ls' : Array Slot, lv_has ls' nL lv' → W p l e R s m args below meth c H locs cells slots Q (F0 m (pc + 1) ls' rest)) : W p l e R s m args below meth c H locs cells slots Q (F0 m pc ls (va_rf r :: rest)) := by
  cases r with
  | none => exact lv_astore_nN hx hb hdg hi h hn hl kk
  | some a => exact lv_astore_n hx hb hdg hi h hn hl kk
theorem lv_astoreO (hx : p.tables.exec = Jvm.exec) (hb : c.code = cc) {i nL : Nat} {r : Option Nat} {lv lv' : List (Nat × Value)} (hdg : decode cc pc = .ok (.astore i, 2)) (h : lv_has ls nL lv) (hn : i < nL) (hl : (i, va_rf r) :: lv.filter (fun q => !(q.1 == i) && !(q.1 + 1 == i && q.2.category == 2)) = lv') (kk : ∀ ls' : Array Slot, lv_has ls' nL lv' → W p l e R s m args below meth c H locs cells slots Q (F0 m (pc + 2) ls' rest)) : W p l e R s m args below meth c H locs cells slots Q (F0 m pc ls (va_rf r :: rest)) := by
  cases r with
  | none => exact lv_astoreN hx hb hdg h hn hl kk
  | some a => exact lv_astore hx hb hdg h hn hl kk
end HC3
/-- what a contract says may be said of a smaller start and a greater end -/
theorem Met.wk {l : Launch} {y : MethodName} {ws : List Cond} {rm : Room} {Pc Pc' : Array Value → State → Prop} {Qc Qc' : Array Value → State → Outcome → State → Prop} {mc ms : Nat} {fr fr' : Addr → Prop} (h : Met l y ws rm Pc Qc mc ms fr) (hp : ∀ a st, Pc' a st → Pc a st) (hq : ∀ a st o t, Pc' a st → Qc a st o t → Qc' a st o t) (hf : ∀ q, fr q → fr' q) : Met l y ws rm Pc' Qc' mc ms fr' := by
  intro p e ha hc hk s m args below hf' happ hP hK
  obtain ⟨n, o, h1, h2, h3, h4, L, h5, h6⟩ := h p e ha hc hk s m args below hf' happ (hp _ _ hP) hK
  exact ⟨n, o, h1, h2, h3, hq _ _ _ _ hP h4, L, h5, fun q hq' => hf _ (h6 q hq')⟩
section FRM
variable {l : Launch} {y : MethodName} {wd : List Cond} {rm : Room} {av : List Value} {D : va_G} {k : Nat → ClassId} {sz mc ms : Nat} {ws wc wr : va_W} {S S' : Type}
theorem fr_pre (isC : List Nat) (hC : isC.map (fun i => ws[i]?) = wc.map some) (hn : va_nd isC = true) {st : State} (h : hcP D k sz ws st) : hcP D k sz wc st := ⟨h.1, h.2.1.sub isC (hc_fm _ _ _ hC), h.2.2.1, h.2.2.2.sub isC hn hC⟩
theorem fr_sub (isC : List Nat) (hC : isC.map (fun i => ws[i]?) = wc.map some) {st : State} (h : hcP D k sz ws st) : ∀ q, va_A wc sz q → va_A ws sz q := by
  have := va_free (A0 := va_A ws sz) (H0 := st.heap) (H := st.heap) (locs := []) (h.2.2.2.self (sz := sz)) va_S.rf (fun q hq => Or.inr (by rw [← h.1]; exact hq)) isC hC
  rw [h.1] at this
  exact this
theorem fr_post (isC isR isO : List Nat) (hC : isC.map (fun i => ws[i]?) = wc.map some) (hR : isR.map (fun i => ws[i]?) = wr.map some) (hn : va_nd isC = true ∧ va_nd isR = true ∧ va_nd isO = true ∧ ∀ i ∈ isR, i ∉ isC) {w1 w2 : va_W} (hO : isO.map (fun i => (wr ++ w1)[i]?) = w2.map some) {st t : State} (h : hcP D k sz ws st) (hF : va_F (va_A wc sz) st t) (hP1 : va_P D vwCl w1 t.heap) (hD1 : va_D (va_A wc sz) w1) : (va_P D vwCl w2 t.heap ∧ va_D (va_A ws sz) w2) ∧ va_F (va_A ws sz) st t := by
  have hs := fr_sub (D := D) (k := k) isC hC h
  obtain ⟨h0, hP, hG, hD⟩ := h
  subst h0
  have hj := va_join (wr := wr) (w1 := w1) hP (hD.self (sz := st.heap.size)) isC isR hC hR hn.2.1 hn.2.2.2 hF.2 hs hP1 hD1
  exact ⟨⟨hj.1.sub isO (hc_fm _ _ _ hO), hj.2.sub isO hn.2.2.1 hO⟩, hF.1, fun q h1 h2 => hF.2 q h1 (fun h3 => h2 (hs q h3))⟩
theorem Met.frA {Pc : State → Prop} {Qc Qc' : Array Value → State → Outcome → State → Prop} (isC : List Nat) (hC : isC.map (fun i => ws[i]?) = wc.map some) (h : Met l y wd rm (va_Pc av Pc) Qc mc ms (va_A wc sz)) (hp : ∀ st, hcP D k sz ws st → Pc st) (hq : ∀ a st o t, hcP D k sz ws st → Qc a st o t → Qc' a st o t) (hx : ∀ q, va_A wc sz q → va_A ws sz q) : Met l y wd rm (va_Pc av (hcP D k sz ws)) Qc' mc ms (va_A ws sz) :=
  Met.wk h (fun a st q => ⟨q.1, hp st q.2⟩) (fun a st o t q1 q2 => hq a st o t q1.2 q2) hx
theorem CtI.fr {post : Int32 → S → Prop} {wp : S → va_W} {post' : Int32 → S' → Prop} {wp' : S' → va_W} (h : CtI l y wd rm av D k sz wc post wp mc ms) (isC isR isO : List Nat) (g : S → S') (hC : isC.map (fun i => ws[i]?) = wc.map some) (hR : isR.map (fun i => ws[i]?) = wr.map some) (hn : va_nd isC = true ∧ va_nd isR = true ∧ va_nd isO = true ∧ ∀ i ∈ isR, i ∉ isC) (hO : ∀ u, isO.map (fun i => (wr ++ wp u)[i]?) = (wp' (g u)).map some) (hx : ∀ q, va_A wc sz q → va_A ws sz q) (hpo : ∀ r u, post r u → post' r (g u)) : CtI l y wd rm av D k sz ws post' wp' mc ms :=
  Met.frA isC hC h (fun st q => fr_pre isC hC hn.1 q) (fun a st o t q1 q2 => by
    obtain ⟨⟨r, u, e1, e2, e3, e4⟩, e5⟩ := q2
    obtain ⟨f1, f2⟩ := fr_post isC isR isO hC hR hn (hO u) q1 e5 e3 e4
    exact ⟨⟨r, g u, e1, hpo r u e2, f1⟩, f2⟩) hx
theorem CtV.fr {post : S → Prop} {wp : S → va_W} {post' : S' → Prop} {wp' : S' → va_W} (h : CtV l y wd rm av D k sz wc post wp mc ms) (isC isR isO : List Nat) (g : S → S') (hC : isC.map (fun i => ws[i]?) = wc.map some) (hR : isR.map (fun i => ws[i]?) = wr.map some) (hn : va_nd isC = true ∧ va_nd isR = true ∧ va_nd isO = true ∧ ∀ i ∈ isR, i ∉ isC) (hO : ∀ u, isO.map (fun i => (wr ++ wp u)[i]?) = (wp' (g u)).map some) (hx : ∀ q, va_A wc sz q → va_A ws sz q) (hpo : ∀ u, post u → post' (g u)) : CtV l y wd rm av D k sz ws post' wp' mc ms :=
  Met.frA isC hC h (fun st q => fr_pre isC hC hn.1 q) (fun a st o t q1 q2 => by
    obtain ⟨⟨u, e1, e2, e3, e4⟩, e5⟩ := q2
    obtain ⟨f1, f2⟩ := fr_post isC isR isO hC hR hn (hO u) q1 e5 e3 e4
    exact ⟨⟨g u, e1, hpo u e2, f1⟩, f2⟩) hx
/-- addresses of some cells are addresses of all -/
theorem fr_in (isC : List Nat) (hC : isC.map (fun i => ws[i]?) = wc.map some) : ∀ q, va_A wc sz q → va_A ws sz q := by
  intro q h
  rcases h with ⟨i, e, h⟩ | h
  · have h1 : (isC.map (fun i => ws[i]?))[i]? = some (some (q, e)) := by rw [hC, List.getElem?_map, h]; rfl
    rw [List.getElem?_map] at h1
    cases hi : isC[i]? with
    | none => rw [hi] at h1; cases h1
    | some j => rw [hi] at h1; exact Or.inl ⟨j, e, Option.some.inj h1⟩
  · exact Or.inr h
end FRM
end
section
/-! decode rows by their opcodes -/
theorem od_u1 {c : ByteArray} {p n : Nat} (h : (c.data.toList[p]?).map UInt8.toNat = some n) : (Reader.u1 : Decoder Nat) c p = .ok (n, p + 1) := by
  obtain ⟨b, hb, hn⟩ := Option.map_eq_some_iff.mp h
  obtain ⟨hp, hb⟩ := List.getElem?_eq_some_iff.mp hb
  have hq : p < c.size := hp
  have e : (Reader.u1 : Decoder Nat) c p = (if h : p < c.size then (do set (p + 1); pure (c[p]'h).toNat : Decoder Nat) else throw (HasTruncated.truncated p)) c p := rfl
  rw [e, dif_pos hq]
  show (Except.ok ((c[p]'hq).toNat, p + 1) : Except DecodeError (Nat × Nat)) = _
  have e2 : c[p]'hq = b := hb
  rw [e2, hn]
theorem od_b {α β : Type} {r : Decoder α} {k : α → Decoder β} {c : ByteArray} {p p' : Nat} {a : α} {z : Except DecodeError (β × Nat)} (h : r c p = .ok (a, p')) (hk : k a c p' = z) : (r >>= k) c p = z := by
  have e : (r >>= k) c p = Except.bind (r c p) (fun x => k x.1 c x.2) := rfl
  rw [e, h]
  exact hk
theorem od_m {α β : Type} {r : Decoder α} {f : α → β} {c : ByteArray} {p p' : Nat} {a : α} (h : r c p = .ok (a, p')) : (f <$> r) c p = .ok (f a, p') := by
  have e : (f <$> r) c p = Except.bind (r c p) (fun x => Except.ok (f x.1, x.2)) := by
    show Except.bind (r c p) _ = Except.bind (r c p) _
    rfl
  rw [e, h]
  rfl
noncomputable def od_at (c : ByteArray) (p : Nat) : List Nat → Prop
  | [] => True
  | n :: l => (c.data.toList[p]?).map UInt8.toNat = some n ∧ od_at c (p + 1) l
noncomputable def od_t : List UInt8 → List Nat → Bool
  | _, [] => true
  | [], _ => false
  | a :: l, n :: m => a.toNat == n && od_t l m
theorem od_of {c : ByteArray} : ∀ {m : List Nat} {p : Nat}, od_t (c.data.toList.drop p) m = true → od_at c p m
  | [], _, _ => trivial
  | n :: m, p, h => by
    cases e : c.data.toList.drop p with
    | nil => rw [e] at h; cases h
    | cons a l =>
      rw [e] at h
      have h1 := (Bool.and_eq_true _ _).mp h
      have e1 : c.data.toList[p]? = some a := by
        have := congrArg (fun l : List UInt8 => l[0]?) e
        simpa [List.getElem?_drop] using this
      have e2 : c.data.toList.drop (p + 1) = l := by
        rw [← List.drop_drop, e]
        rfl
      refine ⟨?_, od_of (by rw [e2]; exact h1.2)⟩
      rw [e1]
      exact congrArg some (beq_iff_eq.mp h1.1)
theorem od_tk : ∀ {l : List UInt8} {a : Nat} {m : List Nat}, od_t (l.take a) m = true → od_t l m = true
  | [], _, [], _ => rfl
  | _ :: _, _, [], _ => rfl
  | [], a, n :: m, h => by
    rw [List.take_nil] at h
    exact h
  | x :: l, 0, n :: m, h => by cases h
  | x :: l, a + 1, n :: m, h => by
    have h1 := (Bool.and_eq_true _ _).mp h
    exact (Bool.and_eq_true _ _).mpr ⟨h1.1, od_tk h1.2⟩
theorem od_ch {L chunk : List UInt8} {q n j : Nat} {m : List Nat} (e : (L.drop q).take n = chunk) (h : od_t (chunk.drop j) m = true) : od_t (L.drop (q + j)) m = true := by
  subst e
  rw [List.drop_take, List.drop_drop] at h
  exact od_tk h
theorem od_ca {L chunk : List UInt8} {q n j : Nat} {m : List Nat} {b : Bool} (e : (L.drop q).take n = chunk) (h : (od_t (chunk.drop j) m && b) = true) : (od_t (L.drop (q + j)) m && b) = true := by
  have h1 := (Bool.and_eq_true _ _).mp h
  exact (Bool.and_eq_true _ _).mpr ⟨od_ch e h1.1, h1.2⟩
noncomputable def IK (op : Nat) (d : Decoder Instr) : Prop := ∀ (c : ByteArray) (p : Nat), (c.data.toList[p]?).map UInt8.toNat = some op → Decoder.instr p c p = d c (p + 1)
theorem od_dec {c : ByteArray} {p q n : Nat} {i : Instr} (h : Decoder.instr p c p = .ok (i, q)) (hn : q = p + n) : decode c p = .ok (i, n) := by
  have e : decode c p = Except.bind (Decoder.instr p c p) (fun x => Except.ok (x.1, x.2 - p)) := rfl
  rw [e, h]
  show Except.ok (i, q - p) = _
  rw [hn, Nat.add_sub_cancel_left]
theorem of_0 {op : Nat} {i : Instr} (k : IK op (pure i)) {c : ByteArray} {p : Nat} (h : od_t (c.data.toList.drop p) [op] = true) : decode c p = .ok (i, 1) :=
  od_dec (k c p (od_of h).1) rfl
theorem of_u1 {op : Nat} {g : Nat → Instr} (k : IK op (Reader.u1 >>= fun x => pure (g x))) {c : ByteArray} {p a : Nat} (h : od_t (c.data.toList.drop p) [op, a] = true) : decode c p = .ok (g a, 2) :=
  od_dec ((k c p (od_of h).1).trans (od_b (od_u1 (od_of h).2.1) rfl)) rfl
theorem od_u2 {c : ByteArray} {p a b : Nat} (h1 : (c.data.toList[p]?).map UInt8.toNat = some a) (h2 : (c.data.toList[p + 1]?).map UInt8.toNat = some b) : (Reader.u2 : Decoder Nat) c p = .ok (a * 256 + b, p + 2) :=
  od_b (od_u1 h1) (od_b (od_u1 h2) rfl)
theorem of_u2 {op : Nat} {g : Nat → Instr} (k : IK op (Reader.u2 >>= fun x => pure (g x))) {c : ByteArray} {p n : Nat} (a b : Nat) (h : (od_t (c.data.toList.drop p) [op, a, b] && (a * 256 + b == n)) = true) : decode c p = .ok (g n, 3) := by
  have h1 := (Bool.and_eq_true _ _).mp h
  have e := beq_iff_eq.mp h1.2
  subst e
  have o := od_of h1.1
  exact od_dec ((k c p o.1).trans (od_b (od_u2 o.2.1 o.2.2.1) rfl)) rfl
theorem of_s1 {op : Nat} {g : Int → Instr} (k : IK op (Reader.s1 >>= fun x => pure (g x))) {c : ByteArray} {p : Nat} {n : Int} (a : Nat) (h : (od_t (c.data.toList.drop p) [op, a] && decide (Reader.signed 8 a = n)) = true) : decode c p = .ok (g n, 2) := by
  have h1 := (Bool.and_eq_true _ _).mp h
  have e := of_decide_eq_true h1.2
  subst e
  have o := od_of h1.1
  exact od_dec ((k c p o.1).trans (od_b (od_m (od_u1 o.2.1)) rfl)) rfl
theorem of_s2 {op : Nat} {g : Int → Instr} (k : IK op (Reader.s2 >>= fun x => pure (g x))) {c : ByteArray} {p : Nat} {n : Int} (a b : Nat) (h : (od_t (c.data.toList.drop p) [op, a, b] && decide (Reader.signed 16 (a * 256 + b) = n)) = true) : decode c p = .ok (g n, 3) := by
  have h1 := (Bool.and_eq_true _ _).mp h
  have e := of_decide_eq_true h1.2
  subst e
  have o := od_of h1.1
  exact od_dec ((k c p o.1).trans (od_b (od_m (od_u2 o.2.1 o.2.2.1)) rfl)) rfl
theorem of_ii {op : Nat} {g : Nat → Int → Instr} (k : IK op (Reader.u1 >>= fun x => Reader.s1 >>= fun y => pure (g x y))) {c : ByteArray} {p j : Nat} {n : Int} (a : Nat) (h : (od_t (c.data.toList.drop p) [op, j, a] && decide (Reader.signed 8 a = n)) = true) : decode c p = .ok (g j n, 3) := by
  have h1 := (Bool.and_eq_true _ _).mp h
  have e := of_decide_eq_true h1.2
  subst e
  have o := od_of h1.1
  exact od_dec ((k c p o.1).trans (od_b (od_u1 o.2.1) (od_b (od_m (od_u1 o.2.2.1)) rfl))) rfl
set_option maxRecDepth 10000 in
theorem ok_aaload : IK 50 (pure (.aaload)) := fun c p h => by
  unfold Decoder.instr
  exact od_b (od_u1 h) rfl
set_option maxRecDepth 10000 in
theorem ok_aastore : IK 83 (pure (.aastore)) := fun c p h => by
  unfold Decoder.instr
  exact od_b (od_u1 h) rfl
set_option maxRecDepth 10000 in
theorem ok_aconst_null : IK 1 (pure (.aconst_null)) := fun c p h => by
  unfold Decoder.instr
  exact od_b (od_u1 h) rfl
set_option maxRecDepth 10000 in
theorem ok_aload_n_0 : IK 42 (pure (.aload_n 0)) := fun c p h => by
  unfold Decoder.instr
  exact od_b (od_u1 h) rfl
set_option maxRecDepth 10000 in
theorem ok_aload_n_1 : IK 43 (pure (.aload_n 1)) := fun c p h => by
  unfold Decoder.instr
  exact od_b (od_u1 h) rfl
set_option maxRecDepth 10000 in
theorem ok_aload_n_2 : IK 44 (pure (.aload_n 2)) := fun c p h => by
  unfold Decoder.instr
  exact od_b (od_u1 h) rfl
set_option maxRecDepth 10000 in
theorem ok_aload_n_3 : IK 45 (pure (.aload_n 3)) := fun c p h => by
  unfold Decoder.instr
  exact od_b (od_u1 h) rfl
set_option maxRecDepth 10000 in
theorem ok_areturn : IK 176 (pure (.areturn)) := fun c p h => by
  unfold Decoder.instr
  exact od_b (od_u1 h) rfl
set_option maxRecDepth 10000 in
theorem ok_arraylength : IK 190 (pure (.arraylength)) := fun c p h => by
  unfold Decoder.instr
  exact od_b (od_u1 h) rfl
set_option maxRecDepth 10000 in
theorem ok_astore_n_1 : IK 76 (pure (.astore_n 1)) := fun c p h => by
  unfold Decoder.instr
  exact od_b (od_u1 h) rfl
set_option maxRecDepth 10000 in
theorem ok_astore_n_2 : IK 77 (pure (.astore_n 2)) := fun c p h => by
  unfold Decoder.instr
  exact od_b (od_u1 h) rfl
set_option maxRecDepth 10000 in
theorem ok_astore_n_3 : IK 78 (pure (.astore_n 3)) := fun c p h => by
  unfold Decoder.instr
  exact od_b (od_u1 h) rfl
set_option maxRecDepth 10000 in
theorem ok_baload : IK 51 (pure (.baload)) := fun c p h => by
  unfold Decoder.instr
  exact od_b (od_u1 h) rfl
set_option maxRecDepth 10000 in
theorem ok_bastore : IK 84 (pure (.bastore)) := fun c p h => by
  unfold Decoder.instr
  exact od_b (od_u1 h) rfl
set_option maxRecDepth 10000 in
theorem ok_dup : IK 89 (pure (.dup)) := fun c p h => by
  unfold Decoder.instr
  exact od_b (od_u1 h) rfl
set_option maxRecDepth 10000 in
theorem ok_dup2 : IK 92 (pure (.dup2)) := fun c p h => by
  unfold Decoder.instr
  exact od_b (od_u1 h) rfl
set_option maxRecDepth 10000 in
theorem ok_i2b : IK 145 (pure (.i2b)) := fun c p h => by
  unfold Decoder.instr
  exact od_b (od_u1 h) rfl
set_option maxRecDepth 10000 in
theorem ok_i2c : IK 146 (pure (.i2c)) := fun c p h => by
  unfold Decoder.instr
  exact od_b (od_u1 h) rfl
set_option maxRecDepth 10000 in
theorem ok_i2l : IK 133 (pure (.i2l)) := fun c p h => by
  unfold Decoder.instr
  exact od_b (od_u1 h) rfl
set_option maxRecDepth 10000 in
theorem ok_iadd : IK 96 (pure (.iadd)) := fun c p h => by
  unfold Decoder.instr
  exact od_b (od_u1 h) rfl
set_option maxRecDepth 10000 in
theorem ok_iaload : IK 46 (pure (.iaload)) := fun c p h => by
  unfold Decoder.instr
  exact od_b (od_u1 h) rfl
set_option maxRecDepth 10000 in
theorem ok_iand : IK 126 (pure (.iand)) := fun c p h => by
  unfold Decoder.instr
  exact od_b (od_u1 h) rfl
set_option maxRecDepth 10000 in
theorem ok_iastore : IK 79 (pure (.iastore)) := fun c p h => by
  unfold Decoder.instr
  exact od_b (od_u1 h) rfl
set_option maxRecDepth 10000 in
theorem ok_iconst_m1 : IK 2 (pure (.iconst (-1))) := fun c p h => by
  unfold Decoder.instr
  exact od_b (od_u1 h) rfl
set_option maxRecDepth 10000 in
theorem ok_iconst_0 : IK 3 (pure (.iconst 0)) := fun c p h => by
  unfold Decoder.instr
  exact od_b (od_u1 h) rfl
set_option maxRecDepth 10000 in
theorem ok_iconst_1 : IK 4 (pure (.iconst 1)) := fun c p h => by
  unfold Decoder.instr
  exact od_b (od_u1 h) rfl
set_option maxRecDepth 10000 in
theorem ok_iconst_2 : IK 5 (pure (.iconst 2)) := fun c p h => by
  unfold Decoder.instr
  exact od_b (od_u1 h) rfl
set_option maxRecDepth 10000 in
theorem ok_iconst_3 : IK 6 (pure (.iconst 3)) := fun c p h => by
  unfold Decoder.instr
  exact od_b (od_u1 h) rfl
set_option maxRecDepth 10000 in
theorem ok_iconst_4 : IK 7 (pure (.iconst 4)) := fun c p h => by
  unfold Decoder.instr
  exact od_b (od_u1 h) rfl
set_option maxRecDepth 10000 in
theorem ok_iconst_5 : IK 8 (pure (.iconst 5)) := fun c p h => by
  unfold Decoder.instr
  exact od_b (od_u1 h) rfl
set_option maxRecDepth 10000 in
theorem ok_idiv : IK 108 (pure (.idiv)) := fun c p h => by
  unfold Decoder.instr
  exact od_b (od_u1 h) rfl
set_option maxRecDepth 10000 in
theorem ok_iload_n_0 : IK 26 (pure (.iload_n 0)) := fun c p h => by
  unfold Decoder.instr
  exact od_b (od_u1 h) rfl
set_option maxRecDepth 10000 in
theorem ok_iload_n_1 : IK 27 (pure (.iload_n 1)) := fun c p h => by
  unfold Decoder.instr
  exact od_b (od_u1 h) rfl
set_option maxRecDepth 10000 in
theorem ok_iload_n_2 : IK 28 (pure (.iload_n 2)) := fun c p h => by
  unfold Decoder.instr
  exact od_b (od_u1 h) rfl
set_option maxRecDepth 10000 in
theorem ok_iload_n_3 : IK 29 (pure (.iload_n 3)) := fun c p h => by
  unfold Decoder.instr
  exact od_b (od_u1 h) rfl
set_option maxRecDepth 10000 in
theorem ok_imul : IK 104 (pure (.imul)) := fun c p h => by
  unfold Decoder.instr
  exact od_b (od_u1 h) rfl
set_option maxRecDepth 10000 in
theorem ok_ineg : IK 116 (pure (.ineg)) := fun c p h => by
  unfold Decoder.instr
  exact od_b (od_u1 h) rfl
set_option maxRecDepth 10000 in
theorem ok_ior : IK 128 (pure (.ior)) := fun c p h => by
  unfold Decoder.instr
  exact od_b (od_u1 h) rfl
set_option maxRecDepth 10000 in
theorem ok_irem : IK 112 (pure (.irem)) := fun c p h => by
  unfold Decoder.instr
  exact od_b (od_u1 h) rfl
set_option maxRecDepth 10000 in
theorem ok_ireturn : IK 172 (pure (.ireturn)) := fun c p h => by
  unfold Decoder.instr
  exact od_b (od_u1 h) rfl
set_option maxRecDepth 10000 in
theorem ok_ishl : IK 120 (pure (.ishl)) := fun c p h => by
  unfold Decoder.instr
  exact od_b (od_u1 h) rfl
set_option maxRecDepth 10000 in
theorem ok_ishr : IK 122 (pure (.ishr)) := fun c p h => by
  unfold Decoder.instr
  exact od_b (od_u1 h) rfl
set_option maxRecDepth 10000 in
theorem ok_istore_n_0 : IK 59 (pure (.istore_n 0)) := fun c p h => by
  unfold Decoder.instr
  exact od_b (od_u1 h) rfl
set_option maxRecDepth 10000 in
theorem ok_istore_n_1 : IK 60 (pure (.istore_n 1)) := fun c p h => by
  unfold Decoder.instr
  exact od_b (od_u1 h) rfl
set_option maxRecDepth 10000 in
theorem ok_istore_n_2 : IK 61 (pure (.istore_n 2)) := fun c p h => by
  unfold Decoder.instr
  exact od_b (od_u1 h) rfl
set_option maxRecDepth 10000 in
theorem ok_istore_n_3 : IK 62 (pure (.istore_n 3)) := fun c p h => by
  unfold Decoder.instr
  exact od_b (od_u1 h) rfl
set_option maxRecDepth 10000 in
theorem ok_isub : IK 100 (pure (.isub)) := fun c p h => by
  unfold Decoder.instr
  exact od_b (od_u1 h) rfl
set_option maxRecDepth 10000 in
theorem ok_iushr : IK 124 (pure (.iushr)) := fun c p h => by
  unfold Decoder.instr
  exact od_b (od_u1 h) rfl
set_option maxRecDepth 10000 in
theorem ok_ixor : IK 130 (pure (.ixor)) := fun c p h => by
  unfold Decoder.instr
  exact od_b (od_u1 h) rfl
set_option maxRecDepth 10000 in
theorem ok_l2i : IK 136 (pure (.l2i)) := fun c p h => by
  unfold Decoder.instr
  exact od_b (od_u1 h) rfl
set_option maxRecDepth 10000 in
theorem ok_ladd : IK 97 (pure (.ladd)) := fun c p h => by
  unfold Decoder.instr
  exact od_b (od_u1 h) rfl
set_option maxRecDepth 10000 in
theorem ok_laload : IK 47 (pure (.laload)) := fun c p h => by
  unfold Decoder.instr
  exact od_b (od_u1 h) rfl
set_option maxRecDepth 10000 in
theorem ok_land : IK 127 (pure (.land)) := fun c p h => by
  unfold Decoder.instr
  exact od_b (od_u1 h) rfl
set_option maxRecDepth 10000 in
theorem ok_lastore : IK 80 (pure (.lastore)) := fun c p h => by
  unfold Decoder.instr
  exact od_b (od_u1 h) rfl
set_option maxRecDepth 10000 in
theorem ok_lcmp : IK 148 (pure (.lcmp)) := fun c p h => by
  unfold Decoder.instr
  exact od_b (od_u1 h) rfl
set_option maxRecDepth 10000 in
theorem ok_lconst_0 : IK 9 (pure (.lconst 0)) := fun c p h => by
  unfold Decoder.instr
  exact od_b (od_u1 h) rfl
set_option maxRecDepth 10000 in
theorem ok_lconst_1 : IK 10 (pure (.lconst 1)) := fun c p h => by
  unfold Decoder.instr
  exact od_b (od_u1 h) rfl
set_option maxRecDepth 10000 in
theorem ok_ldiv : IK 109 (pure (.ldiv)) := fun c p h => by
  unfold Decoder.instr
  exact od_b (od_u1 h) rfl
set_option maxRecDepth 10000 in
theorem ok_lload_n_0 : IK 30 (pure (.lload_n 0)) := fun c p h => by
  unfold Decoder.instr
  exact od_b (od_u1 h) rfl
set_option maxRecDepth 10000 in
theorem ok_lload_n_1 : IK 31 (pure (.lload_n 1)) := fun c p h => by
  unfold Decoder.instr
  exact od_b (od_u1 h) rfl
set_option maxRecDepth 10000 in
theorem ok_lload_n_2 : IK 32 (pure (.lload_n 2)) := fun c p h => by
  unfold Decoder.instr
  exact od_b (od_u1 h) rfl
set_option maxRecDepth 10000 in
theorem ok_lload_n_3 : IK 33 (pure (.lload_n 3)) := fun c p h => by
  unfold Decoder.instr
  exact od_b (od_u1 h) rfl
set_option maxRecDepth 10000 in
theorem ok_lmul : IK 105 (pure (.lmul)) := fun c p h => by
  unfold Decoder.instr
  exact od_b (od_u1 h) rfl
set_option maxRecDepth 10000 in
theorem ok_lor : IK 129 (pure (.lor)) := fun c p h => by
  unfold Decoder.instr
  exact od_b (od_u1 h) rfl
set_option maxRecDepth 10000 in
theorem ok_lrem : IK 113 (pure (.lrem)) := fun c p h => by
  unfold Decoder.instr
  exact od_b (od_u1 h) rfl
set_option maxRecDepth 10000 in
theorem ok_lreturn : IK 173 (pure (.lreturn)) := fun c p h => by
  unfold Decoder.instr
  exact od_b (od_u1 h) rfl
set_option maxRecDepth 10000 in
theorem ok_lsub : IK 101 (pure (.lsub)) := fun c p h => by
  unfold Decoder.instr
  exact od_b (od_u1 h) rfl
set_option maxRecDepth 10000 in
theorem ok_pop : IK 87 (pure (.pop)) := fun c p h => by
  unfold Decoder.instr
  exact od_b (od_u1 h) rfl
set_option maxRecDepth 10000 in
theorem ok_return_ : IK 177 (pure (.return_)) := fun c p h => by
  unfold Decoder.instr
  exact od_b (od_u1 h) rfl
set_option maxRecDepth 10000 in
theorem ok_aload : IK 25 (Reader.u1 >>= fun x => pure (.aload x)) := fun c p h => by
  unfold Decoder.instr
  exact od_b (od_u1 h) rfl
set_option maxRecDepth 10000 in
theorem ok_anewarray : IK 189 (Reader.u2 >>= fun x => pure (.anewarray x)) := fun c p h => by
  unfold Decoder.instr
  exact od_b (od_u1 h) rfl
set_option maxRecDepth 10000 in
theorem ok_astore : IK 58 (Reader.u1 >>= fun x => pure (.astore x)) := fun c p h => by
  unfold Decoder.instr
  exact od_b (od_u1 h) rfl
set_option maxRecDepth 10000 in
theorem ok_bipush : IK 16 (Reader.s1 >>= fun x => pure (.bipush x)) := fun c p h => by
  unfold Decoder.instr
  exact od_b (od_u1 h) rfl
set_option maxRecDepth 10000 in
theorem ok_getfield : IK 180 (Reader.u2 >>= fun x => pure (.getfield x)) := fun c p h => by
  unfold Decoder.instr
  exact od_b (od_u1 h) rfl
set_option maxRecDepth 10000 in
theorem ok_getstatic : IK 178 (Reader.u2 >>= fun x => pure (.getstatic x)) := fun c p h => by
  unfold Decoder.instr
  exact od_b (od_u1 h) rfl
set_option maxRecDepth 10000 in
theorem ok_goto : IK 167 (Reader.s2 >>= fun x => pure (.goto x)) := fun c p h => by
  unfold Decoder.instr
  exact od_b (od_u1 h) rfl
set_option maxRecDepth 10000 in
theorem ok_ifCond_eq : IK 153 (Reader.s2 >>= fun x => pure (.ifCond .eq x)) := fun c p h => by
  unfold Decoder.instr
  exact od_b (od_u1 h) rfl
set_option maxRecDepth 10000 in
theorem ok_ifCond_ge : IK 156 (Reader.s2 >>= fun x => pure (.ifCond .ge x)) := fun c p h => by
  unfold Decoder.instr
  exact od_b (od_u1 h) rfl
set_option maxRecDepth 10000 in
theorem ok_ifCond_gt : IK 157 (Reader.s2 >>= fun x => pure (.ifCond .gt x)) := fun c p h => by
  unfold Decoder.instr
  exact od_b (od_u1 h) rfl
set_option maxRecDepth 10000 in
theorem ok_ifCond_le : IK 158 (Reader.s2 >>= fun x => pure (.ifCond .le x)) := fun c p h => by
  unfold Decoder.instr
  exact od_b (od_u1 h) rfl
set_option maxRecDepth 10000 in
theorem ok_ifCond_lt : IK 155 (Reader.s2 >>= fun x => pure (.ifCond .lt x)) := fun c p h => by
  unfold Decoder.instr
  exact od_b (od_u1 h) rfl
set_option maxRecDepth 10000 in
theorem ok_ifCond_ne : IK 154 (Reader.s2 >>= fun x => pure (.ifCond .ne x)) := fun c p h => by
  unfold Decoder.instr
  exact od_b (od_u1 h) rfl
set_option maxRecDepth 10000 in
theorem ok_if_icmp_eq : IK 159 (Reader.s2 >>= fun x => pure (.if_icmp .eq x)) := fun c p h => by
  unfold Decoder.instr
  exact od_b (od_u1 h) rfl
set_option maxRecDepth 10000 in
theorem ok_if_icmp_ge : IK 162 (Reader.s2 >>= fun x => pure (.if_icmp .ge x)) := fun c p h => by
  unfold Decoder.instr
  exact od_b (od_u1 h) rfl
set_option maxRecDepth 10000 in
theorem ok_if_icmp_gt : IK 163 (Reader.s2 >>= fun x => pure (.if_icmp .gt x)) := fun c p h => by
  unfold Decoder.instr
  exact od_b (od_u1 h) rfl
set_option maxRecDepth 10000 in
theorem ok_if_icmp_le : IK 164 (Reader.s2 >>= fun x => pure (.if_icmp .le x)) := fun c p h => by
  unfold Decoder.instr
  exact od_b (od_u1 h) rfl
set_option maxRecDepth 10000 in
theorem ok_if_icmp_lt : IK 161 (Reader.s2 >>= fun x => pure (.if_icmp .lt x)) := fun c p h => by
  unfold Decoder.instr
  exact od_b (od_u1 h) rfl
set_option maxRecDepth 10000 in
theorem ok_if_icmp_ne : IK 160 (Reader.s2 >>= fun x => pure (.if_icmp .ne x)) := fun c p h => by
  unfold Decoder.instr
  exact od_b (od_u1 h) rfl
set_option maxRecDepth 10000 in
theorem ok_ifnull : IK 198 (Reader.s2 >>= fun x => pure (.ifnull x)) := fun c p h => by
  unfold Decoder.instr
  exact od_b (od_u1 h) rfl
set_option maxRecDepth 10000 in
theorem ok_iinc : IK 132 (Reader.u1 >>= fun x => Reader.s1 >>= fun y => pure (.iinc x y)) := fun c p h => by
  unfold Decoder.instr
  exact od_b (od_u1 h) rfl
set_option maxRecDepth 10000 in
theorem ok_iload : IK 21 (Reader.u1 >>= fun x => pure (.iload x)) := fun c p h => by
  unfold Decoder.instr
  exact od_b (od_u1 h) rfl
set_option maxRecDepth 10000 in
theorem ok_invokespecial : IK 183 (Reader.u2 >>= fun x => pure (.invokespecial x)) := fun c p h => by
  unfold Decoder.instr
  exact od_b (od_u1 h) rfl
set_option maxRecDepth 10000 in
theorem ok_invokestatic : IK 184 (Reader.u2 >>= fun x => pure (.invokestatic x)) := fun c p h => by
  unfold Decoder.instr
  exact od_b (od_u1 h) rfl
set_option maxRecDepth 10000 in
theorem ok_invokevirtual : IK 182 (Reader.u2 >>= fun x => pure (.invokevirtual x)) := fun c p h => by
  unfold Decoder.instr
  exact od_b (od_u1 h) rfl
set_option maxRecDepth 10000 in
theorem ok_istore : IK 54 (Reader.u1 >>= fun x => pure (.istore x)) := fun c p h => by
  unfold Decoder.instr
  exact od_b (od_u1 h) rfl
set_option maxRecDepth 10000 in
theorem ok_ldc : IK 18 (Reader.u1 >>= fun x => pure (.ldc x)) := fun c p h => by
  unfold Decoder.instr
  exact od_b (od_u1 h) rfl
set_option maxRecDepth 10000 in
theorem ok_ldc2_w : IK 20 (Reader.u2 >>= fun x => pure (.ldc2_w x)) := fun c p h => by
  unfold Decoder.instr
  exact od_b (od_u1 h) rfl
set_option maxRecDepth 10000 in
theorem ok_ldc_w : IK 19 (Reader.u2 >>= fun x => pure (.ldc_w x)) := fun c p h => by
  unfold Decoder.instr
  exact od_b (od_u1 h) rfl
set_option maxRecDepth 10000 in
theorem ok_lload : IK 22 (Reader.u1 >>= fun x => pure (.lload x)) := fun c p h => by
  unfold Decoder.instr
  exact od_b (od_u1 h) rfl
set_option maxRecDepth 10000 in
theorem ok_new : IK 187 (Reader.u2 >>= fun x => pure (.new x)) := fun c p h => by
  unfold Decoder.instr
  exact od_b (od_u1 h) rfl
set_option maxRecDepth 10000 in
theorem ok_putfield : IK 181 (Reader.u2 >>= fun x => pure (.putfield x)) := fun c p h => by
  unfold Decoder.instr
  exact od_b (od_u1 h) rfl
set_option maxRecDepth 10000 in
theorem ok_sipush : IK 17 (Reader.s2 >>= fun x => pure (.sipush x)) := fun c p h => by
  unfold Decoder.instr
  exact od_b (od_u1 h) rfl
end
section
/-! words by their places -/
theorem good_rp {big ws : List Cond} (ps : List Nat) (hp : ps.map (fun i => big[i]?) = ws.map some) (h : ws.all goodWord = true) : GoodIn big ws := by
  intro w hw
  have h1 := List.all_eq_true.mp h w hw
  have h2 : some w ∈ ws.map some := List.mem_map.mpr ⟨w, hw, rfl⟩
  rw [← hp] at h2
  obtain ⟨i, -, hi⟩ := List.mem_map.mp h2
  exact ⟨List.mem_of_getElem? hi, good_of_word h1⟩
theorem goodIn_cons {big ws : List Cond} {c : Cond} (ha : GoodIn big [c]) (hb : GoodIn big ws) : GoodIn big (c :: ws) := fun w h => (List.mem_cons.mp h).elim (fun e => ha w (List.mem_singleton.mpr e)) (hb w)
noncomputable def subq (big : List Cond) : List (List Cond) → Prop
  | [] => True
  | l :: t => (∀ w ∈ l, w ∈ big) ∧ subq big t
theorem subq_m {big : List Cond} : ∀ {Rs : List (List Cond)}, subq big Rs → ∀ l ∈ Rs, ∀ w ∈ l, w ∈ big
  | [], _, _, h, _, _ => absurd h List.not_mem_nil
  | a :: t, q, l, h, w, hw => by
    rcases List.mem_cons.mp h with e | e
    · rw [e] at hw
      exact q.1 w hw
    · exact subq_m q.2 l e w hw
theorem good_rb {big ws : List Cond} {Rs : List (List Cond)} (hb : subq big Rs) (ps : List (Nat × Nat)) (hp : ps.map (fun i => (Rs[i.1]?).bind (fun l => l[i.2]?)) = ws.map some) (h : ws.all goodWord = true) : GoodIn big ws := by
  intro w hw
  have h1 := List.all_eq_true.mp h w hw
  have h2 : some w ∈ ws.map some := List.mem_map.mpr ⟨w, hw, rfl⟩
  rw [← hp] at h2
  obtain ⟨i, -, hi⟩ := List.mem_map.mp h2
  obtain ⟨l, hl, hi⟩ := Option.bind_eq_some_iff.mp hi
  exact ⟨subq_m hb l (List.mem_of_getElem? hl) w (List.mem_of_getElem? hi), good_of_word h1⟩
theorem goodIn_sb {big ws : List Cond} (hs : ∀ w ∈ ws, w ∈ big) (h : ws.all goodWord = true) : GoodIn big ws := fun w hw => ⟨hs w hw, good_of_word (List.all_eq_true.mp h w hw)⟩
theorem mem_b {big : List Cond} {Rs : List (List Cond)} (hb : subq big Rs) {w : Cond} (b j : Nat) (h : (Rs[b]?).bind (fun l => l[j]?) = some w) : w ∈ big := by
  obtain ⟨l, hl, hi⟩ := Option.bind_eq_some_iff.mp h
  exact subq_m hb l (List.mem_of_getElem? hl) w (List.mem_of_getElem? hi)
/-! texts -/
noncomputable def CtIE (l : Launch) (y : MethodName) (wd : List Cond) (rm : Room) (av : List Value) (D : va_G) (k : Nat → ClassId) (E : (Nat → Prop) → State → Prop) (sz : Nat) (ws : va_W) {S : Type} (post : Int32 → S → Prop) (wp : S → va_W) (mc ms : Nat) : Prop := Met l y wd rm (va_Pc av (fun U => hcP D k sz ws U ∧ E (va_A ws sz) U)) (va_Qi post (hcB D wp (va_A ws sz)) (va_A ws sz)) mc ms (va_A ws sz)
noncomputable def CtVE (l : Launch) (y : MethodName) (wd : List Cond) (rm : Room) (av : List Value) (D : va_G) (k : Nat → ClassId) (E : (Nat → Prop) → State → Prop) (sz : Nat) (ws : va_W) {S : Type} (post : S → Prop) (wp : S → va_W) (mc ms : Nat) : Prop := Met l y wd rm (va_Pc av (fun U => hcP D k sz ws U ∧ E (va_A ws sz) U)) (va_Qv post (hcB D wp (va_A ws sz)) (va_A ws sz)) mc ms (va_A ws sz)
noncomputable def EOk (E : (Nat → Prop) → State → Prop) : Prop := (∀ (A : Nat → Prop) (U : State) (g : JFrame) (mk : MethodId) (a : Array Value), E A U → E A (U.calling g mk a)) ∧ ∀ (A B : Nat → Prop) (s U : State) (H : Heap) (locs : List Loc), E A s → va_S A s.heap H locs → (∀ q, B q → A q) → U.heap = H → s.WarmedH U.vm → E B U
theorem CtIE.mk {l : Launch} {y : MethodName} {wd wd' : List Cond} {rm : Room} {av : List Value} {D : va_G} {k : Nat → ClassId} {E : (Nat → Prop) → State → Prop} {sz : Nat} {ws : va_W} {S : Type} {post : Int32 → S → Prop} {wp : S → va_W} {mc ms : Nat} {cc : ByteArray} {maxL : Nat} {ret : Option FieldType} (hy : plainName y.cls = true) (hw : wd = Cond.code y cc maxL ret :: wd') (hlv : (lg_sl av).length ≤ maxL)
    (body : ∀ (p : Program) (e : Env) (s : State) (m : MethodId) (below : List Frame) (meth : Method) (c : Code) (A : Nat → Prop) (ls : Array Slot), E A s → En p s m av.toArray meth c y cc ret maxL wd D k A → va_P D vwCl ws s.heap → va_D A ws → va_S A s.heap s.heap [] → lv_has ls maxL (lv_args 0 av) → W p l e rm s m av.toArray below meth c s.heap [] 0 0 (MQ below (va_Qi post (hcB D wp A) A) av.toArray s mc ms A) (F0 m 0 ls [])) : CtIE l y wd rm av D k E sz ws post wp mc ms := by
  refine Met.ofW (cc := cc) (maxL := maxL) (ret := ret) hy hw ?_
  intro p e s m args below meth c s₁ B hml hv
  obtain ⟨rfl, ⟨hsz, hP, hG, hD0⟩, hE⟩ := hv
  subst hsz
  have hts := atoms_spec (ws := wd) B.pre
  have hl := lv_entry av (n := maxL) hlv
  rw [lg_entry_eq]
  exact body p e s m below meth c (va_A ws s.heap.size) _ hE ⟨B.exec, B.bytes, B.returns, hml, findClass_of_methodNamed B.named, hts, B.notSynchronized, (name_of_methodNamed B.named B.method).1, hG, fun q h => Or.inr h⟩ hP (hD0.self (sz := s.heap.size)) va_S.rf hl
theorem CtVE.mk {l : Launch} {y : MethodName} {wd wd' : List Cond} {rm : Room} {av : List Value} {D : va_G} {k : Nat → ClassId} {E : (Nat → Prop) → State → Prop} {sz : Nat} {ws : va_W} {S : Type} {post : S → Prop} {wp : S → va_W} {mc ms : Nat} {cc : ByteArray} {maxL : Nat} {ret : Option FieldType} (hy : plainName y.cls = true) (hw : wd = Cond.code y cc maxL ret :: wd') (hlv : (lg_sl av).length ≤ maxL)
    (body : ∀ (p : Program) (e : Env) (s : State) (m : MethodId) (below : List Frame) (meth : Method) (c : Code) (A : Nat → Prop) (ls : Array Slot), E A s → En p s m av.toArray meth c y cc ret maxL wd D k A → va_P D vwCl ws s.heap → va_D A ws → va_S A s.heap s.heap [] → lv_has ls maxL (lv_args 0 av) → W p l e rm s m av.toArray below meth c s.heap [] 0 0 (MQ below (va_Qv post (hcB D wp A) A) av.toArray s mc ms A) (F0 m 0 ls [])) : CtVE l y wd rm av D k E sz ws post wp mc ms := by
  refine Met.ofW (cc := cc) (maxL := maxL) (ret := ret) hy hw ?_
  intro p e s m args below meth c s₁ B hml hv
  obtain ⟨rfl, ⟨hsz, hP, hG, hD0⟩, hE⟩ := hv
  subst hsz
  have hts := atoms_spec (ws := wd) B.pre
  have hl := lv_entry av (n := maxL) hlv
  rw [lg_entry_eq]
  exact body p e s m below meth c (va_A ws s.heap.size) _ hE ⟨B.exec, B.bytes, B.returns, hml, findClass_of_methodNamed B.named, hts, B.notSynchronized, (name_of_methodNamed B.named B.method).1, hG, fun q h => Or.inr h⟩ hP (hD0.self (sz := s.heap.size)) va_S.rf hl
noncomputable def strF (A : Nat → Prop) (a t n : Nat) (f : Nat → Int32) (U : State) (H : Heap) : Prop := va_O "java/lang/String" a A U H ∧ va_OF "java/lang/String" "coder" "B" (.int 0) a A U H ∧ va_OF "java/lang/String" "value" "[B" (.ref t) a A U H ∧ va_T .byte t n (fun j => .int (f j)) A U H
abbrev cmpF (A : Nat → Prop) (U : State) (H : Heap) : Prop := va_Z "java/lang/String" "COMPACT_STRINGS" "Z" (.int 1) A U H
abbrev fmtF (A : Nat → Prop) (U : State) (H : Heap) : Prop := va_Zq "jdk/internal/util/Preconditions" "SIOOBE_FORMATTER" "Ljava/util/function/BiFunction;" A U H
theorem strF.to {A B : Nat → Prop} {a t n : Nat} {f : Nat → Int32} {s U : State} {H : Heap} {locs : List Loc} (h : strF A a t n f s s.heap) (hS : va_S A s.heap H locs) (hF : ∀ q, B q → A q) (hvm : s.vm.Alike U.vm) : strF B a t n f U H := ⟨((h.1.kept hS.2.1).narrow hF).moved hvm, ((h.2.1.kept hS.2.1).narrow hF).moved hvm, ((h.2.2.1.kept hS.2.1).narrow hF).moved hvm, ((h.2.2.2.kept hS.2.1).narrow hF).moved hvm⟩
theorem cmpF.to {A B : Nat → Prop} {s U : State} {H : Heap} {locs : List Loc} (h : cmpF A s s.heap) (hS : va_S A s.heap H locs) (hF : ∀ q, B q → A q) (hvm : s.vm.Alike U.vm) : cmpF B U H := ((h.kept hS.2.1).narrow hF).moved hvm
theorem fmtF.to {A B : Nat → Prop} {s U : State} {H : Heap} {locs : List Loc} (h : fmtF A s s.heap) (hS : va_S A s.heap H locs) (hF : ∀ q, B q → A q) (hvm : s.vm.Alike U.vm) : fmtF B U H := ((h.kept hS.2.1).narrow hF).moved hvm
noncomputable def ES (a t n : Nat) (f : Nat → Int32) (A : Nat → Prop) (U : State) : Prop := cmpF A U U.heap ∧ strF A a t n f U U.heap ∧ fmtF A U U.heap
theorem ES.ok (a t n : Nat) (f : Nat → Int32) : EOk (ES a t n f) := ⟨fun A U g mk ar h => ⟨cmpF.to (U := U.calling g mk ar) h.1 (va_S.rf (A := A)) (fun _ q => q) (Vm.Alike.refl U.vm), strF.to (U := U.calling g mk ar) h.2.1 (va_S.rf (A := A)) (fun _ q => q) (Vm.Alike.refl U.vm), fmtF.to (U := U.calling g mk ar) h.2.2 (va_S.rf (A := A)) (fun _ q => q) (Vm.Alike.refl U.vm)⟩, fun A B s U H locs h hS hF hU hW => by
  subst hU
  exact ⟨cmpF.to h.1 hS hF hW.alike, strF.to h.2.1 hS hF hW.alike, fmtF.to h.2.2 hS hF hW.alike⟩⟩
theorem fmt.ok : EOk (fun A U => fmtF A U U.heap) := ⟨fun A U g mk ar h => fmtF.to (U := U.calling g mk ar) h (va_S.rf (A := A)) (fun _ q => q) (Vm.Alike.refl U.vm), fun A B s U H locs h hS hF hU hW => by
  subst hU
  exact fmtF.to h hS hF hW.alike⟩
noncomputable def EB (t n : Nat) (f : Nat → Int32) (A : Nat → Prop) (U : State) : Prop := va_T .byte t n (fun j => .int (f j)) A U U.heap ∧ fmtF A U U.heap
theorem EB.ok (t n : Nat) (f : Nat → Int32) : EOk (EB t n f) := ⟨fun A U g mk ar h => ⟨h.1.moved (U := U.calling g mk ar) (Vm.Alike.refl U.vm), fmtF.to (U := U.calling g mk ar) h.2 (va_S.rf (A := A)) (fun _ q => q) (Vm.Alike.refl U.vm)⟩, fun A B s U H locs h hS hF hU hW => by
  subst hU
  exact ⟨((h.1.kept hS.2.1).narrow hF).moved hW.alike, fmtF.to h.2 hS hF hW.alike⟩⟩
noncomputable def xl (i : Nat) : Nat := [6, 5, 6, 6, 4, 4, 4, 6, 5, 7, 6, 4, 6, 3, 2, 2, 3, 3, 0].getD i 0
noncomputable def xc (i : Nat) : Nat → Int32 := fun j => ([[115, 105, 116, 116, 101, 114], [99, 104, 97, 105, 114], [119, 101, 105, 103, 104, 116], [104, 101, 105, 103, 104, 116], [99, 97, 110, 101], [115, 105, 116, 115], [103, 105, 118, 101], [111, 116, 104, 101, 114, 115], [112, 114, 101, 115, 115], [100, 114, 111, 112, 112, 101, 100], [109, 105, 110, 117, 116, 101], [104, 97, 108, 108], [115, 116, 114, 97, 110, 100], [115, 105, 116], [105, 102], [111, 114], [97, 110, 100], [110, 111, 116], []].getD i []).getD j 0
theorem xl_b (i : Nat) : xl i ≤ 7 := by
  by_cases h : i < 19
  · exact (show ∀ i, i < 19 → xl i ≤ 7 from by decide) i h
  · unfold xl
    rw [List.getD_eq_getElem?_getD, List.getElem?_eq_none (by simp; omega)]
    decide
noncomputable def EX (ad tv : Nat → Nat) (A : Nat → Prop) (U : State) : Prop := cmpF A U U.heap ∧ fmtF A U U.heap ∧ (∀ i, i < 19 → strF A (ad i) (tv i) (xl i) (xc i) U U.heap) ∧ vk_R RX7 97 "sitter" (ad 0) U ∧ vk_R RX7 99 "chair" (ad 1) U ∧ vk_R RX7 101 "weight" (ad 2) U ∧ vk_R RX7 103 "height" (ad 3) U ∧ vk_R RX7 105 "cane" (ad 4) U ∧ vk_R RX7 107 "sits" (ad 5) U ∧ vk_R RX7 109 "give" (ad 6) U ∧ vk_R RX7 111 "others" (ad 7) U ∧ vk_R RX7 113 "press" (ad 8) U ∧ vk_R RX7 115 "dropped" (ad 9) U ∧ vk_R RX7 117 "minute" (ad 10) U ∧ vk_R RX7 119 "hall" (ad 11) U ∧ vk_R RX7 121 "strand" (ad 12) U ∧ vk_R RX7 123 "sit" (ad 13) U ∧ vk_R RX7 125 "if" (ad 14) U ∧ vk_R RX7 127 "or" (ad 15) U ∧ vk_R RX7 129 "and" (ad 16) U ∧ vk_R RX7 131 "not" (ad 17) U ∧ vk_R RX7 133 "" (ad 18) U
theorem EX.ok (ad tv : Nat → Nat) : EOk (EX ad tv) := ⟨fun A U g mk ar h => by
  obtain ⟨h0, h1, h2, r0, r1, r2, r3, r4, r5, r6, r7, r8, r9, r10, r11, r12, r13, r14, r15, r16, r17, r18⟩ := h
  have hR := va_S.rf (A := A) (H0 := U.heap)
  have hv := Vm.Alike.refl U.vm
  exact ⟨cmpF.to (U := U.calling g mk ar) h0 hR (fun _ q => q) hv, fmtF.to (U := U.calling g mk ar) h1 hR (fun _ q => q) hv, (fun i hi => strF.to (U := U.calling g mk ar) (h2 i hi) hR (fun _ q => q) hv), r0.same (U := U.calling g mk ar) rfl, r1.same (U := U.calling g mk ar) rfl, r2.same (U := U.calling g mk ar) rfl, r3.same (U := U.calling g mk ar) rfl, r4.same (U := U.calling g mk ar) rfl, r5.same (U := U.calling g mk ar) rfl, r6.same (U := U.calling g mk ar) rfl, r7.same (U := U.calling g mk ar) rfl, r8.same (U := U.calling g mk ar) rfl, r9.same (U := U.calling g mk ar) rfl, r10.same (U := U.calling g mk ar) rfl, r11.same (U := U.calling g mk ar) rfl, r12.same (U := U.calling g mk ar) rfl, r13.same (U := U.calling g mk ar) rfl, r14.same (U := U.calling g mk ar) rfl, r15.same (U := U.calling g mk ar) rfl, r16.same (U := U.calling g mk ar) rfl, r17.same (U := U.calling g mk ar) rfl, r18.same (U := U.calling g mk ar) rfl⟩, fun A B s U H locs h hS hF hU hW => by
  subst hU
  obtain ⟨h0, h1, h2, r0, r1, r2, r3, r4, r5, r6, r7, r8, r9, r10, r11, r12, r13, r14, r15, r16, r17, r18⟩ := h
  exact ⟨cmpF.to h0 hS hF hW.alike, fmtF.to h1 hS hF hW.alike, (fun i hi => strF.to (h2 i hi) hS hF hW.alike), r0.warm hW, r1.warm hW, r2.warm hW, r3.warm hW, r4.warm hW, r5.warm hW, r6.warm hW, r7.warm hW, r8.warm hW, r9.warm hW, r10.warm hW, r11.warm hW, r12.warm hW, r13.warm hW, r14.warm hW, r15.warm hW, r16.warm hW, r17.warm hW, r18.warm hW⟩⟩
noncomputable def EY (ad tv : Nat → Nat) (A : Nat → Prop) (U : State) : Prop := cmpF A U U.heap ∧ fmtF A U U.heap ∧ (∀ i, i < 18 → strF A (ad i) (tv i) (xl i) (xc i) U U.heap) ∧ vk_R RX9 142 "sitter" (ad 0) U ∧ vk_R RX9 144 "chair" (ad 1) U ∧ vk_R RX9 146 "weight" (ad 2) U ∧ vk_R RX9 147 "height" (ad 3) U ∧ vk_R RX9 148 "cane" (ad 4) U ∧ vk_R RX9 149 "sits" (ad 5) U ∧ vk_R RX9 151 "give" (ad 6) U ∧ vk_R RX9 153 "others" (ad 7) U ∧ vk_R RX9 155 "press" (ad 8) U ∧ vk_R RX9 157 "dropped" (ad 9) U ∧ vk_R RX9 159 "minute" (ad 10) U ∧ vk_R RX9 259 "hall" (ad 11) U ∧ vk_R RX9 261 "strand" (ad 12) U ∧ vk_R RX9 302 "sit" (ad 13) U ∧ vk_R RX9 304 "if" (ad 14) U ∧ vk_R RX9 257 "or" (ad 15) U ∧ vk_R RX9 255 "and" (ad 16) U ∧ vk_R RX9 241 "not" (ad 17) U
theorem EY.ok (ad tv : Nat → Nat) : EOk (EY ad tv) := ⟨fun A U g mk ar h => by
  obtain ⟨h0, h1, h2, r0, r1, r2, r3, r4, r5, r6, r7, r8, r9, r10, r11, r12, r13, r14, r15, r16, r17⟩ := h
  have hR := va_S.rf (A := A) (H0 := U.heap)
  have hv := Vm.Alike.refl U.vm
  exact ⟨cmpF.to (U := U.calling g mk ar) h0 hR (fun _ q => q) hv, fmtF.to (U := U.calling g mk ar) h1 hR (fun _ q => q) hv, (fun i hi => strF.to (U := U.calling g mk ar) (h2 i hi) hR (fun _ q => q) hv), r0.same (U := U.calling g mk ar) rfl, r1.same (U := U.calling g mk ar) rfl, r2.same (U := U.calling g mk ar) rfl, r3.same (U := U.calling g mk ar) rfl, r4.same (U := U.calling g mk ar) rfl, r5.same (U := U.calling g mk ar) rfl, r6.same (U := U.calling g mk ar) rfl, r7.same (U := U.calling g mk ar) rfl, r8.same (U := U.calling g mk ar) rfl, r9.same (U := U.calling g mk ar) rfl, r10.same (U := U.calling g mk ar) rfl, r11.same (U := U.calling g mk ar) rfl, r12.same (U := U.calling g mk ar) rfl, r13.same (U := U.calling g mk ar) rfl, r14.same (U := U.calling g mk ar) rfl, r15.same (U := U.calling g mk ar) rfl, r16.same (U := U.calling g mk ar) rfl, r17.same (U := U.calling g mk ar) rfl⟩, fun A B s U H locs h hS hF hU hW => by
  subst hU
  obtain ⟨h0, h1, h2, r0, r1, r2, r3, r4, r5, r6, r7, r8, r9, r10, r11, r12, r13, r14, r15, r16, r17⟩ := h
  exact ⟨cmpF.to h0 hS hF hW.alike, fmtF.to h1 hS hF hW.alike, (fun i hi => strF.to (h2 i hi) hS hF hW.alike), r0.warm hW, r1.warm hW, r2.warm hW, r3.warm hW, r4.warm hW, r5.warm hW, r6.warm hW, r7.warm hW, r8.warm hW, r9.warm hW, r10.warm hW, r11.warm hW, r12.warm hW, r13.warm hW, r14.warm hW, r15.warm hW, r16.warm hW, r17.warm hW⟩⟩
section HT
variable {p : Program} {l : Launch} {e : Env} {R : Room} {s : State} {m : MethodId} {args : Array Value} {below : List Frame} {meth : Method} {c : Code} {H : Heap} {locs : List Loc} {cells slots : Nat} {Q : State → Prop} {pc : Nat} {ls : Array Slot} {rest st0 As : List Value} {D : va_G} {k : Nat → ClassId} {A : Nat → Prop} {ws wc wr : va_W} {cc : ByteArray} {y : MethodName} {wd wd' Ts : List Cond} {rm : Room} {mc ms n index maxL nL : Nat} {bytes : ByteArray} {ret : Option FieldType} {own C host : String} {b : Nat} {E : (Nat → Prop) → State → Prop}
theorem hc_pSE (hE : EOk E) (hT : E A s) (hS : va_S A s.heap H locs) (hA : ∀ q : Nat, s.heap.size ≤ q → A q) (hG : GK D k s) (hP : va_P D vwCl ws H) (hD : va_D A ws) (isC : List Nat) (hC : isC.map (fun i => ws[i]?) = wc.map some) (hn : va_nd isC = true) : PreS s H (va_Pc As (fun U => hcP D k H.size wc U ∧ E (va_A wc H.size) U)) As :=
  ⟨fun a U g mk q => by obtain ⟨q0, ⟨q1, q2, q3, q4⟩, q5⟩ := q; exact ⟨q0, ⟨q1, q2, q3.call, q4⟩, hE.1 _ _ g mk a q5⟩, fun U hU hW => ⟨rfl, ((hc_pS (As := As) hG hP hD isC hC hn).2 U hU hW).2, hE.2 A _ s U H locs hT hS (va_free hD hS hA isC hC) hU hW⟩⟩
theorem hc_ViE {S : Type} {post : Int32 → S → Prop} {wp : S → va_W} (hE : EOk E) (hT : E A s) (hx : p.tables.exec = Jvm.exec) (hb : c.code = cc) (hml : c.maxLocals = nL) (hown : s.vm.findClass own = some m.cls) (hts : ∀ w ∈ Ts, w.before args s = true) (hG : GK D k s) (hA : ∀ q : Nat, s.heap.size ≤ q → A q) (hP : va_P D vwCl ws H) (hD : va_D A ws) (hS : va_S A s.heap H locs) (hsz : ls.size = nL)
    (isC isR : List Nat) (hM : CtIE l y wd rm (.ref b :: As) D k E H.size wc post wp mc ms) (hrv : ∃ cellB : Cell, H[b]? = some cellB ∧ cellB.vm.isStatics = false ∧ s.vm.findClass C = some cellB.cls) (hg : GoodIn Ts (wsV own index C y wd)) (hw : wd = Cond.code y bytes maxL ret :: wd') (hrc : rm.cells = mc ∧ rm.slots = ms ∧ rm.frames + 1 ≤ R.frames ∧ 8 + (maxL + 11) + rm.locals ≤ R.locals) (hd : y.cls = C ∧ hcD y n)
    (hC : isC.map (fun i => ws[i]?) = wc.map some) (hR : isR.map (fun i => ws[i]?) = wr.map some) (hn : va_nd isC = true ∧ va_nd isR = true ∧ ∀ i ∈ isR, i ∉ isC) (hst : As.length = n ∧ st0 = As.reverse ++ .ref b :: rest ∧ (rest.map fun v => v.category).sum ≤ 8 ∧ cells + mc ≤ R.cells ∧ slots + ms ≤ R.slots) (hdg : decode cc pc = .ok (.invokevirtual index, 3))
    (kk : ∀ (r : Int32) (u : S) (H : Heap) (locs : List Loc), post r u → va_P D vwCl (wr ++ wp u) H → va_D A (wr ++ wp u) → va_S A s.heap H locs → W p l e R s m args below meth c H locs (cells + mc) (slots + ms) Q (F0 m (pc + 3) ls (.int r :: rest))) : W p l e R s m args below meth c H locs cells slots Q (F0 m pc ls st0) :=
  hc_i (va_runV (As := As) (rest := rest) ⟨hx, hb, hml, hown, hts⟩ hM (cwV n hts hg hw hrc.1 hrc.2.1 hd hrc.2.2) ⟨(hc_pSE (As := .ref b :: As) hE hT hS hA hG hP hD isC hC hn.1).1, hrv, (hc_pSE (As := .ref b :: As) hE hT hS hA hG hP hD isC hC hn.1).2⟩ rfl hst.1 hsz hst.2.1 (lv_room hst.2.2.1) hdg hst.2.2.2) hA hP hD hS isC isR hC hR hn.2.1 hn.2.2 kk
theorem hc_VvE {S : Type} {post : S → Prop} {wp : S → va_W} (hE : EOk E) (hT : E A s) (hx : p.tables.exec = Jvm.exec) (hb : c.code = cc) (hml : c.maxLocals = nL) (hown : s.vm.findClass own = some m.cls) (hts : ∀ w ∈ Ts, w.before args s = true) (hG : GK D k s) (hA : ∀ q : Nat, s.heap.size ≤ q → A q) (hP : va_P D vwCl ws H) (hD : va_D A ws) (hS : va_S A s.heap H locs) (hsz : ls.size = nL)
    (isC isR : List Nat) (hM : CtVE l y wd rm (.ref b :: As) D k E H.size wc post wp mc ms) (hrv : ∃ cellB : Cell, H[b]? = some cellB ∧ cellB.vm.isStatics = false ∧ s.vm.findClass C = some cellB.cls) (hg : GoodIn Ts (wsV own index C y wd)) (hw : wd = Cond.code y bytes maxL ret :: wd') (hrc : rm.cells = mc ∧ rm.slots = ms ∧ rm.frames + 1 ≤ R.frames ∧ 8 + (maxL + 11) + rm.locals ≤ R.locals) (hd : y.cls = C ∧ hcD y n)
    (hC : isC.map (fun i => ws[i]?) = wc.map some) (hR : isR.map (fun i => ws[i]?) = wr.map some) (hn : va_nd isC = true ∧ va_nd isR = true ∧ ∀ i ∈ isR, i ∉ isC) (hst : As.length = n ∧ st0 = As.reverse ++ .ref b :: rest ∧ (rest.map fun v => v.category).sum ≤ 8 ∧ cells + mc ≤ R.cells ∧ slots + ms ≤ R.slots) (hdg : decode cc pc = .ok (.invokevirtual index, 3))
    (kk : ∀ (u : S) (H : Heap) (locs : List Loc), post u → va_P D vwCl (wr ++ wp u) H → va_D A (wr ++ wp u) → va_S A s.heap H locs → W p l e R s m args below meth c H locs (cells + mc) (slots + ms) Q (F0 m (pc + 3) ls rest)) : W p l e R s m args below meth c H locs cells slots Q (F0 m pc ls st0) :=
  hc_v (va_runV (As := As) (rest := rest) ⟨hx, hb, hml, hown, hts⟩ hM (cwV n hts hg hw hrc.1 hrc.2.1 hd hrc.2.2) ⟨(hc_pSE (As := .ref b :: As) hE hT hS hA hG hP hD isC hC hn.1).1, hrv, (hc_pSE (As := .ref b :: As) hE hT hS hA hG hP hD isC hC hn.1).2⟩ rfl hst.1 hsz hst.2.1 (lv_room hst.2.2.1) hdg hst.2.2.2) hA hP hD hS isC isR hC hR hn.2.1 hn.2.2 kk
theorem hc_SiE {S : Type} {post : Int32 → S → Prop} {wp : S → va_W} (hE : EOk E) (hT : E A s) (hx : p.tables.exec = Jvm.exec) (hb : c.code = cc) (hml : c.maxLocals = nL) (hown : s.vm.findClass own = some m.cls) (hts : ∀ w ∈ Ts, w.before args s = true) (hG : GK D k s) (hA : ∀ q : Nat, s.heap.size ≤ q → A q) (hP : va_P D vwCl ws H) (hD : va_D A ws) (hS : va_S A s.heap H locs) (hsz : ls.size = nL)
    (isC isR : List Nat) (hM : CtIE l y wd rm As D k E H.size wc post wp mc ms) (hg : GoodIn Ts (va_wsS own index y wd)) (hw : wd = Cond.code y bytes maxL ret :: wd') (hrc : rm.cells = mc ∧ rm.slots = ms ∧ rm.frames + 1 ≤ R.frames ∧ 8 + (maxL + 11) + rm.locals ≤ R.locals) (hd : hcD y n)
    (hC : isC.map (fun i => ws[i]?) = wc.map some) (hR : isR.map (fun i => ws[i]?) = wr.map some) (hn : va_nd isC = true ∧ va_nd isR = true ∧ ∀ i ∈ isR, i ∉ isC) (hst : As.length = n ∧ st0 = As.reverse ++ rest ∧ (rest.map fun v => v.category).sum ≤ 8 ∧ cells + mc ≤ R.cells ∧ slots + ms ≤ R.slots) (hdg : decode cc pc = .ok (.invokestatic index, 3))
    (kk : ∀ (r : Int32) (u : S) (H : Heap) (locs : List Loc), post r u → va_P D vwCl (wr ++ wp u) H → va_D A (wr ++ wp u) → va_S A s.heap H locs → W p l e R s m args below meth c H locs (cells + mc) (slots + ms) Q (F0 m (pc + 3) ls (.int r :: rest))) : W p l e R s m args below meth c H locs cells slots Q (F0 m pc ls st0) :=
  hc_i (va_runS (As := As) (rest := rest) ⟨hx, hb, hml, hown, hts⟩ hM (va_cwS n hts hg hw hrc.1 hrc.2.1 hd hrc.2.2) (hc_pSE hE hT hS hA hG hP hD isC hC hn.1) rfl hst.1 hsz hst.2.1 (lv_room hst.2.2.1) hdg hst.2.2.2) hA hP hD hS isC isR hC hR hn.2.1 hn.2.2 kk
theorem hc_SvE {S : Type} {post : S → Prop} {wp : S → va_W} (hE : EOk E) (hT : E A s) (hx : p.tables.exec = Jvm.exec) (hb : c.code = cc) (hml : c.maxLocals = nL) (hown : s.vm.findClass own = some m.cls) (hts : ∀ w ∈ Ts, w.before args s = true) (hG : GK D k s) (hA : ∀ q : Nat, s.heap.size ≤ q → A q) (hP : va_P D vwCl ws H) (hD : va_D A ws) (hS : va_S A s.heap H locs) (hsz : ls.size = nL)
    (isC isR : List Nat) (hM : CtVE l y wd rm As D k E H.size wc post wp mc ms) (hg : GoodIn Ts (va_wsS own index y wd)) (hw : wd = Cond.code y bytes maxL ret :: wd') (hrc : rm.cells = mc ∧ rm.slots = ms ∧ rm.frames + 1 ≤ R.frames ∧ 8 + (maxL + 11) + rm.locals ≤ R.locals) (hd : hcD y n)
    (hC : isC.map (fun i => ws[i]?) = wc.map some) (hR : isR.map (fun i => ws[i]?) = wr.map some) (hn : va_nd isC = true ∧ va_nd isR = true ∧ ∀ i ∈ isR, i ∉ isC) (hst : As.length = n ∧ st0 = As.reverse ++ rest ∧ (rest.map fun v => v.category).sum ≤ 8 ∧ cells + mc ≤ R.cells ∧ slots + ms ≤ R.slots) (hdg : decode cc pc = .ok (.invokestatic index, 3))
    (kk : ∀ (u : S) (H : Heap) (locs : List Loc), post u → va_P D vwCl (wr ++ wp u) H → va_D A (wr ++ wp u) → va_S A s.heap H locs → W p l e R s m args below meth c H locs (cells + mc) (slots + ms) Q (F0 m (pc + 3) ls rest)) : W p l e R s m args below meth c H locs cells slots Q (F0 m pc ls st0) :=
  hc_v (va_runS (As := As) (rest := rest) ⟨hx, hb, hml, hown, hts⟩ hM (va_cwS n hts hg hw hrc.1 hrc.2.1 hd hrc.2.2) (hc_pSE hE hT hS hA hG hP hD isC hC hn.1) rfl hst.1 hsz hst.2.1 (lv_room hst.2.2.1) hdg hst.2.2.2) hA hP hD hS isC isR hC hR hn.2.1 hn.2.2 kk
theorem hc_endC {S : Type} {post : Int32 → S → Prop} {wp : S → va_W} {v : Int32} (hx : p.tables.exec = Jvm.exec) (hb : c.code = cc) (hr : meth.sig.returnType = some .char) (hlocks : meth.locks = false) (hv : iv 0 65535 v) (u : S) (hpost : post v u) (hP : va_P D vwCl (wp u) H) (hD : va_D A (wp u)) (hS : va_S A s.heap H locs) (hdg : decode cc pc = .ok (.ireturn, 1)) : W p l e R s m args below meth c H locs cells slots (MQ below (va_Qi post (hcB D wp A) A) args s cells slots A) (F0 m pc ls [.int v]) :=
  W.zret hx hb hr (by show Value.int _ = Value.int _; rw [lg_i2c_small hv.1 (by have := hv.2; omega)]) (fun t ht hW => ⟨⟨v, u, rfl, hpost, by rw [ht]; exact hP, hD⟩, hS.F ht⟩) hS.2.2 hdg hlocks
end HT
theorem dJ0_charAt_5068e_0 : decode cJ0_charAt_5068e 0 = .ok (.aload_n 0, 1) := of_0 ok_aload_n_0 (by decide +kernel)
theorem dJ0_charAt_5068e_1 : decode cJ0_charAt_5068e 1 = .ok (.invokevirtual 492, 3) := of_u2 ok_invokevirtual 1 236 (by decide +kernel)
theorem dJ0_charAt_5068e_4 : decode cJ0_charAt_5068e 4 = .ok (.ifCond .eq 12, 3) := of_s2 ok_ifCond_eq 0 12 (by decide +kernel)
theorem dJ0_charAt_5068e_7 : decode cJ0_charAt_5068e 7 = .ok (.aload_n 0, 1) := of_0 ok_aload_n_0 (by decide +kernel)
theorem dJ0_charAt_5068e_8 : decode cJ0_charAt_5068e 8 = .ok (.getfield 9, 3) := of_u2 ok_getfield 0 9 (by decide +kernel)
theorem dJ0_charAt_5068e_11 : decode cJ0_charAt_5068e 11 = .ok (.iload_n 1, 1) := of_0 ok_iload_n_1 (by decide +kernel)
theorem dJ0_charAt_5068e_12 : decode cJ0_charAt_5068e 12 = .ok (.invokestatic 495, 3) := of_u2 ok_invokestatic 1 239 (by decide +kernel)
theorem dJ0_charAt_5068e_15 : decode cJ0_charAt_5068e 15 = .ok (.ireturn, 1) := of_0 ok_ireturn (by decide +kernel)
theorem dJ0_checkIndex_df160_0 : decode cJ0_checkIndex_df160 0 = .ok (.iload_n 0, 1) := of_0 ok_iload_n_0 (by decide +kernel)
theorem dJ0_checkIndex_df160_1 : decode cJ0_checkIndex_df160 1 = .ok (.iload_n 1, 1) := of_0 ok_iload_n_1 (by decide +kernel)
theorem dJ0_checkIndex_df160_2 : decode cJ0_checkIndex_df160 2 = .ok (.getstatic 1053, 3) := of_u2 ok_getstatic 4 29 (by decide +kernel)
theorem dJ0_checkIndex_df160_5 : decode cJ0_checkIndex_df160 5 = .ok (.invokestatic 1059, 3) := of_u2 ok_invokestatic 4 35 (by decide +kernel)
theorem dJ0_checkIndex_df160_8 : decode cJ0_checkIndex_df160 8 = .ok (.pop, 1) := of_0 ok_pop (by decide +kernel)
theorem dJ0_checkIndex_df160_9 : decode cJ0_checkIndex_df160 9 = .ok (.return_, 1) := of_0 ok_return_ (by decide +kernel)
theorem dJ0_coder_7d493_0 : decode cJ0_coder_7d493 0 = .ok (.getstatic 38, 3) := of_u2 ok_getstatic 0 38 (by decide +kernel)
theorem dJ0_coder_7d493_3 : decode cJ0_coder_7d493 3 = .ok (.ifCond .eq 10, 3) := of_s2 ok_ifCond_eq 0 10 (by decide +kernel)
theorem dJ0_coder_7d493_6 : decode cJ0_coder_7d493 6 = .ok (.aload_n 0, 1) := of_0 ok_aload_n_0 (by decide +kernel)
theorem dJ0_coder_7d493_7 : decode cJ0_coder_7d493 7 = .ok (.getfield 15, 3) := of_u2 ok_getfield 0 15 (by decide +kernel)
theorem dJ0_coder_7d493_10 : decode cJ0_coder_7d493 10 = .ok (.goto 4, 3) := of_s2 ok_goto 0 4 (by decide +kernel)
theorem dJ0_coder_7d493_14 : decode cJ0_coder_7d493 14 = .ok (.ireturn, 1) := of_0 ok_ireturn (by decide +kernel)
theorem dJ0_isLatin1_aae02_0 : decode cJ0_isLatin1_aae02 0 = .ok (.getstatic 38, 3) := of_u2 ok_getstatic 0 38 (by decide +kernel)
theorem dJ0_isLatin1_aae02_3 : decode cJ0_isLatin1_aae02 3 = .ok (.ifCond .eq 14, 3) := of_s2 ok_ifCond_eq 0 14 (by decide +kernel)
theorem dJ0_isLatin1_aae02_6 : decode cJ0_isLatin1_aae02 6 = .ok (.aload_n 0, 1) := of_0 ok_aload_n_0 (by decide +kernel)
theorem dJ0_isLatin1_aae02_7 : decode cJ0_isLatin1_aae02 7 = .ok (.getfield 15, 3) := of_u2 ok_getfield 0 15 (by decide +kernel)
theorem dJ0_isLatin1_aae02_10 : decode cJ0_isLatin1_aae02 10 = .ok (.ifCond .ne 7, 3) := of_s2 ok_ifCond_ne 0 7 (by decide +kernel)
theorem dJ0_isLatin1_aae02_13 : decode cJ0_isLatin1_aae02 13 = .ok (.iconst 1, 1) := of_0 ok_iconst_1 (by decide +kernel)
theorem dJ0_isLatin1_aae02_14 : decode cJ0_isLatin1_aae02 14 = .ok (.goto 4, 3) := of_s2 ok_goto 0 4 (by decide +kernel)
theorem dJ0_isLatin1_aae02_18 : decode cJ0_isLatin1_aae02 18 = .ok (.ireturn, 1) := of_0 ok_ireturn (by decide +kernel)
theorem dJ0_length_8abf5_0 : decode cJ0_length_8abf5 0 = .ok (.aload_n 0, 1) := of_0 ok_aload_n_0 (by decide +kernel)
theorem dJ0_length_8abf5_1 : decode cJ0_length_8abf5 1 = .ok (.getfield 9, 3) := of_u2 ok_getfield 0 9 (by decide +kernel)
theorem dJ0_length_8abf5_4 : decode cJ0_length_8abf5 4 = .ok (.arraylength, 1) := of_0 ok_arraylength (by decide +kernel)
theorem dJ0_length_8abf5_5 : decode cJ0_length_8abf5 5 = .ok (.aload_n 0, 1) := of_0 ok_aload_n_0 (by decide +kernel)
theorem dJ0_length_8abf5_6 : decode cJ0_length_8abf5 6 = .ok (.invokevirtual 335, 3) := of_u2 ok_invokevirtual 1 79 (by decide +kernel)
theorem dJ0_length_8abf5_9 : decode cJ0_length_8abf5 9 = .ok (.ishr, 1) := of_0 ok_ishr (by decide +kernel)
theorem dJ0_length_8abf5_10 : decode cJ0_length_8abf5 10 = .ok (.ireturn, 1) := of_0 ok_ireturn (by decide +kernel)
theorem dJ1_charAt_3b067_0 : decode cJ1_charAt_3b067 0 = .ok (.iload_n 1, 1) := of_0 ok_iload_n_1 (by decide +kernel)
theorem dJ1_charAt_3b067_1 : decode cJ1_charAt_3b067 1 = .ok (.aload_n 0, 1) := of_0 ok_aload_n_0 (by decide +kernel)
theorem dJ1_charAt_3b067_2 : decode cJ1_charAt_3b067 2 = .ok (.arraylength, 1) := of_0 ok_arraylength (by decide +kernel)
theorem dJ1_charAt_3b067_3 : decode cJ1_charAt_3b067 3 = .ok (.invokestatic 9, 3) := of_u2 ok_invokestatic 0 9 (by decide +kernel)
theorem dJ1_charAt_3b067_6 : decode cJ1_charAt_3b067 6 = .ok (.aload_n 0, 1) := of_0 ok_aload_n_0 (by decide +kernel)
theorem dJ1_charAt_3b067_7 : decode cJ1_charAt_3b067 7 = .ok (.iload_n 1, 1) := of_0 ok_iload_n_1 (by decide +kernel)
theorem dJ1_charAt_3b067_8 : decode cJ1_charAt_3b067 8 = .ok (.baload, 1) := of_0 ok_baload (by decide +kernel)
theorem dJ1_charAt_3b067_9 : decode cJ1_charAt_3b067 9 = .ok (.sipush 255, 3) := of_s2 ok_sipush 0 255 (by decide +kernel)
theorem dJ1_charAt_3b067_12 : decode cJ1_charAt_3b067 12 = .ok (.iand, 1) := of_0 ok_iand (by decide +kernel)
theorem dJ1_charAt_3b067_13 : decode cJ1_charAt_3b067 13 = .ok (.i2c, 1) := of_0 ok_i2c (by decide +kernel)
theorem dJ1_charAt_3b067_14 : decode cJ1_charAt_3b067 14 = .ok (.ireturn, 1) := of_0 ok_ireturn (by decide +kernel)
theorem dJ3_checkIndex_8e157_0 : decode cJ3_checkIndex_8e157 0 = .ok (.iload_n 0, 1) := of_0 ok_iload_n_0 (by decide +kernel)
theorem dJ3_checkIndex_8e157_1 : decode cJ3_checkIndex_8e157 1 = .ok (.ifCond .lt 8, 3) := of_s2 ok_ifCond_lt 0 8 (by decide +kernel)
theorem dJ3_checkIndex_8e157_4 : decode cJ3_checkIndex_8e157 4 = .ok (.iload_n 0, 1) := of_0 ok_iload_n_0 (by decide +kernel)
theorem dJ3_checkIndex_8e157_5 : decode cJ3_checkIndex_8e157 5 = .ok (.iload_n 1, 1) := of_0 ok_iload_n_1 (by decide +kernel)
theorem dJ3_checkIndex_8e157_6 : decode cJ3_checkIndex_8e157 6 = .ok (.if_icmp .lt 10, 3) := of_s2 ok_if_icmp_lt 0 10 (by decide +kernel)
theorem dJ3_checkIndex_8e157_16 : decode cJ3_checkIndex_8e157 16 = .ok (.iload_n 0, 1) := of_0 ok_iload_n_0 (by decide +kernel)
theorem dJ3_checkIndex_8e157_17 : decode cJ3_checkIndex_8e157 17 = .ok (.ireturn, 1) := of_0 ok_ireturn (by decide +kernel)
set_option maxRecDepth 20000 in
theorem bq_wsJ0_charAt_5068e : subq wsJ0_charAt_5068e [wsJ0_charAt_5068e_r1, wsJ0_charAt_5068e_r2] := ⟨(fun _ h => (List.mem_cons_of_mem _ (List.mem_append_left _ h))), (fun _ h => (List.mem_cons_of_mem _ (List.mem_append_right _ h))), trivial⟩
set_option maxRecDepth 20000 in
theorem ggJ0_charAt_5068e_J0_isLatin1_aae02 : GoodIn wsJ0_charAt_5068e wsJ0_isLatin1_aae02 := (goodIn_cons (good_rb bq_wsJ0_charAt_5068e ([(0, 5)] : List (Nat × Nat)) rfl (by decide +kernel)) (good_rb bq_wsJ0_charAt_5068e ([(0, 6), (0, 7)] : List (Nat × Nat)) rfl (by decide +kernel)))
set_option maxRecDepth 20000 in
theorem gJ0_charAt_5068e_J0_isLatin1_aae02 : GoodIn wsJ0_charAt_5068e (wsV RJ0 492 RJ0 yJ0_isLatin1_aae02 wsJ0_isLatin1_aae02) := goodIn_app (good_rp ([2, 3, 4, 5] : List Nat) rfl (by decide +kernel)) ggJ0_charAt_5068e_J0_isLatin1_aae02
set_option maxRecDepth 20000 in
theorem ggJ0_charAt_5068e_J1_charAt_3b067 : GoodIn wsJ0_charAt_5068e wsJ1_charAt_3b067 := (goodIn_cons (good_rb bq_wsJ0_charAt_5068e ([(0, 11)] : List (Nat × Nat)) rfl (by decide +kernel)) (good_rb bq_wsJ0_charAt_5068e ([(0, 12), (0, 13), (0, 4), (0, 14), (0, 15), (0, 16), (0, 17), (0, 18), (0, 19)] : List (Nat × Nat)) rfl (by decide +kernel)))
set_option maxRecDepth 20000 in
theorem gJ0_charAt_5068e_J1_charAt_3b067 : GoodIn wsJ0_charAt_5068e (va_wsS RJ0 495 yJ1_charAt_3b067 wsJ1_charAt_3b067) := goodIn_app (good_rp ([9, 10, 11] : List Nat) rfl (by decide +kernel)) ggJ0_charAt_5068e_J1_charAt_3b067
set_option maxRecDepth 20000 in
theorem bq_wsJ0_checkIndex_df160 : subq wsJ0_checkIndex_df160 [[.fieldLink RJ0 1053 "jdk/internal/util/Preconditions" "SIOOBE_FORMATTER" "Ljava/util/function/BiFunction;", .methodLink RJ0 1059 yJ3_checkIndex_8e157, .static yJ3_checkIndex_8e157, .initialized RJ3, .code yJ3_checkIndex_8e157 cJ3_checkIndex_8e157 3 (some .int)]] := ⟨(fun _ h => (List.mem_cons_of_mem _ h)), trivial⟩
set_option maxRecDepth 20000 in
theorem ggJ0_checkIndex_df160_J3_checkIndex_8e157 : GoodIn wsJ0_checkIndex_df160 wsJ3_checkIndex_8e157 := (goodIn_cons (good_rb bq_wsJ0_checkIndex_df160 ([(0, 4)] : List (Nat × Nat)) rfl (by decide +kernel)) (good_rb bq_wsJ0_checkIndex_df160 ([] : List (Nat × Nat)) rfl (by decide +kernel)))
set_option maxRecDepth 20000 in
theorem gJ0_checkIndex_df160_J3_checkIndex_8e157 : GoodIn wsJ0_checkIndex_df160 (va_wsS RJ0 1059 yJ3_checkIndex_8e157 wsJ3_checkIndex_8e157) := goodIn_app (good_rp ([2, 3, 4] : List Nat) rfl (by decide +kernel)) ggJ0_checkIndex_df160_J3_checkIndex_8e157
set_option maxRecDepth 20000 in
theorem bq_wsJ0_length_8abf5 : subq wsJ0_length_8abf5 [[.fieldLink RJ0 9 "java/lang/String" "value" "[B", .methodLink RJ0 335 yJ0_coder_7d493, .instanceMethod yJ0_coder_7d493, .selects RJ0 yJ0_coder_7d493 yJ0_coder_7d493, .initialized RJ0, .code yJ0_coder_7d493 cJ0_coder_7d493 1 (some .byte), .fieldLink RJ0 38 "java/lang/String" "COMPACT_STRINGS" "Z", .fieldLink RJ0 15 "java/lang/String" "coder" "B"]] := ⟨(fun _ h => (List.mem_cons_of_mem _ h)), trivial⟩
set_option maxRecDepth 20000 in
theorem ggJ0_length_8abf5_J0_coder_7d493 : GoodIn wsJ0_length_8abf5 wsJ0_coder_7d493 := (goodIn_cons (good_rb bq_wsJ0_length_8abf5 ([(0, 5)] : List (Nat × Nat)) rfl (by decide +kernel)) (good_rb bq_wsJ0_length_8abf5 ([(0, 6), (0, 7)] : List (Nat × Nat)) rfl (by decide +kernel)))
set_option maxRecDepth 20000 in
theorem gJ0_length_8abf5_J0_coder_7d493 : GoodIn wsJ0_length_8abf5 (wsV RJ0 335 RJ0 yJ0_coder_7d493 wsJ0_coder_7d493) := goodIn_app (good_rp ([2, 3, 4, 5] : List Nat) rfl (by decide +kernel)) ggJ0_length_8abf5_J0_coder_7d493
set_option maxRecDepth 20000 in
theorem bq_wsJ1_charAt_3b067 : subq wsJ1_charAt_3b067 [[.methodLink RJ1 9 yJ0_checkIndex_df160, .static yJ0_checkIndex_df160, .initialized RJ0, .code yJ0_checkIndex_df160 cJ0_checkIndex_df160 2 none, .fieldLink RJ0 1053 "jdk/internal/util/Preconditions" "SIOOBE_FORMATTER" "Ljava/util/function/BiFunction;", .methodLink RJ0 1059 yJ3_checkIndex_8e157, .static yJ3_checkIndex_8e157, .initialized RJ3, .code yJ3_checkIndex_8e157 cJ3_checkIndex_8e157 3 (some .int)]] := ⟨(fun _ h => (List.mem_cons_of_mem _ h)), trivial⟩
set_option maxRecDepth 20000 in
theorem ggJ1_charAt_3b067_J0_checkIndex_df160 : GoodIn wsJ1_charAt_3b067 wsJ0_checkIndex_df160 := (goodIn_cons (good_rb bq_wsJ1_charAt_3b067 ([(0, 3)] : List (Nat × Nat)) rfl (by decide +kernel)) (good_rb bq_wsJ1_charAt_3b067 ([(0, 4), (0, 5), (0, 6), (0, 7), (0, 8)] : List (Nat × Nat)) rfl (by decide +kernel)))
set_option maxRecDepth 20000 in
theorem gJ1_charAt_3b067_J0_checkIndex_df160 : GoodIn wsJ1_charAt_3b067 (va_wsS RJ1 9 yJ0_checkIndex_df160 wsJ0_checkIndex_df160) := goodIn_app (good_rp ([1, 2, 3] : List Nat) rfl (by decide +kernel)) ggJ1_charAt_3b067_J0_checkIndex_df160
set_option maxRecDepth 20000 in
theorem bq_wsJ0_coder_7d493 : subq wsJ0_coder_7d493 [[.fieldLink RJ0 38 "java/lang/String" "COMPACT_STRINGS" "Z", .fieldLink RJ0 15 "java/lang/String" "coder" "B"]] := ⟨(fun _ h => (List.mem_cons_of_mem _ h)), trivial⟩
set_option maxHeartbeats 4000000 in
set_option maxRecDepth 100000 in
theorem c_coder (l : Launch) (D : va_G) (k : Nat → ClassId) (sz a t n : Nat) (f : Nat → Int32) : CtIE l yJ0_coder_7d493 wsJ0_coder_7d493 (rmK 1 0 0) [.ref a] D k (ES a t n f) sz [] (fun (r : Int32) (_ : Unit) => r = 0) (fun _ : Unit => []) 0 0 := by
  refine CtIE.mk (cc := cJ0_coder_7d493) (maxL := 1) (ret := some .byte) (by decide) rfl (Nat.le_of_ble_eq_true rfl) ?_
  intro p e s m below meth c A ls hE E hP hD hS hl
  obtain ⟨hx, hb, hr, hml, hown, hts, hlocks, hin, hG, hA⟩ := E
  have hown : s.vm.findClass RJ0 = some m.cls := hown
  have hl : lv_has ls 1 [(0, .ref a)] := hl
  refine va_gets hx hb hE.1 hS hown (hts (.fieldLink RJ0 38 "java/lang/String" "COMPACT_STRINGS" "Z") (mem_b bq_wsJ0_coder_7d493 0 0 rfl)) (fun _ h => h) dJ0_coder_7d493_0 ?_
  refine lv_if_eq (tgt := 13) hx hb dJ0_coder_7d493_3 (by decide) (fun h => absurd h (by decide)) (fun _ => ?_)
  refine lv_aload_n hx hb dJ0_coder_7d493_6 rfl (lv_at hl 0 rfl) ?_
  refine vk_getf hx hb hE.2.1.2.1 hS hown (hts (.fieldLink RJ0 15 "java/lang/String" "coder" "B") (mem_b bq_wsJ0_coder_7d493 0 1 rfl)) (fun _ h => h) dJ0_coder_7d493_7 ?_
  refine lv_goto (tgt := 14) hx hb dJ0_coder_7d493_10 (by decide) ?_
  exact W.zret hx hb hr rfl (fun t ht hW => ⟨⟨0, (), rfl, rfl, by rw [ht]; exact hP, hD⟩, hS.F ht⟩) hS.2.2 dJ0_coder_7d493_14 hlocks
set_option maxHeartbeats 4000000 in
set_option maxRecDepth 100000 in
theorem c_length (l : Launch) (D : va_G) (k : Nat → ClassId) (sz a t n : Nat) (f : Nat → Int32) : CtIE l yJ0_length_8abf5 wsJ0_length_8abf5 (rmK 2 0 0) [.ref a] D k (ES a t n f) sz [] (fun (r : Int32) (_ : Unit) => r = nI n) (fun _ : Unit => []) 0 0 := by
  refine CtIE.mk (cc := cJ0_length_8abf5) (maxL := 1) (ret := some .int) (by decide) rfl (Nat.le_of_ble_eq_true rfl) ?_
  intro p e s m below meth c A ls hE E hP hD hS hl
  obtain ⟨hx, hb, hr, hml, hown, hts, hlocks, hin, hG, hA⟩ := E
  have hown : s.vm.findClass RJ0 = some m.cls := hown
  have hl : lv_has ls 1 [(0, .ref a)] := hl
  refine lv_aload_n hx hb dJ0_length_8abf5_0 rfl (lv_at hl 0 rfl) ?_
  refine vk_getf hx hb hE.2.1.2.2.1 hS hown (hts (.fieldLink RJ0 9 "java/lang/String" "value" "[B") (mem_b bq_wsJ0_length_8abf5 0 0 rfl)) (fun _ h => h) dJ0_length_8abf5_1 ?_
  have hf := hE.2.1.2.2.2
  refine va_tlen (v := nI n) hx hb hf hS rfl dJ0_length_8abf5_4 ?_
  refine lv_aload_n hx hb dJ0_length_8abf5_5 rfl (lv_at hl 0 rfl) ?_
  refine hc_ViE (As := []) (rest := [.int (nI n)]) (n := 0) (wr := []) (ES.ok a t n f) hE hx hb hml hown hts hG hA hP hD hS hl.1 [] [] (c_coder l D k _ a t n f) (va_Orecv hE.2.1.1 hS) gJ0_length_8abf5_J0_coder_7d493 rfl ⟨rfl, rfl, Nat.le_of_ble_eq_true rfl, Nat.le_of_ble_eq_true rfl⟩ (by decide +kernel) rfl rfl ⟨by decide +kernel, by decide +kernel, by decide +kernel⟩ ⟨rfl, rfl, Nat.le_of_ble_eq_true rfl, Nat.le_of_ble_eq_true rfl, Nat.le_of_ble_eq_true rfl⟩ dJ0_length_8abf5_6 (fun r u H locs hw hP hD hS => ?_)
  obtain rfl : r = 0 := hw
  refine lv_ishr hx hb dJ0_length_8abf5_9 ?_
  refine hc_is (z := nI n) (sb_shr0 _) ?_
  exact hc_end hx hb hr hlocks () rfl hP hD hS dJ0_length_8abf5_10
set_option maxRecDepth 20000 in
theorem bq_wsJ0_isLatin1_aae02 : subq wsJ0_isLatin1_aae02 [[.fieldLink RJ0 38 "java/lang/String" "COMPACT_STRINGS" "Z", .fieldLink RJ0 15 "java/lang/String" "coder" "B"]] := ⟨(fun _ h => (List.mem_cons_of_mem _ h)), trivial⟩
set_option maxHeartbeats 4000000 in
set_option maxRecDepth 100000 in
theorem c_latin (l : Launch) (D : va_G) (k : Nat → ClassId) (sz a t n : Nat) (f : Nat → Int32) : CtIE l yJ0_isLatin1_aae02 wsJ0_isLatin1_aae02 (rmK 1 0 0) [.ref a] D k (ES a t n f) sz [] (fun (r : Int32) (_ : Unit) => r = 1) (fun _ : Unit => []) 0 0 := by
  refine CtIE.mk (cc := cJ0_isLatin1_aae02) (maxL := 1) (ret := some .boolean) (by decide) rfl (Nat.le_of_ble_eq_true rfl) ?_
  intro p e s m below meth c A ls hE E hP hD hS hl
  obtain ⟨hx, hb, hr, hml, hown, hts, hlocks, hin, hG, hA⟩ := E
  have hown : s.vm.findClass RJ0 = some m.cls := hown
  have hl : lv_has ls 1 [(0, .ref a)] := hl
  refine va_gets hx hb hE.1 hS hown (hts (.fieldLink RJ0 38 "java/lang/String" "COMPACT_STRINGS" "Z") (mem_b bq_wsJ0_isLatin1_aae02 0 0 rfl)) (fun _ h => h) dJ0_isLatin1_aae02_0 ?_
  refine lv_if_eq (tgt := 17) hx hb dJ0_isLatin1_aae02_3 (by decide) (fun h => absurd h (by decide)) (fun _ => ?_)
  refine lv_aload_n hx hb dJ0_isLatin1_aae02_6 rfl (lv_at hl 0 rfl) ?_
  refine vk_getf hx hb hE.2.1.2.1 hS hown (hts (.fieldLink RJ0 15 "java/lang/String" "coder" "B") (mem_b bq_wsJ0_isLatin1_aae02 0 1 rfl)) (fun _ h => h) dJ0_isLatin1_aae02_7 ?_
  refine lv_if_ne (tgt := 17) hx hb dJ0_isLatin1_aae02_10 (by decide) (fun h => absurd rfl h) (fun _ => ?_)
  refine lv_iconst (v := 1) hx hb dJ0_isLatin1_aae02_13 (by decide) ?_
  refine lv_goto (tgt := 18) hx hb dJ0_isLatin1_aae02_14 (by decide) ?_
  exact hc_endZ hx hb hr hlocks rfl () rfl hP hD hS dJ0_isLatin1_aae02_18
set_option maxHeartbeats 4000000 in
set_option maxRecDepth 100000 in
theorem c_pcheck (l : Launch) (D : va_G) (k : Nat → ClassId) (sz : Nat) (fo : Option Nat) (i n : Int32) (h0 : 0 ≤ i.toInt) (h1 : i.toInt < n.toInt) : CtI l yJ3_checkIndex_8e157 wsJ3_checkIndex_8e157 (rmK 1 0 0) [.int i, .int n, va_rf fo] D k sz [] (fun (r : Int32) (_ : Unit) => r = i) (fun _ : Unit => []) 0 0 := by
  refine CtI.mk (cc := cJ3_checkIndex_8e157) (maxL := 3) (ret := some .int) (by decide) rfl (by cases fo <;> exact Nat.le_of_ble_eq_true rfl) ?_
  intro p e s m below meth c A ls E hP hD hS hl
  obtain ⟨hx, hb, hr, hml, hown, hts, hlocks, hin, hG, hA⟩ := E
  have hl : lv_has ls 3 [(0, .int i), (1, .int n), (2, va_rf fo)] := (by cases fo <;> exact hl)
  refine lv_iload_n hx hb dJ3_checkIndex_8e157_0 rfl (lv_at hl 0 rfl) ?_
  refine lv_if_lt (tgt := 9) hx hb dJ3_checkIndex_8e157_1 (by decide) (fun h => absurd h (cd_lt_f (a := i.toInt) (b := 0) rfl (by decide) (by omega))) (fun _ => ?_)
  refine lv_iload_n hx hb dJ3_checkIndex_8e157_4 rfl (lv_at hl 0 rfl) ?_
  refine lv_iload_n hx hb dJ3_checkIndex_8e157_5 rfl (lv_at hl 1 rfl) ?_
  refine lv_icmp_lt (tgt := 16) hx hb dJ3_checkIndex_8e157_6 (by decide) (fun _ => ?_) (fun h => absurd (cd_lt_t (a := i.toInt) (b := n.toInt) rfl rfl (by omega)) h)
  refine lv_iload_n hx hb dJ3_checkIndex_8e157_16 rfl (lv_at hl 0 rfl) ?_
  exact hc_end hx hb hr hlocks () rfl hP hD hS dJ3_checkIndex_8e157_17
theorem fmt_get {p : Program} {l : Launch} {e : Env} {R : Room} {s : State} {m : MethodId} {args : Array Value} {below : List Frame} {meth : Method} {c : Code} {H : Heap} {locs : List Loc} {cells slots : Nat} {Q : State → Prop} {pc : Nat} {ls : Array Slot} {rest : List Value} {A : Nat → Prop} {cc : ByteArray} {own : String} {index : Nat} (hx : p.tables.exec = Jvm.exec) (hb : c.code = cc) (hZ : fmtF A s s.heap) (hS : va_S A s.heap H locs) (hown : s.vm.findClass own = some m.cls) (hlink : (Cond.fieldLink own index "jdk/internal/util/Preconditions" "SIOOBE_FORMATTER" "Ljava/util/function/BiFunction;").before args s = true) (hdg : decode cc pc = .ok (.getstatic index, 3)) (kk : ∀ fo : Option Nat, W p l e R s m args below meth c H locs cells slots Q (F0 m (pc + 3) ls (va_rf fo :: rest))) : W p l e R s m args below meth c H locs cells slots Q (F0 m pc ls rest) := by
  rcases hZ with h | ⟨t, h⟩
  · exact va_gets hx hb h hS hown hlink (fun _ h => h) hdg (kk none)
  · exact va_gets hx hb h hS hown hlink (fun _ h => h) hdg (kk (some t))
set_option maxHeartbeats 4000000 in
set_option maxRecDepth 100000 in
theorem c_scheck (l : Launch) (D : va_G) (k : Nat → ClassId) (sz : Nat) (i n : Int32) (h0 : 0 ≤ i.toInt) (h1 : i.toInt < n.toInt) : CtVE l yJ0_checkIndex_df160 wsJ0_checkIndex_df160 (rmK 2 0 0) [.int i, .int n] D k (fun A U => fmtF A U U.heap) sz [] (fun _ : Unit => True) (fun _ : Unit => []) 0 0 := by
  refine CtVE.mk (cc := cJ0_checkIndex_df160) (maxL := 2) (ret := none) (by decide) rfl (Nat.le_of_ble_eq_true rfl) ?_
  intro p e s m below meth c A ls hE E hP hD hS hl
  obtain ⟨hx, hb, hr, hml, hown, hts, hlocks, hin, hG, hA⟩ := E
  have hown : s.vm.findClass RJ0 = some m.cls := hown
  have hl : lv_has ls 2 [(0, .int i), (1, .int n)] := hl
  refine lv_iload_n hx hb dJ0_checkIndex_df160_0 rfl (lv_at hl 0 rfl) ?_
  refine lv_iload_n hx hb dJ0_checkIndex_df160_1 rfl (lv_at hl 1 rfl) ?_
  refine fmt_get hx hb hE hS hown (hts (.fieldLink RJ0 1053 "jdk/internal/util/Preconditions" "SIOOBE_FORMATTER" "Ljava/util/function/BiFunction;") (mem_b bq_wsJ0_checkIndex_df160 0 0 rfl)) dJ0_checkIndex_df160_2 (fun fo => ?_)
  refine hc_Si (As := [.int i, .int n, va_rf fo]) (rest := []) (n := 3) (wr := []) hx hb hml hown hts hG hA hP hD hS hl.1 [] [] (c_pcheck l D k _ fo i n h0 h1) gJ0_checkIndex_df160_J3_checkIndex_8e157 rfl ⟨rfl, rfl, Nat.le_of_ble_eq_true rfl, Nat.le_of_ble_eq_true rfl⟩ (by decide +kernel) rfl rfl ⟨by decide +kernel, by decide +kernel, by decide +kernel⟩ ⟨rfl, rfl, Nat.le_of_ble_eq_true rfl, Nat.le_of_ble_eq_true rfl, Nat.le_of_ble_eq_true rfl⟩ dJ0_checkIndex_df160_5 (fun r u H locs hw hP hD hS => ?_)
  refine lv_pop hx hb dJ0_checkIndex_df160_8 rfl ?_
  exact hc_endV hx hb hr hlocks () trivial hP hD hS dJ0_checkIndex_df160_9
set_option maxHeartbeats 4000000 in
set_option maxRecDepth 100000 in
theorem c_lchar (l : Launch) (D : va_G) (k : Nat → ClassId) (sz t n : Nat) (f : Nat → Int32) (i : Int32) (hn : n < 1000) (h0 : 0 ≤ i.toInt) (h1 : i.toInt < n) : CtIE l yJ1_charAt_3b067 wsJ1_charAt_3b067 (rmK 3 0 0) [.ref t, .int i] D k (EB t n f) sz [] (fun (r : Int32) (_ : Unit) => r = f (Int32.toNatClampNeg i) &&& 255) (fun _ : Unit => []) 0 0 := by
  refine CtIE.mk (cc := cJ1_charAt_3b067) (maxL := 2) (ret := some .char) (by decide) rfl (Nat.le_of_ble_eq_true rfl) ?_
  intro p e s m below meth c A ls hE E hP hD hS hl
  obtain ⟨hx, hb, hr, hml, hown, hts, hlocks, hin, hG, hA⟩ := E
  have hown : s.vm.findClass RJ1 = some m.cls := hown
  have hl : lv_has ls 2 [(0, .ref t), (1, .int i)] := hl
  have hf := hE.1
  have hnI : (nI n).toInt = n := nI_toInt (by omega)
  refine lv_iload_n hx hb dJ1_charAt_3b067_0 rfl (lv_at hl 1 rfl) ?_
  refine lv_aload_n hx hb dJ1_charAt_3b067_1 rfl (lv_at hl 0 rfl) ?_
  refine va_tlen (v := nI n) hx hb hf hS rfl dJ1_charAt_3b067_2 ?_
  refine hc_SvE (As := [.int i, .int (nI n)]) (rest := []) (n := 2) (wr := []) fmt.ok hE.2 hx hb hml hown hts hG hA hP hD hS hl.1 [] [] (c_scheck l D k _ i (nI n) h0 (by omega)) gJ1_charAt_3b067_J0_checkIndex_df160 rfl ⟨rfl, rfl, Nat.le_of_ble_eq_true rfl, Nat.le_of_ble_eq_true rfl⟩ (by decide +kernel) rfl rfl ⟨by decide +kernel, by decide +kernel, by decide +kernel⟩ ⟨rfl, rfl, Nat.le_of_ble_eq_true rfl, Nat.le_of_ble_eq_true rfl, Nat.le_of_ble_eq_true rfl⟩ dJ1_charAt_3b067_3 (fun u H locs hw hP hD hS => ?_)
  refine lv_aload_n hx hb dJ1_charAt_3b067_6 rfl (lv_at hl 0 rfl) ?_
  refine lv_iload_n hx hb dJ1_charAt_3b067_7 rfl (lv_at hl 1 rfl) ?_
  refine va_tb hx hb hf hS (vp_in_iff.mpr ⟨by omega, by omega⟩) rfl dJ1_charAt_3b067_8 ?_
  refine lv_sipush (v := 255) hx hb dJ1_charAt_3b067_9 (by decide) ?_
  refine lv_iand hx hb dJ1_charAt_3b067_12 ?_
  refine lv_topi (fun z ez => ?_)
  have bz : iv 0 255 z := ai_mask 8 (by decide) (by decide) ez
  have b1 := bz.1
  have b2 := bz.2
  refine lv_i2c (v := z) hx hb dJ1_charAt_3b067_13 (lg_i2c_word b1 (by omega)) ?_
  exact hc_endC hx hb hr hlocks ⟨by omega, by omega⟩ () ez hP hD hS dJ1_charAt_3b067_14
set_option maxHeartbeats 4000000 in
set_option maxRecDepth 100000 in
theorem c_charAt (l : Launch) (D : va_G) (k : Nat → ClassId) (sz a t n : Nat) (f : Nat → Int32) (i : Int32) (hn : n < 1000) (h0 : 0 ≤ i.toInt) (h1 : i.toInt < n) : CtIE l yJ0_charAt_5068e wsJ0_charAt_5068e (rmK 4 0 0) [.ref a, .int i] D k (ES a t n f) sz [] (fun (r : Int32) (_ : Unit) => r = f (Int32.toNatClampNeg i) &&& 255) (fun _ : Unit => []) 0 0 := by
  refine CtIE.mk (cc := cJ0_charAt_5068e) (maxL := 2) (ret := some .char) (by decide) rfl (Nat.le_of_ble_eq_true rfl) ?_
  intro p e s m below meth c A ls hE E hP hD hS hl
  obtain ⟨hx, hb, hr, hml, hown, hts, hlocks, hin, hG, hA⟩ := E
  have hown : s.vm.findClass RJ0 = some m.cls := hown
  have hl : lv_has ls 2 [(0, .ref a), (1, .int i)] := hl
  refine lv_aload_n hx hb dJ0_charAt_5068e_0 rfl (lv_at hl 0 rfl) ?_
  refine hc_ViE (As := []) (rest := []) (n := 0) (wr := []) (ES.ok a t n f) hE hx hb hml hown hts hG hA hP hD hS hl.1 [] [] (c_latin l D k _ a t n f) (va_Orecv hE.2.1.1 hS) gJ0_charAt_5068e_J0_isLatin1_aae02 rfl ⟨rfl, rfl, Nat.le_of_ble_eq_true rfl, Nat.le_of_ble_eq_true rfl⟩ (by decide +kernel) rfl rfl ⟨by decide +kernel, by decide +kernel, by decide +kernel⟩ ⟨rfl, rfl, Nat.le_of_ble_eq_true rfl, Nat.le_of_ble_eq_true rfl, Nat.le_of_ble_eq_true rfl⟩ dJ0_charAt_5068e_1 (fun r u H locs hw hP hD hS => ?_)
  obtain rfl : r = 1 := hw
  refine lv_if_eq (tgt := 16) hx hb dJ0_charAt_5068e_4 (by decide) (fun h => absurd h (by decide)) (fun _ => ?_)
  refine lv_aload_n hx hb dJ0_charAt_5068e_7 rfl (lv_at hl 0 rfl) ?_
  refine vk_getf hx hb hE.2.1.2.2.1 hS hown (hts (.fieldLink RJ0 9 "java/lang/String" "value" "[B") (mem_b bq_wsJ0_charAt_5068e 0 0 rfl)) (fun _ h => h) dJ0_charAt_5068e_8 ?_
  refine lv_iload_n hx hb dJ0_charAt_5068e_11 rfl (lv_at hl 1 rfl) ?_
  refine hc_SiE (As := [.ref t, .int i]) (rest := []) (n := 2) (wr := []) (EB.ok t n f) ⟨hE.2.1.2.2.2, hE.2.2⟩ hx hb hml hown hts hG hA hP hD hS hl.1 [] [] (c_lchar l D k _ t n f i hn h0 h1) gJ0_charAt_5068e_J1_charAt_3b067 rfl ⟨rfl, rfl, Nat.le_of_ble_eq_true rfl, Nat.le_of_ble_eq_true rfl⟩ (by decide +kernel) rfl rfl ⟨by decide +kernel, by decide +kernel, by decide +kernel⟩ ⟨rfl, rfl, Nat.le_of_ble_eq_true rfl, Nat.le_of_ble_eq_true rfl, Nat.le_of_ble_eq_true rfl⟩ dJ0_charAt_5068e_12 (fun r u H locs hw hP hD hS => ?_)
  have hw : r = f (Int32.toNatClampNeg i) &&& 255 := hw
  have bz : iv 0 255 r := ai_mask 8 (by decide) (by decide) hw
  exact hc_endC hx hb hr hlocks ⟨bz.1, by have := bz.2; omega⟩ () hw hP hD hS dJ0_charAt_5068e_15
noncomputable def CtRE (l : Launch) (y : MethodName) (wd : List Cond) (rm : Room) (av : List Value) (D : va_G) (k : Nat → ClassId) (E : (Nat → Prop) → State → Prop) (sz : Nat) (a : Nat) : Prop := Met l y wd rm (va_Pc av (fun U => hcP D k sz [] U ∧ E (va_A [] sz) U)) (va_Qr (fun _ : Unit => True) (fun _ ra _ => ra = a) (va_A [] sz)) 0 0 (va_A [] sz)
theorem CtRE.mk {l : Launch} {y : MethodName} {wd wd' : List Cond} {rm : Room} {av : List Value} {D : va_G} {k : Nat → ClassId} {E : (Nat → Prop) → State → Prop} {sz a : Nat} {cc : ByteArray} {maxL : Nat} {ret : Option FieldType} (hy : plainName y.cls = true) (hw : wd = Cond.code y cc maxL ret :: wd') (hlv : (lg_sl av).length ≤ maxL)
    (body : ∀ (p : Program) (e : Env) (s : State) (m : MethodId) (below : List Frame) (meth : Method) (c : Code) (A : Nat → Prop) (ls : Array Slot), E A s → En p s m av.toArray meth c y cc ret maxL wd D k A → va_S A s.heap s.heap [] → lv_has ls maxL (lv_args 0 av) → W p l e rm s m av.toArray below meth c s.heap [] 0 0 (MQ below (va_Qr (fun _ : Unit => True) (fun _ ra _ => ra = a) A) av.toArray s 0 0 A) (F0 m 0 ls [])) : CtRE l y wd rm av D k E sz a := by
  refine Met.ofW (cc := cc) (maxL := maxL) (ret := ret) hy hw ?_
  intro p e s m args below meth c s₁ B hml hv
  obtain ⟨rfl, ⟨hsz, hP, hG, hD0⟩, hE⟩ := hv
  subst hsz
  have hts := atoms_spec (ws := wd) B.pre
  have hl := lv_entry av (n := maxL) hlv
  rw [lg_entry_eq]
  exact body p e s m below meth c (va_A [] s.heap.size) _ hE ⟨B.exec, B.bytes, B.returns, hml, findClass_of_methodNamed B.named, hts, B.notSynchronized, (name_of_methodNamed B.named B.method).1, hG, fun q h => Or.inr h⟩ va_S.rf hl
section HTY
variable {p : Program} {l : Launch} {e : Env} {R : Room} {s : State} {m : MethodId} {args : Array Value} {below : List Frame} {meth : Method} {c : Code} {H : Heap} {locs : List Loc} {cells slots : Nat} {Q : State → Prop} {pc : Nat} {ls : Array Slot} {rest st0 As : List Value} {D : va_G} {k : Nat → ClassId} {A : Nat → Prop} {ws wc wr : va_W} {cc : ByteArray} {y : MethodName} {wd wd' Ts : List Cond} {rm : Room} {mc ms n index maxL nL : Nat} {bytes : ByteArray} {ret : Option FieldType} {own C host : String} {b : Nat} {E : (Nat → Prop) → State → Prop}
theorem hc_ldcwS {p : Program} {l : Launch} {e : Env} {R : Room} {s : State} {m : MethodId} {args : Array Value} {below : List Frame} {meth : Method} {c : Code} {T : State} {locs : List Loc} {cells slots : Nat}
    (X : Stand p l e R s m args below meth c T locs cells slots) (hexec : p.tables.exec = Jvm.exec) {own text : String} {index : Nat} {a : Addr} (hown : s.vm.findClass own = some m.cls)
    (hconst : (Cond.stringRef own index text).before #[] s = true) (hev : (Term.string own index).eval #[] s none [] s = some (.ref a)) {g : JFrame} (hg : g.method = m) (hdg : decode c.code g.pc = .ok (.ldc_w index, 3)) :
    ∀ target, Steps p.tables e below (T.setTop { g with pc := g.pc + 3, stack := .ref a :: g.stack }) target → Steps p.tables e below (T.setTop g) target := by
  obtain ⟨k, cf, i, a', hk, hcf, hcp, -, hr, hev'⟩ := Cond.stringRef_spec hown hconst
  cases hev.symm.trans hev'
  obtain ⟨k', hk', he⟩ := X.warmed.alike.2.2 _ _ hk
  have hr' : k'.resolved[index]? = some (some (.string a)) := by
    rcases X.warmed.entry hk hk' index with h | ⟨h, -⟩
    · rw [h]; exact hr
    · rw [hr] at h; cases h
  intro target hrest
  subst hg
  jvm_step X.here [hexec, hdg, ldc_w.wp_string (s := T) (f := g) X.here.top hk' (by rw [he]; exact hcf) hcp hr']
  exact hrest
theorem hc_ldcw (hx : p.tables.exec = Jvm.exec) (hb : c.code = cc) {tx : String} {q : Nat} (hown : s.vm.findClass own = some m.cls) (hZ : vk_R own index tx q s) (hdg : decode cc pc = .ok (.ldc_w index, 3))
    (kk : W p l e R s m args below meth c H locs cells slots Q (F0 m (pc + 3) ls (.ref q :: rest))) : W p l e R s m args below meth c H locs cells slots Q (F0 m pc ls rest) := by
  intro T hT X
  obtain ⟨t, a1, b1⟩ := kk T hT X
  exact ⟨t, hc_ldcwS X hx hown hZ.1 hZ.2 (g := F0 m pc ls rest) rfl (by rw [hb]; exact hdg) t a1, b1⟩
theorem hc_SrE {ra0 : Nat} (hE : EOk E) (hT : E A s) (hx : p.tables.exec = Jvm.exec) (hb : c.code = cc) (hml : c.maxLocals = nL) (hown : s.vm.findClass own = some m.cls) (hts : ∀ w ∈ Ts, w.before args s = true) (hG : GK D k s) (hA : ∀ q : Nat, s.heap.size ≤ q → A q) (hP : va_P D vwCl ws H) (hD : va_D A ws) (hS : va_S A s.heap H locs) (hsz : ls.size = nL)
    (isR : List Nat) (hM : CtRE l y wd rm As D k E H.size ra0) (hg : GoodIn Ts (va_wsS own index y wd)) (hw : wd = Cond.code y bytes maxL ret :: wd') (hrc : rm.cells = 0 ∧ rm.slots = 0 ∧ rm.frames + 1 ≤ R.frames ∧ 8 + (maxL + 11) + rm.locals ≤ R.locals) (hd : hcD y n)
    (hR : isR.map (fun i => ws[i]?) = wr.map some) (hn : va_nd isR = true) (hst : As.length = n ∧ st0 = As.reverse ++ rest ∧ (rest.map fun v => v.category).sum ≤ 8 ∧ cells + 0 ≤ R.cells ∧ slots + 0 ≤ R.slots) (hdg : decode cc pc = .ok (.invokestatic index, 3))
    (kk : ∀ (H : Heap) (locs : List Loc), va_P D vwCl wr H → va_D A wr → va_S A s.heap H locs → W p l e R s m args below meth c H locs (cells + 0) (slots + 0) Q (F0 m (pc + 3) ls (.ref ra0 :: rest))) : W p l e R s m args below meth c H locs cells slots Q (F0 m pc ls st0) := by
  have hFc := va_free (wc := []) hD hS hA [] rfl
  refine va_callr (va_runS (As := As) (rest := rest) ⟨hx, hb, hml, hown, hts⟩ hM (va_cwS n hts hg hw hrc.1 hrc.2.1 hd hrc.2.2) (hc_pSE (wc := []) hE hT hS hA hG hP hD [] rfl rfl) rfl hst.1 hsz hst.2.1 (lv_room hst.2.2.1) hdg hst.2.2.2) hS (fun q _ h => hFc q h) hFc (fun u ra t H1 locs ht hvm hw hB hz1 hk1 hS => ?_)
  subst hB
  obtain ⟨hP, hD⟩ := va_join (wr := wr) (w1 := []) hP hD [] isR rfl hR hn (fun _ _ h => by cases h) hk1 hFc (fun k q h => by simp at h) ⟨fun i j p q h => by simp at h, fun k q h => by simp at h⟩
  rw [List.append_nil] at hP hD
  exact kk H1 locs hP hD hS
end HTY
noncomputable def wdX (x : Int32) : Nat := if x = 260 then 0 else if x = 261 then 1 else if x = 262 then 2 else if x = 263 then 3 else if x = 264 then 4 else if x = 265 then 5 else if x = 266 then 6 else if x = 267 then 7 else if x = 268 then 8 else if x = 269 then 9 else if x = 270 then 10 else if x = 271 then 11 else if x = 272 then 12 else if x = 273 then 13 else if x = 274 then 14 else if x = 275 then 15 else if x = 276 then 16 else if x = 277 then 17 else 18
noncomputable def wdY (x : Int32) : Nat := if x = 0 then 0 else if x = 1 then 1 else if x = 2 then 2 else if x = 3 then 3 else if x = 4 then 4 else if x = 5 then 5 else if x = 6 then 6 else if x = 7 then 7 else if x = 8 then 8 else if x = 9 then 9 else 10
noncomputable def wdH (x : Int32) : Nat := if x = 0 then 11 else if x = 1 then 12 else if x = 2 then 1 else 0
end
section
section HC2
variable {p : Program} {l : Launch} {e : Env} {R : Room} {s : State} {m : MethodId} {args : Array Value} {below : List Frame} {meth : Method} {c : Code} {H : Heap} {locs : List Loc} {cells slots : Nat} {Q : State → Prop} {pc : Nat} {ls : Array Slot} {rest st0 As : List Value} {D : va_G} {k : Nat → ClassId} {A : Nat → Prop} {ws wc wr : va_W} {cc : ByteArray} {y : MethodName} {wd wd' Ts : List Cond} {rm : Room} {mc ms n index maxL nL : Nat} {bytes : ByteArray} {ret : Option FieldType} {own C host : String} {b : Nat}
theorem hc_Sv {S : Type} {post : S → Prop} {wp : S → va_W} (hx : p.tables.exec = Jvm.exec) (hb : c.code = cc) (hml : c.maxLocals = nL) (hown : s.vm.findClass own = some m.cls) (hts : ∀ w ∈ Ts, w.before args s = true) (hG : GK D k s) (hA : ∀ q : Nat, s.heap.size ≤ q → A q) (hP : va_P D vwCl ws H) (hD : va_D A ws) (hS : va_S A s.heap H locs) (hsz : ls.size = nL)
    (isC isR : List Nat) (hM : CtV l y wd rm As D k H.size wc post wp mc ms) (hg : GoodIn Ts (va_wsS own index y wd)) (hw : wd = Cond.code y bytes maxL ret :: wd') (hrc : rm.cells = mc ∧ rm.slots = ms ∧ rm.frames + 1 ≤ R.frames ∧ 8 + (maxL + 11) + rm.locals ≤ R.locals) (hd : hcD y n)
    (hC : isC.map (fun i => ws[i]?) = wc.map some) (hR : isR.map (fun i => ws[i]?) = wr.map some) (hn : va_nd isC = true ∧ va_nd isR = true ∧ ∀ i ∈ isR, i ∉ isC) (hst : As.length = n ∧ st0 = As.reverse ++ rest ∧ (rest.map fun v => v.category).sum ≤ 8 ∧ cells + mc ≤ R.cells ∧ slots + ms ≤ R.slots) (hdg : decode cc pc = .ok (.invokestatic index, 3))
    (kk : ∀ (u : S) (H : Heap) (locs : List Loc), post u → va_P D vwCl (wr ++ wp u) H → va_D A (wr ++ wp u) → va_S A s.heap H locs → W p l e R s m args below meth c H locs (cells + mc) (slots + ms) Q (F0 m (pc + 3) ls rest)) : W p l e R s m args below meth c H locs cells slots Q (F0 m pc ls st0) :=
  hc_v (va_runS (As := As) (rest := rest) ⟨hx, hb, hml, hown, hts⟩ hM (va_cwS n hts hg hw hrc.1 hrc.2.1 hd hrc.2.2) (hc_pS hG hP hD isC hC hn.1) rfl hst.1 hsz hst.2.1 (lv_room hst.2.2.1) hdg hst.2.2.2) hA hP hD hS isC isR hC hR hn.2.1 hn.2.2 kk
end HC2
/-! every method a pure function: states, loops, guards, ends, calls -/
abbrev OB : Type := (Nat → Int32) × (Nat → Nat → Int32) × (Nat → Nat → Int64)
noncomputable def uF {α : Type} (f : Nat → α) (i : Nat) (x : α) : Nat → α := fun j => if j = i then x else f j
noncomputable def lp {α β : Type} (body : (α → Option β) → α → Option β) : Nat → α → Option β
  | 0, _ => none
  | n + 1, a => body (lp body n) a
theorem lp_W {α β : Type} {body : (α → Option β) → α → Option β} {res : β} {P : α → Prop} (h : ∀ kont : α → Option β, (∀ a, kont a = some res → P a) → ∀ a, body kont a = some res → P a) : ∀ n a, lp body n a = some res → P a
  | 0, _, e => by cases e
  | n + 1, a, e => h (lp body n) (lp_W h n) a e
abbrev ib (i : Int32) (n : Nat) : Prop := 0 ≤ i.toInt ∧ i.toInt < n
theorem ib_vp {i : Int32} {n : Nat} (h : ib i n) : vp_in i n := vp_in_iff.mpr h
abbrev bo (x : Int32) : Prop := x = 0 ∨ x = 1
theorem bo_z {x : Int32} (h : bo x) : narrow .boolean (.int x) = .int x := by rcases h with rfl | rfl <;> rfl
theorem bo_f {x : Int32} (h : bo x) : fits .boolean (.int x) = true := by rcases h with rfl | rfl <;> rfl
theorem fw_g {c : Prop} {dc : Decidable c} {β : Type} {x : Option β} {res : β} (h : (@ite _ c dc x none) = some res) : c ∧ x = some res := by
  by_cases q : c
  · rw [if_pos q] at h; exact ⟨q, h⟩
  · rw [if_neg q] at h; cases h
theorem fw_t {c : Prop} {dc : Decidable c} {β : Type} {x y : Option β} {res : β} (q : c) (h : (@ite _ c dc x y) = some res) : x = some res := by rw [if_pos q] at h; exact h
theorem fw_f {c : Prop} {dc : Decidable c} {β : Type} {x y : Option β} {res : β} (q : ¬ c) (h : (@ite _ c dc x y) = some res) : y = some res := by rw [if_neg q] at h; exact h
noncomputable def rAd (ra : Nat → Nat) (e : Int32) : Option Nat := if 0 ≤ e.toInt ∧ e.toInt < 6 then some (ra (6 * e.toInt.toNat)) else none
theorem al_C (ws : va_W) : (List.range ws.length).map (fun i => ws[i]?) = ws.map some := by
  apply List.ext_getElem?
  intro i
  by_cases hi : i < ws.length
  · simp [hi]
  · simp [hi]
theorem al_nd1 : ∀ (n a : Nat), va_nd (List.range' a n) = true
  | 0, _ => rfl
  | n + 1, a => by
    rw [List.range'_succ]
    show (decide (a ∉ List.range' (a + 1) n) && va_nd (List.range' (a + 1) n)) = true
    rw [al_nd1 n (a + 1), Bool.and_true, decide_eq_true_eq]
    intro h
    have := List.mem_range'_1.mp h
    omega
theorem al_n (n : Nat) : va_nd (List.range n) = true ∧ va_nd [] = true ∧ ∀ i ∈ ([] : List Nat), i ∉ List.range n := ⟨by rw [List.range_eq_range']; exact al_nd1 n 0, rfl, fun i h => by cases h⟩
section FW

variable {p : Program} {l : Launch} {e : Env} {R : Room} {s : State} {m : MethodId} {args : Array Value} {below : List Frame} {meth : Method} {c : Code} {H : Heap} {locs : List Loc} {cells slots : Nat} {Q : State → Prop} {pc : Nat} {ls : Array Slot} {rest st0 As : List Value} {D : va_G} {k : Nat → ClassId} {A : Nat → Prop} {ws wc wr : va_W} {cc : ByteArray} {y : MethodName} {wd wd' Ts : List Cond} {rm : Room} {mc ms n index maxL nL : Nat} {bytes : ByteArray} {ret : Option FieldType} {own C host : String} {b : Nat} 
variable {E : (Nat → Prop) → State → Prop}
theorem fw_endI {β : Type} {rv : β → Int32} {wp : β → va_W} {res b : β} {v : Int32} (hx : p.tables.exec = Jvm.exec) (hb : c.code = cc) (hr : meth.sig.returnType = some .int) (hlocks : meth.locks = false) (h : some b = some res) (hv : v = rv b) (hP : va_P D vwCl (wp b) H) (hD : va_D A (wp b)) (hS : va_S A s.heap H locs) (hdg : decode cc pc = .ok (.ireturn, 1)) : W p l e R s m args below meth c H locs cells slots (MQ below (va_Qi (fun r (_ : Unit) => r = rv res) (hcB D (fun _ : Unit => wp res) A) A) args s cells slots A) (F0 m pc ls [.int v]) := by
  cases h
  exact hc_end hx hb hr hlocks () hv hP hD hS hdg
theorem fw_endZ {β : Type} {rv : β → Int32} {wp : β → va_W} {res b : β} {v : Int32} (hx : p.tables.exec = Jvm.exec) (hb : c.code = cc) (hr : meth.sig.returnType = some .boolean) (hlocks : meth.locks = false) (h : some b = some res) (hn : narrow .boolean (.int v) = .int v) (hv : v = rv b) (hP : va_P D vwCl (wp b) H) (hD : va_D A (wp b)) (hS : va_S A s.heap H locs) (hdg : decode cc pc = .ok (.ireturn, 1)) : W p l e R s m args below meth c H locs cells slots (MQ below (va_Qi (fun r (_ : Unit) => r = rv res) (hcB D (fun _ : Unit => wp res) A) A) args s cells slots A) (F0 m pc ls [.int v]) := by
  cases h
  exact hc_endZ hx hb hr hlocks hn () hv hP hD hS hdg
theorem fw_endL {β : Type} {rv : β → Int64} {wp : β → va_W} {res b : β} {v : Int64} (hx : p.tables.exec = Jvm.exec) (hb : c.code = cc) (hr : meth.sig.returnType = some .long) (hlocks : meth.locks = false) (h : some b = some res) (hv : v = rv b) (hP : va_P D vwCl (wp b) H) (hD : va_D A (wp b)) (hS : va_S A s.heap H locs) (hdg : decode cc pc = .ok (.lreturn, 1)) : W p l e R s m args below meth c H locs cells slots (MQ below (va_Ql (fun r (_ : Unit) => r = rv res) (hcB D (fun _ : Unit => wp res) A) A) args s cells slots A) (F0 m pc ls [.long v]) := by
  cases h
  exact hc_endL hx hb hr hlocks () hv hP hD hS hdg
theorem fw_endQ {β : Type} {rv : β → Int32} {wp : β → va_W} {res b : β} {ra : Nat → Nat} {cn : String} {v : Option Nat} (hx : p.tables.exec = Jvm.exec) (hb : c.code = cc) (hr : meth.sig.returnType = some (.object cn)) (hlocks : meth.locks = false) (h : some b = some res) (hv : v = rAd ra (rv b)) (hP : va_P D vwCl (wp b) H) (hD : va_D A (wp b)) (hS : va_S A s.heap H locs) (hdg : decode cc pc = .ok (.areturn, 1)) : W p l e R s m args below meth c H locs cells slots (MQ below (va_Qq (fun r (_ : Unit) => r = rAd ra (rv res)) (hcB D (fun _ : Unit => wp res) A) A) args s cells slots A) (F0 m pc ls [va_rf v]) := by
  cases h
  exact hc_endQ v hx hb hr hlocks () hv hP hD hS hdg
theorem fw_endV {β : Type} {wp : β → va_W} {res b : β} (hx : p.tables.exec = Jvm.exec) (hb : c.code = cc) (hr : meth.sig.returnType = none) (hlocks : meth.locks = false) (h : some b = some res) (hP : va_P D vwCl (wp b) H) (hD : va_D A (wp b)) (hS : va_S A s.heap H locs) (hdg : decode cc pc = .ok (.return_, 1)) : W p l e R s m args below meth c H locs cells slots (MQ below (va_Qv (fun _ : Unit => True) (hcB D (fun _ : Unit => wp res) A) A) args s cells slots A) (F0 m pc ls []) := by
  cases h
  exact hc_endV hx hb hr hlocks () trivial hP hD hS hdg
theorem fw_Vi {β γ : Type} {o : Option β} {g : β → Option γ} {res : γ} {rv : β → Int32} {wp : β → va_W} (h : o.bind g = some res) (hx : p.tables.exec = Jvm.exec) (hb : c.code = cc) (hml : c.maxLocals = nL) (hown : s.vm.findClass own = some m.cls) (hts : ∀ w ∈ Ts, w.before args s = true) (hG : GK D k s) (hA : ∀ q : Nat, s.heap.size ≤ q → A q) (hP : va_P D vwCl ws H) (hD : va_D A ws) (hS : va_S A s.heap H locs) (hsz : ls.size = nL)
    (isC isR : List Nat) (hM : ∀ q, o = some q → CtI l y wd rm (.ref b :: As) D k H.size wc (fun r (_ : Unit) => r = rv q) (fun _ : Unit => wp q) mc ms) {ci q0 : Nat} {q : vw_C} {fs : List Value} (hc : vwCl[ci]? = some q) (he : ws[q0]? = some (b, .inr (ci, fs))) (hg : GoodIn Ts (wsV own index q.1 y wd)) (hw : wd = Cond.code y bytes maxL ret :: wd') (hrc : rm.cells = mc ∧ rm.slots = ms ∧ rm.frames + 1 ≤ R.frames ∧ 8 + (maxL + 11) + rm.locals ≤ R.locals) (hd : y.cls = q.1 ∧ hcD y n)
    (hC : isC.map (fun i => ws[i]?) = wc.map some) (hR : isR.map (fun i => ws[i]?) = wr.map some) (hn : va_nd isC = true ∧ va_nd isR = true ∧ ∀ i ∈ isR, i ∉ isC) (hst : As.length = n ∧ st0 = As.reverse ++ .ref b :: rest ∧ (rest.map fun v => v.category).sum ≤ 8 ∧ cells + mc ≤ R.cells ∧ slots + ms ≤ R.slots) (hdg : decode cc pc = .ok (.invokevirtual index, 3))
    (kk : ∀ (q : β) (H : Heap) (locs : List Loc), g q = some res → va_P D vwCl (wr ++ wp q) H → va_D A (wr ++ wp q) → va_S A s.heap H locs → W p l e R s m args below meth c H locs (cells + mc) (slots + ms) Q (F0 m (pc + 3) ls (.int (rv q) :: rest))) : W p l e R s m args below meth c H locs cells slots Q (F0 m pc ls st0) := by
  cases ho : o with
  | none => rw [ho] at h; cases h
  | some q =>
    rw [ho] at h
    exact hc_Vi hx hb hml hown hts hG hA hP hD hS hsz isC isR (hM q ho) hc he hg hw hrc hd hC hR hn hst hdg (fun r u H locs hr hP hD hS => by obtain rfl : r = rv q := hr; exact kk q H locs h hP hD hS)
theorem fw_Vv {β γ : Type} {o : Option β} {g : β → Option γ} {res : γ} {wp : β → va_W} (h : o.bind g = some res) (hx : p.tables.exec = Jvm.exec) (hb : c.code = cc) (hml : c.maxLocals = nL) (hown : s.vm.findClass own = some m.cls) (hts : ∀ w ∈ Ts, w.before args s = true) (hG : GK D k s) (hA : ∀ q : Nat, s.heap.size ≤ q → A q) (hP : va_P D vwCl ws H) (hD : va_D A ws) (hS : va_S A s.heap H locs) (hsz : ls.size = nL)
    (isC isR : List Nat) (hM : ∀ q, o = some q → CtV l y wd rm (.ref b :: As) D k H.size wc (fun _ : Unit => True) (fun _ : Unit => wp q) mc ms) {ci q0 : Nat} {q : vw_C} {fs : List Value} (hc : vwCl[ci]? = some q) (he : ws[q0]? = some (b, .inr (ci, fs))) (hg : GoodIn Ts (wsV own index q.1 y wd)) (hw : wd = Cond.code y bytes maxL ret :: wd') (hrc : rm.cells = mc ∧ rm.slots = ms ∧ rm.frames + 1 ≤ R.frames ∧ 8 + (maxL + 11) + rm.locals ≤ R.locals) (hd : y.cls = q.1 ∧ hcD y n)
    (hC : isC.map (fun i => ws[i]?) = wc.map some) (hR : isR.map (fun i => ws[i]?) = wr.map some) (hn : va_nd isC = true ∧ va_nd isR = true ∧ ∀ i ∈ isR, i ∉ isC) (hst : As.length = n ∧ st0 = As.reverse ++ .ref b :: rest ∧ (rest.map fun v => v.category).sum ≤ 8 ∧ cells + mc ≤ R.cells ∧ slots + ms ≤ R.slots) (hdg : decode cc pc = .ok (.invokevirtual index, 3))
    (kk : ∀ (q : β) (H : Heap) (locs : List Loc), g q = some res → va_P D vwCl (wr ++ wp q) H → va_D A (wr ++ wp q) → va_S A s.heap H locs → W p l e R s m args below meth c H locs (cells + mc) (slots + ms) Q (F0 m (pc + 3) ls rest)) : W p l e R s m args below meth c H locs cells slots Q (F0 m pc ls st0) := by
  cases ho : o with
  | none => rw [ho] at h; cases h
  | some q =>
    rw [ho] at h
    exact hc_Vv hx hb hml hown hts hG hA hP hD hS hsz isC isR (hM q ho) hc he hg hw hrc hd hC hR hn hst hdg (fun u H locs _ hP hD hS => kk q H locs h hP hD hS)
theorem fw_Vl {β γ : Type} {o : Option β} {g : β → Option γ} {res : γ} {rv : β → Int64} {wp : β → va_W} (h : o.bind g = some res) (hx : p.tables.exec = Jvm.exec) (hb : c.code = cc) (hml : c.maxLocals = nL) (hown : s.vm.findClass own = some m.cls) (hts : ∀ w ∈ Ts, w.before args s = true) (hG : GK D k s) (hA : ∀ q : Nat, s.heap.size ≤ q → A q) (hP : va_P D vwCl ws H) (hD : va_D A ws) (hS : va_S A s.heap H locs) (hsz : ls.size = nL)
    (isC isR : List Nat) (hM : ∀ q, o = some q → CtL l y wd rm (.ref b :: As) D k H.size wc (fun r (_ : Unit) => r = rv q) (fun _ : Unit => wp q) mc ms) {ci q0 : Nat} {q : vw_C} {fs : List Value} (hc : vwCl[ci]? = some q) (he : ws[q0]? = some (b, .inr (ci, fs))) (hg : GoodIn Ts (wsV own index q.1 y wd)) (hw : wd = Cond.code y bytes maxL ret :: wd') (hrc : rm.cells = mc ∧ rm.slots = ms ∧ rm.frames + 1 ≤ R.frames ∧ 8 + (maxL + 11) + rm.locals ≤ R.locals) (hd : y.cls = q.1 ∧ hcD y n)
    (hC : isC.map (fun i => ws[i]?) = wc.map some) (hR : isR.map (fun i => ws[i]?) = wr.map some) (hn : va_nd isC = true ∧ va_nd isR = true ∧ ∀ i ∈ isR, i ∉ isC) (hst : As.length = n ∧ st0 = As.reverse ++ .ref b :: rest ∧ (rest.map fun v => v.category).sum ≤ 8 ∧ cells + mc ≤ R.cells ∧ slots + ms ≤ R.slots) (hdg : decode cc pc = .ok (.invokevirtual index, 3))
    (kk : ∀ (q : β) (H : Heap) (locs : List Loc), g q = some res → va_P D vwCl (wr ++ wp q) H → va_D A (wr ++ wp q) → va_S A s.heap H locs → W p l e R s m args below meth c H locs (cells + mc) (slots + ms) Q (F0 m (pc + 3) ls (.long (rv q) :: rest))) : W p l e R s m args below meth c H locs cells slots Q (F0 m pc ls st0) := by
  cases ho : o with
  | none => rw [ho] at h; cases h
  | some q =>
    rw [ho] at h
    exact hc_Vl hx hb hml hown hts hG hA hP hD hS hsz isC isR (hM q ho) hc he hg hw hrc hd hC hR hn hst hdg (fun r u H locs hr hP hD hS => by obtain rfl : r = rv q := hr; exact kk q H locs h hP hD hS)
theorem fw_Vq {β γ : Type} {o : Option β} {g : β → Option γ} {res : γ} {rv : β → Option Nat} {wp : β → va_W} (h : o.bind g = some res) (hx : p.tables.exec = Jvm.exec) (hb : c.code = cc) (hml : c.maxLocals = nL) (hown : s.vm.findClass own = some m.cls) (hts : ∀ w ∈ Ts, w.before args s = true) (hG : GK D k s) (hA : ∀ q : Nat, s.heap.size ≤ q → A q) (hP : va_P D vwCl ws H) (hD : va_D A ws) (hS : va_S A s.heap H locs) (hsz : ls.size = nL)
    (isC isR : List Nat) (hM : ∀ q, o = some q → CtQ l y wd rm (.ref b :: As) D k H.size wc (fun r (_ : Unit) => r = rv q) (fun _ : Unit => wp q) mc ms) {ci q0 : Nat} {q : vw_C} {fs : List Value} (hc : vwCl[ci]? = some q) (he : ws[q0]? = some (b, .inr (ci, fs))) (hg : GoodIn Ts (wsV own index q.1 y wd)) (hw : wd = Cond.code y bytes maxL ret :: wd') (hrc : rm.cells = mc ∧ rm.slots = ms ∧ rm.frames + 1 ≤ R.frames ∧ 8 + (maxL + 11) + rm.locals ≤ R.locals) (hd : y.cls = q.1 ∧ hcD y n)
    (hC : isC.map (fun i => ws[i]?) = wc.map some) (hR : isR.map (fun i => ws[i]?) = wr.map some) (hn : va_nd isC = true ∧ va_nd isR = true ∧ ∀ i ∈ isR, i ∉ isC) (hst : As.length = n ∧ st0 = As.reverse ++ .ref b :: rest ∧ (rest.map fun v => v.category).sum ≤ 8 ∧ cells + mc ≤ R.cells ∧ slots + ms ≤ R.slots) (hdg : decode cc pc = .ok (.invokevirtual index, 3))
    (kk : ∀ (q : β) (H : Heap) (locs : List Loc), g q = some res → va_P D vwCl (wr ++ wp q) H → va_D A (wr ++ wp q) → va_S A s.heap H locs → W p l e R s m args below meth c H locs (cells + mc) (slots + ms) Q (F0 m (pc + 3) ls (va_rf (rv q) :: rest))) : W p l e R s m args below meth c H locs cells slots Q (F0 m pc ls st0) := by
  cases ho : o with
  | none => rw [ho] at h; cases h
  | some q =>
    rw [ho] at h
    exact hc_Vq hx hb hml hown hts hG hA hP hD hS hsz isC isR (hM q ho) hc he hg hw hrc hd hC hR hn hst hdg (fun r u H locs hr hP hD hS => by obtain rfl : r = rv q := hr; exact kk q H locs h hP hD hS)
theorem fw_Si {β γ : Type} {o : Option β} {g : β → Option γ} {res : γ} {rv : β → Int32} {wp : β → va_W} (h : o.bind g = some res) (hx : p.tables.exec = Jvm.exec) (hb : c.code = cc) (hml : c.maxLocals = nL) (hown : s.vm.findClass own = some m.cls) (hts : ∀ w ∈ Ts, w.before args s = true) (hG : GK D k s) (hA : ∀ q : Nat, s.heap.size ≤ q → A q) (hP : va_P D vwCl ws H) (hD : va_D A ws) (hS : va_S A s.heap H locs) (hsz : ls.size = nL)
    (isC isR : List Nat) (hM : ∀ q, o = some q → CtI l y wd rm As D k H.size wc (fun r (_ : Unit) => r = rv q) (fun _ : Unit => wp q) mc ms) (hg : GoodIn Ts (va_wsS own index y wd)) (hw : wd = Cond.code y bytes maxL ret :: wd') (hrc : rm.cells = mc ∧ rm.slots = ms ∧ rm.frames + 1 ≤ R.frames ∧ 8 + (maxL + 11) + rm.locals ≤ R.locals) (hd : hcD y n)
    (hC : isC.map (fun i => ws[i]?) = wc.map some) (hR : isR.map (fun i => ws[i]?) = wr.map some) (hn : va_nd isC = true ∧ va_nd isR = true ∧ ∀ i ∈ isR, i ∉ isC) (hst : As.length = n ∧ st0 = As.reverse ++ rest ∧ (rest.map fun v => v.category).sum ≤ 8 ∧ cells + mc ≤ R.cells ∧ slots + ms ≤ R.slots) (hdg : decode cc pc = .ok (.invokestatic index, 3))
    (kk : ∀ (q : β) (H : Heap) (locs : List Loc), g q = some res → va_P D vwCl (wr ++ wp q) H → va_D A (wr ++ wp q) → va_S A s.heap H locs → W p l e R s m args below meth c H locs (cells + mc) (slots + ms) Q (F0 m (pc + 3) ls (.int (rv q) :: rest))) : W p l e R s m args below meth c H locs cells slots Q (F0 m pc ls st0) := by
  cases ho : o with
  | none => rw [ho] at h; cases h
  | some q =>
    rw [ho] at h
    exact hc_Si hx hb hml hown hts hG hA hP hD hS hsz isC isR (hM q ho) hg hw hrc hd hC hR hn hst hdg (fun r u H locs hr hP hD hS => by obtain rfl : r = rv q := hr; exact kk q H locs h hP hD hS)
theorem fw_Sv {β γ : Type} {o : Option β} {g : β → Option γ} {res : γ} {wp : β → va_W} (h : o.bind g = some res) (hx : p.tables.exec = Jvm.exec) (hb : c.code = cc) (hml : c.maxLocals = nL) (hown : s.vm.findClass own = some m.cls) (hts : ∀ w ∈ Ts, w.before args s = true) (hG : GK D k s) (hA : ∀ q : Nat, s.heap.size ≤ q → A q) (hP : va_P D vwCl ws H) (hD : va_D A ws) (hS : va_S A s.heap H locs) (hsz : ls.size = nL)
    (isC isR : List Nat) (hM : ∀ q, o = some q → CtV l y wd rm As D k H.size wc (fun _ : Unit => True) (fun _ : Unit => wp q) mc ms) (hg : GoodIn Ts (va_wsS own index y wd)) (hw : wd = Cond.code y bytes maxL ret :: wd') (hrc : rm.cells = mc ∧ rm.slots = ms ∧ rm.frames + 1 ≤ R.frames ∧ 8 + (maxL + 11) + rm.locals ≤ R.locals) (hd : hcD y n)
    (hC : isC.map (fun i => ws[i]?) = wc.map some) (hR : isR.map (fun i => ws[i]?) = wr.map some) (hn : va_nd isC = true ∧ va_nd isR = true ∧ ∀ i ∈ isR, i ∉ isC) (hst : As.length = n ∧ st0 = As.reverse ++ rest ∧ (rest.map fun v => v.category).sum ≤ 8 ∧ cells + mc ≤ R.cells ∧ slots + ms ≤ R.slots) (hdg : decode cc pc = .ok (.invokestatic index, 3))
    (kk : ∀ (q : β) (H : Heap) (locs : List Loc), g q = some res → va_P D vwCl (wr ++ wp q) H → va_D A (wr ++ wp q) → va_S A s.heap H locs → W p l e R s m args below meth c H locs (cells + mc) (slots + ms) Q (F0 m (pc + 3) ls rest)) : W p l e R s m args below meth c H locs cells slots Q (F0 m pc ls st0) := by
  cases ho : o with
  | none => rw [ho] at h; cases h
  | some q =>
    rw [ho] at h
    exact hc_Sv hx hb hml hown hts hG hA hP hD hS hsz isC isR (hM q ho) hg hw hrc hd hC hR hn hst hdg (fun u H locs _ hP hD hS => kk q H locs h hP hD hS)
theorem fw_Sl {β γ : Type} {o : Option β} {g : β → Option γ} {res : γ} {rv : β → Int64} {wp : β → va_W} (h : o.bind g = some res) (hx : p.tables.exec = Jvm.exec) (hb : c.code = cc) (hml : c.maxLocals = nL) (hown : s.vm.findClass own = some m.cls) (hts : ∀ w ∈ Ts, w.before args s = true) (hG : GK D k s) (hA : ∀ q : Nat, s.heap.size ≤ q → A q) (hP : va_P D vwCl ws H) (hD : va_D A ws) (hS : va_S A s.heap H locs) (hsz : ls.size = nL)
    (isC isR : List Nat) (hM : ∀ q, o = some q → CtL l y wd rm As D k H.size wc (fun r (_ : Unit) => r = rv q) (fun _ : Unit => wp q) mc ms) (hg : GoodIn Ts (va_wsS own index y wd)) (hw : wd = Cond.code y bytes maxL ret :: wd') (hrc : rm.cells = mc ∧ rm.slots = ms ∧ rm.frames + 1 ≤ R.frames ∧ 8 + (maxL + 11) + rm.locals ≤ R.locals) (hd : hcD y n)
    (hC : isC.map (fun i => ws[i]?) = wc.map some) (hR : isR.map (fun i => ws[i]?) = wr.map some) (hn : va_nd isC = true ∧ va_nd isR = true ∧ ∀ i ∈ isR, i ∉ isC) (hst : As.length = n ∧ st0 = As.reverse ++ rest ∧ (rest.map fun v => v.category).sum ≤ 8 ∧ cells + mc ≤ R.cells ∧ slots + ms ≤ R.slots) (hdg : decode cc pc = .ok (.invokestatic index, 3))
    (kk : ∀ (q : β) (H : Heap) (locs : List Loc), g q = some res → va_P D vwCl (wr ++ wp q) H → va_D A (wr ++ wp q) → va_S A s.heap H locs → W p l e R s m args below meth c H locs (cells + mc) (slots + ms) Q (F0 m (pc + 3) ls (.long (rv q) :: rest))) : W p l e R s m args below meth c H locs cells slots Q (F0 m pc ls st0) := by
  cases ho : o with
  | none => rw [ho] at h; cases h
  | some q =>
    rw [ho] at h
    exact hc_Sl hx hb hml hown hts hG hA hP hD hS hsz isC isR (hM q ho) hg hw hrc hd hC hR hn hst hdg (fun r u H locs hr hP hD hS => by obtain rfl : r = rv q := hr; exact kk q H locs h hP hD hS)
theorem fw_ViE {β γ : Type} {o : Option β} {g : β → Option γ} {res : γ} {rv : β → Int32} {wp : β → va_W} (h : o.bind g = some res) (hE : EOk E) (hT : E A s) (hx : p.tables.exec = Jvm.exec) (hb : c.code = cc) (hml : c.maxLocals = nL) (hown : s.vm.findClass own = some m.cls) (hts : ∀ w ∈ Ts, w.before args s = true) (hG : GK D k s) (hA : ∀ q : Nat, s.heap.size ≤ q → A q) (hP : va_P D vwCl ws H) (hD : va_D A ws) (hS : va_S A s.heap H locs) (hsz : ls.size = nL)
    (isC isR : List Nat) (hM : ∀ q, o = some q → CtIE l y wd rm (.ref b :: As) D k E H.size wc (fun r (_ : Unit) => r = rv q) (fun _ : Unit => wp q) mc ms) (hrv : ∃ cellB : Cell, H[b]? = some cellB ∧ cellB.vm.isStatics = false ∧ s.vm.findClass C = some cellB.cls) (hg : GoodIn Ts (wsV own index C y wd)) (hw : wd = Cond.code y bytes maxL ret :: wd') (hrc : rm.cells = mc ∧ rm.slots = ms ∧ rm.frames + 1 ≤ R.frames ∧ 8 + (maxL + 11) + rm.locals ≤ R.locals) (hd : y.cls = C ∧ hcD y n)
    (hC : isC.map (fun i => ws[i]?) = wc.map some) (hR : isR.map (fun i => ws[i]?) = wr.map some) (hn : va_nd isC = true ∧ va_nd isR = true ∧ ∀ i ∈ isR, i ∉ isC) (hst : As.length = n ∧ st0 = As.reverse ++ .ref b :: rest ∧ (rest.map fun v => v.category).sum ≤ 8 ∧ cells + mc ≤ R.cells ∧ slots + ms ≤ R.slots) (hdg : decode cc pc = .ok (.invokevirtual index, 3))
    (kk : ∀ (q : β) (H : Heap) (locs : List Loc), g q = some res → va_P D vwCl (wr ++ wp q) H → va_D A (wr ++ wp q) → va_S A s.heap H locs → W p l e R s m args below meth c H locs (cells + mc) (slots + ms) Q (F0 m (pc + 3) ls (.int (rv q) :: rest))) : W p l e R s m args below meth c H locs cells slots Q (F0 m pc ls st0) := by
  cases ho : o with
  | none => rw [ho] at h; cases h
  | some q =>
    rw [ho] at h
    exact hc_ViE hE hT hx hb hml hown hts hG hA hP hD hS hsz isC isR (hM q ho) hrv hg hw hrc hd hC hR hn hst hdg (fun r u H locs hr hP hD hS => by obtain rfl : r = rv q := hr; exact kk q H locs h hP hD hS)
theorem fw_VvE {β γ : Type} {o : Option β} {g : β → Option γ} {res : γ} {wp : β → va_W} (h : o.bind g = some res) (hE : EOk E) (hT : E A s) (hx : p.tables.exec = Jvm.exec) (hb : c.code = cc) (hml : c.maxLocals = nL) (hown : s.vm.findClass own = some m.cls) (hts : ∀ w ∈ Ts, w.before args s = true) (hG : GK D k s) (hA : ∀ q : Nat, s.heap.size ≤ q → A q) (hP : va_P D vwCl ws H) (hD : va_D A ws) (hS : va_S A s.heap H locs) (hsz : ls.size = nL)
    (isC isR : List Nat) (hM : ∀ q, o = some q → CtVE l y wd rm (.ref b :: As) D k E H.size wc (fun _ : Unit => True) (fun _ : Unit => wp q) mc ms) (hrv : ∃ cellB : Cell, H[b]? = some cellB ∧ cellB.vm.isStatics = false ∧ s.vm.findClass C = some cellB.cls) (hg : GoodIn Ts (wsV own index C y wd)) (hw : wd = Cond.code y bytes maxL ret :: wd') (hrc : rm.cells = mc ∧ rm.slots = ms ∧ rm.frames + 1 ≤ R.frames ∧ 8 + (maxL + 11) + rm.locals ≤ R.locals) (hd : y.cls = C ∧ hcD y n)
    (hC : isC.map (fun i => ws[i]?) = wc.map some) (hR : isR.map (fun i => ws[i]?) = wr.map some) (hn : va_nd isC = true ∧ va_nd isR = true ∧ ∀ i ∈ isR, i ∉ isC) (hst : As.length = n ∧ st0 = As.reverse ++ .ref b :: rest ∧ (rest.map fun v => v.category).sum ≤ 8 ∧ cells + mc ≤ R.cells ∧ slots + ms ≤ R.slots) (hdg : decode cc pc = .ok (.invokevirtual index, 3))
    (kk : ∀ (q : β) (H : Heap) (locs : List Loc), g q = some res → va_P D vwCl (wr ++ wp q) H → va_D A (wr ++ wp q) → va_S A s.heap H locs → W p l e R s m args below meth c H locs (cells + mc) (slots + ms) Q (F0 m (pc + 3) ls rest)) : W p l e R s m args below meth c H locs cells slots Q (F0 m pc ls st0) := by
  cases ho : o with
  | none => rw [ho] at h; cases h
  | some q =>
    rw [ho] at h
    exact hc_VvE hE hT hx hb hml hown hts hG hA hP hD hS hsz isC isR (hM q ho) hrv hg hw hrc hd hC hR hn hst hdg (fun u H locs _ hP hD hS => kk q H locs h hP hD hS)
theorem fw_SiE {β γ : Type} {o : Option β} {g : β → Option γ} {res : γ} {rv : β → Int32} {wp : β → va_W} (h : o.bind g = some res) (hE : EOk E) (hT : E A s) (hx : p.tables.exec = Jvm.exec) (hb : c.code = cc) (hml : c.maxLocals = nL) (hown : s.vm.findClass own = some m.cls) (hts : ∀ w ∈ Ts, w.before args s = true) (hG : GK D k s) (hA : ∀ q : Nat, s.heap.size ≤ q → A q) (hP : va_P D vwCl ws H) (hD : va_D A ws) (hS : va_S A s.heap H locs) (hsz : ls.size = nL)
    (isC isR : List Nat) (hM : ∀ q, o = some q → CtIE l y wd rm As D k E H.size wc (fun r (_ : Unit) => r = rv q) (fun _ : Unit => wp q) mc ms) (hg : GoodIn Ts (va_wsS own index y wd)) (hw : wd = Cond.code y bytes maxL ret :: wd') (hrc : rm.cells = mc ∧ rm.slots = ms ∧ rm.frames + 1 ≤ R.frames ∧ 8 + (maxL + 11) + rm.locals ≤ R.locals) (hd : hcD y n)
    (hC : isC.map (fun i => ws[i]?) = wc.map some) (hR : isR.map (fun i => ws[i]?) = wr.map some) (hn : va_nd isC = true ∧ va_nd isR = true ∧ ∀ i ∈ isR, i ∉ isC) (hst : As.length = n ∧ st0 = As.reverse ++ rest ∧ (rest.map fun v => v.category).sum ≤ 8 ∧ cells + mc ≤ R.cells ∧ slots + ms ≤ R.slots) (hdg : decode cc pc = .ok (.invokestatic index, 3))
    (kk : ∀ (q : β) (H : Heap) (locs : List Loc), g q = some res → va_P D vwCl (wr ++ wp q) H → va_D A (wr ++ wp q) → va_S A s.heap H locs → W p l e R s m args below meth c H locs (cells + mc) (slots + ms) Q (F0 m (pc + 3) ls (.int (rv q) :: rest))) : W p l e R s m args below meth c H locs cells slots Q (F0 m pc ls st0) := by
  cases ho : o with
  | none => rw [ho] at h; cases h
  | some q =>
    rw [ho] at h
    exact hc_SiE hE hT hx hb hml hown hts hG hA hP hD hS hsz isC isR (hM q ho) hg hw hrc hd hC hR hn hst hdg (fun r u H locs hr hP hD hS => by obtain rfl : r = rv q := hr; exact kk q H locs h hP hD hS)
end FW
theorem al_m (n : Nat) : va_nd [] = true ∧ va_nd (List.range n) = true ∧ ∀ i ∈ List.range n, i ∉ ([] : List Nat) := ⟨rfl, (al_n n).1, fun i _ h => by cases h⟩
theorem al_r (n : Nat) : va_nd (List.range n) = true := (al_n n).1
end
section
/-! a world in another form: both facts at once -/
theorem cv {D : va_G} {cl : List vw_C} {H : Heap} {A : Nat → Prop} {w w' : va_W} (hP : va_P D cl w H) (hD : va_D A w) (e : w = w') : va_P D cl w' H ∧ va_D A w' := by
  subst e
  exact ⟨hP, hD⟩
theorem cvs {D : va_G} {cl : List vw_C} {H : Heap} {A : Nat → Prop} {w w' : va_W} (hP : va_P D cl w H) (hD : va_D A w) (is : List Nat) (hn : va_nd is = true) (e : is.map (fun i => w[i]?) = w'.map some) : va_P D cl w' H ∧ va_D A w' := by
  refine ⟨hP.sub is ?_, hD.sub is hn e⟩
  have h := congrArg (List.filterMap id) e
  simpa [List.filterMap_map] using h
end
section
/-! worlds in pieces -/
section QMT
variable {D : va_G} {cl : List vw_C} {H : Heap} {A : Nat → Prop} {w1 w2 : va_W}
theorem qm_P (p : w1.Perm w2) (h : va_P D cl w1 H) : va_P D cl w2 H := fun k q hk => by
  obtain ⟨j, hj⟩ := List.mem_iff_getElem?.mp (p.mem_iff.mpr (List.mem_of_getElem? hk))
  exact h j q hj
theorem qm_n : (∀ (i j : Nat) (p q : Nat × va_E), w1[i]? = some p → w1[j]? = some q → p.1 = q.1 → i = j) ↔ List.Pairwise (fun p q : Nat × va_E => p.1 ≠ q.1) w1 := by
  rw [List.pairwise_iff_getElem]
  constructor
  · intro h i j hi hj hij e
    have := h i j _ _ (List.getElem?_eq_getElem hi) (List.getElem?_eq_getElem hj) e
    omega
  · intro h i j p q hp hq e
    obtain ⟨hi, ei⟩ := List.getElem?_eq_some_iff.mp hp
    obtain ⟨hj, ej⟩ := List.getElem?_eq_some_iff.mp hq
    rcases Nat.lt_trichotomy i j with u | u | u
    · have := h i j hi hj u
      rw [ei, ej] at this
      exact absurd e this
    · exact u
    · have := h j i hj hi u
      rw [ei, ej] at this
      exact absurd e.symm this
theorem qm_D (p : w1.Perm w2) (h : va_D A w1) : va_D A w2 := by
  refine ⟨qm_n.mpr ((p.pairwise_iff (fun {x y} (z : x.1 ≠ y.1) => Ne.symm z)).mp (qm_n.mp h.1)), fun k q hk => ?_⟩
  obtain ⟨j, hj⟩ := List.mem_iff_getElem?.mp (p.mem_iff.mpr (List.mem_of_getElem? hk))
  exact h.2 j q hj
theorem qm (hP : va_P D cl w1 H) (hD : va_D A w1) (p : w1.Perm w2) : va_P D cl w2 H ∧ va_D A w2 := ⟨qm_P p hP, qm_D p hD⟩
end QMT
theorem q_nd0 {l : List Nat} (h : l.Nodup) : va_nd l = true := by
  induction l with
  | nil => rfl
  | cons a l ih =>
    rw [List.nodup_cons] at h
    simp only [va_nd, Bool.and_eq_true, decide_eq_true_eq]
    exact ⟨h.1, ih h.2⟩
theorem q_l {α : Type} (w1 w2 : List α) : (List.range w1.length).map (fun i => (w1 ++ w2)[i]?) = w1.map some := by
  apply List.ext_getElem?
  intro i
  by_cases hi : i < w1.length
  · simp [List.getElem?_append_left hi, hi]
  · simp [hi]
theorem q_r {α : Type} (w1 w2 : List α) : (List.range' w1.length w2.length).map (fun i => (w1 ++ w2)[i]?) = w2.map some := by
  apply List.ext_getElem?
  intro i
  by_cases hi : i < w2.length
  · simp [hi, List.getElem?_append_right]
  · simp [hi]
theorem q_nd (n m : Nat) : va_nd (List.range n) = true ∧ va_nd (List.range' n m) = true ∧ ∀ i ∈ List.range' n m, i ∉ List.range n := by
  refine ⟨q_nd0 List.nodup_range, q_nd0 List.nodup_range', fun i h z => ?_⟩
  have := List.mem_range'_1.mp h
  have := List.mem_range.mp z
  omega
theorem q_nd2 (n m : Nat) : va_nd (List.range' n m) = true ∧ va_nd (List.range n) = true ∧ ∀ i ∈ List.range n, i ∉ List.range' n m := by
  refine ⟨q_nd0 List.nodup_range', q_nd0 List.nodup_range, fun i h z => ?_⟩
  have := List.mem_range'_1.mp z
  have := List.mem_range.mp h
  omega
noncomputable def qt (f : Nat → va_W) : List Nat → va_W
  | [] => []
  | [i] => f i
  | i :: j :: l => f i ++ qt f (j :: l)
theorem qt_fm (f : Nat → va_W) : ∀ l, qt f l = l.flatMap f
  | [] => rfl
  | [i] => by simp [qt]
  | i :: j :: l => by
    show f i ++ qt f (j :: l) = _
    rw [qt_fm f (j :: l)]
    exact List.flatMap_cons.symm
noncomputable def ql (us : List va_W) (l : List Nat) : va_W := qt (fun i => us.getD i []) l
theorem q_to (us : List va_W) (is isC isR : List Nat) (h : is.Perm (isC ++ isR)) : (ql us is).Perm (ql us isC ++ ql us isR) := by
  unfold ql
  rw [qt_fm, qt_fm, qt_fm, ← List.flatMap_append]
  exact h.flatMap_right _
theorem q_from (us : List va_W) (isR isC is : List Nat) (h : (isR ++ isC).Perm is) : (ql us isR ++ ql us isC).Perm (ql us is) := by
  unfold ql
  rw [qt_fm, qt_fm, qt_fm, ← List.flatMap_append]
  exact h.flatMap_right _
end
