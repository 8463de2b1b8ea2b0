/-! what every contract here rests on: one world a method, the tables' facts in one bundle -/
noncomputable abbrev tysA (k : Nat → ClassId) : List (ClassId × FieldType) := [(k 0, .int), (k 1, .byte), (k 2, .boolean), (k 3, .long), (k 4, .object RX4), (k 5, .object RX6)]
noncomputable abbrev vwCl : List vw_C := [(RX0, TX0, 5), (RX2, TX2, 4), (RX3, TX3, 17), (RX4, TX4, 8), (RX6, TX6, 5), (RX7, TX7, 8), (RX8, TX8, 12), (RX9, TX9, 53)]
noncomputable def hcN (U : State) : Prop := va_Nw (.methodLinkNest RX8 9 yX7_init RX8) U ∧ va_Nw (.methodLinkNest RX8 28 yX6_init RX8) U ∧ va_Nw (.methodLinkNest RX6 11 yX3_init RX8) U ∧ va_Nw (.methodLinkNest RX6 20 yX0_init RX8) U ∧ va_Nw (.methodLinkNest RX6 27 yX2_init RX8) U ∧ va_Nw (.methodLinkNest RX8 43 yX3_init RX8) U ∧ va_Nw (.methodLinkNest RX8 64 yX4_init RX8) U
noncomputable def GK (D : va_G) (k : Nat → ClassId) (U : State) : Prop := va_K D vwCl (tysA k) U ∧ va_AO RX4 U ∧ va_AO RX6 U ∧ hcN U
theorem hcN.warm {s U : State} (hW : s.WarmedH U.vm) (h : hcN s) : hcN U := ⟨va_Nw.warmM hW h.1, va_Nw.warmM hW h.2.1, va_Nw.warmM hW h.2.2.1, va_Nw.warmM hW h.2.2.2.1, va_Nw.warmM hW h.2.2.2.2.1, va_Nw.warmM hW h.2.2.2.2.2.1, va_Nw.warmM hW h.2.2.2.2.2.2⟩
theorem hcN.same {s U : State} (hW : s.vm = U.vm) (h : hcN s) : hcN U := ⟨va_Nw.same rfl hW h.1, va_Nw.same rfl hW h.2.1, va_Nw.same rfl hW h.2.2.1, va_Nw.same rfl hW h.2.2.2.1, va_Nw.same rfl hW h.2.2.2.2.1, va_Nw.same rfl hW h.2.2.2.2.2.1, va_Nw.same rfl hW h.2.2.2.2.2.2⟩
theorem GK.warm {D : va_G} {k : Nat → ClassId} {s U : State} (hW : s.WarmedH U.vm) (h : GK D k s) : GK D k U := ⟨va_K.moved hW.alike h.1, va_AO.moved hW.alike h.2.1, va_AO.moved hW.alike h.2.2.1, h.2.2.2.warm hW⟩
theorem GK.call {D : va_G} {k : Nat → ClassId} {U : State} {g : JFrame} {mk : MethodId} {a : Array Value} (h : GK D k U) : GK D k (U.calling g mk a) := ⟨va_K.moved (u := U) (U := U.calling g mk a) (Vm.Alike.refl U.vm) h.1, va_AO.moved (u := U) (U := U.calling g mk a) (Vm.Alike.refl U.vm) h.2.1, va_AO.moved (u := U) (U := U.calling g mk a) (Vm.Alike.refl U.vm) h.2.2.1, hcN.same (s := U) (U := U.calling g mk a) rfl h.2.2.2⟩
noncomputable abbrev rmK (d mc ms : Nat) : Room := { frames := d, cells := mc, slots := ms, locals := 64 * d }
abbrev hcB (D : va_G) {S : Type} (wp : S → va_W) (A : Nat → Prop) : S → State → Prop := fun u t => va_P D vwCl (wp u) t.heap ∧ va_D A (wp u)
noncomputable abbrev hcP (D : va_G) (k : Nat → ClassId) (sz : Nat) (ws : va_W) : State → Prop := fun U => U.heap.size = sz ∧ va_P D vwCl ws U.heap ∧ GK D k U ∧ va_D (fun _ => True) ws
noncomputable def CtV (l : Launch) (y : MethodName) (wd : List Cond) (rm : Room) (av : List Value) (D : va_G) (k : Nat → ClassId) (sz : Nat) (ws : va_W) {S : Type} (post : S → Prop) (wp : S → va_W) (mc ms : Nat) : Prop := Met l y wd rm (va_Pc av (hcP D k sz ws)) (va_Qv post (hcB D wp (va_A ws sz)) (va_A ws sz)) mc ms (va_A ws sz)
noncomputable def CtI (l : Launch) (y : MethodName) (wd : List Cond) (rm : Room) (av : List Value) (D : va_G) (k : Nat → ClassId) (sz : Nat) (ws : va_W) {S : Type} (post : Int32 → S → Prop) (wp : S → va_W) (mc ms : Nat) : Prop := Met l y wd rm (va_Pc av (hcP D k sz ws)) (va_Qi post (hcB D wp (va_A ws sz)) (va_A ws sz)) mc ms (va_A ws sz)
/-- what holds all along a method's walk -/
noncomputable def En (p : Program) (s : State) (m : MethodId) (args : Array Value) (meth : Method) (c : Code) (y : MethodName) (cc : ByteArray) (ret : Option FieldType) (maxL : Nat) (wd : List Cond) (D : va_G) (k : Nat → ClassId) (A : Nat → Prop) : Prop := p.tables.exec = Jvm.exec ∧ c.code = cc ∧ meth.sig.returnType = ret ∧ c.maxLocals = maxL ∧ s.vm.findClass y.cls = some m.cls ∧ (∀ w ∈ wd, w.before args s = true) ∧ meth.locks = false ∧ meth.name = y.name ∧ GK D k s ∧ ∀ q : Nat, s.heap.size ≤ q → A q
theorem CtI.mk {l : Launch} {y : MethodName} {wd wd' : List Cond} {rm : Room} {av : List Value} {D : va_G} {k : Nat → ClassId} {sz : Nat} {ws : va_W} {S : Type} {post : Int32 → S → Prop} {wp : S → va_W} {mc ms : Nat} {cc : ByteArray} {maxL : Nat} {ret : Option FieldType} (hy : plainName y.cls = true) (hw : wd = Cond.code y cc maxL ret :: wd') (hlv : (lg_sl av).length ≤ maxL)
    (body : ∀ (p : Program) (e : Env) (s : State) (m : MethodId) (below : List Frame) (meth : Method) (c : Code) (A : Nat → Prop) (ls : Array Slot), En p s m av.toArray meth c y cc ret maxL wd D k A → va_P D vwCl ws s.heap → va_D A ws → va_S A s.heap s.heap [] → lv_has ls maxL (lv_args 0 av) → W p l e rm s m av.toArray below meth c s.heap [] 0 0 (MQ below (va_Qi post (hcB D wp A) A) av.toArray s mc ms A) (F0 m 0 ls [])) : CtI l y wd rm av D k sz ws post wp mc ms := by
  refine Met.ofW (cc := cc) (maxL := maxL) (ret := ret) hy hw ?_
  intro p e s m args below meth c s₁ B hml hv
  obtain ⟨rfl, hsz, hP, hG, hD0⟩ := hv
  subst hsz
  have hts := atoms_spec (ws := wd) B.pre
  have hl := lv_entry av (n := maxL) hlv
  rw [lg_entry_eq]
  exact body p e s m below meth c (va_A ws s.heap.size) _ ⟨B.exec, B.bytes, B.returns, hml, findClass_of_methodNamed B.named, hts, B.notSynchronized, (name_of_methodNamed B.named B.method).1, hG, fun q h => Or.inr h⟩ hP (hD0.self (sz := s.heap.size)) va_S.rf hl
theorem CtV.mk {l : Launch} {y : MethodName} {wd wd' : List Cond} {rm : Room} {av : List Value} {D : va_G} {k : Nat → ClassId} {sz : Nat} {ws : va_W} {S : Type} {post : S → Prop} {wp : S → va_W} {mc ms : Nat} {cc : ByteArray} {maxL : Nat} {ret : Option FieldType} (hy : plainName y.cls = true) (hw : wd = Cond.code y cc maxL ret :: wd') (hlv : (lg_sl av).length ≤ maxL)
    (body : ∀ (p : Program) (e : Env) (s : State) (m : MethodId) (below : List Frame) (meth : Method) (c : Code) (A : Nat → Prop) (ls : Array Slot), En p s m av.toArray meth c y cc ret maxL wd D k A → va_P D vwCl ws s.heap → va_D A ws → va_S A s.heap s.heap [] → lv_has ls maxL (lv_args 0 av) → W p l e rm s m av.toArray below meth c s.heap [] 0 0 (MQ below (va_Qv post (hcB D wp A) A) av.toArray s mc ms A) (F0 m 0 ls [])) : CtV l y wd rm av D k sz ws post wp mc ms := by
  refine Met.ofW (cc := cc) (maxL := maxL) (ret := ret) hy hw ?_
  intro p e s m args below meth c s₁ B hml hv
  obtain ⟨rfl, hsz, hP, hG, hD0⟩ := hv
  subst hsz
  have hts := atoms_spec (ws := wd) B.pre
  have hl := lv_entry av (n := maxL) hlv
  rw [lg_entry_eq]
  exact body p e s m below meth c (va_A ws s.heap.size) _ ⟨B.exec, B.bytes, B.returns, hml, findClass_of_methodNamed B.named, hts, B.notSynchronized, (name_of_methodNamed B.named B.method).1, hG, fun q h => Or.inr h⟩ hP (hD0.self (sz := s.heap.size)) va_S.rf hl
theorem hc_fm {α β : Type} (f : α → Option β) : ∀ (l : List α) (w : List β), l.map f = w.map some → l.filterMap f = w
  | [], w, h => by cases w with
    | nil => rfl
    | cons b w => simp at h
  | a :: l, w, h => by cases w with
    | nil => simp at h
    | cons b w =>
      simp only [List.map_cons, List.cons.injEq] at h
      rw [List.filterMap_cons, h.1, hc_fm f l w h.2]
section HC
variable {p : Program} {l : Launch} {e : Env} {R : Room} {s : State} {m : MethodId} {args : Array Value} {below : List Frame} {meth : Method} {c : Code} {H : Heap} {locs : List Loc} {cells slots : Nat} {Q : State → Prop} {pc : Nat} {ls : Array Slot} {rest st0 As : List Value} {D : va_G} {k : Nat → ClassId} {A : Nat → Prop} {ws wc wr : va_W} {cc : ByteArray} {y : MethodName} {wd wd' Ts : List Cond} {rm : Room} {mc ms n index maxL nL : Nat} {bytes : ByteArray} {ret : Option FieldType} {own C host : String} {b : Nat}
/-- the end of a method that answers an int -/
theorem hc_end {S : Type} {post : Int32 → S → Prop} {wp : S → va_W} {v : Int32} (hx : p.tables.exec = Jvm.exec) (hb : c.code = cc) (hr : meth.sig.returnType = some .int) (hlocks : meth.locks = false) (u : S) (hpost : post v u) (hP : va_P D vwCl (wp u) H) (hD : va_D A (wp u)) (hS : va_S A s.heap H locs) (hdg : decode cc pc = .ok (.ireturn, 1)) : W p l e R s m args below meth c H locs cells slots (MQ below (va_Qi post (hcB D wp A) A) args s cells slots A) (F0 m pc ls [.int v]) :=
  W.iret hx hb hr (fun t ht hW => ⟨⟨v, u, rfl, hpost, by rw [ht]; exact hP, hD⟩, hS.F ht⟩) hS.2.2 hdg hlocks
theorem hc_endZ {S : Type} {post : Int32 → S → Prop} {wp : S → va_W} {v : Int32} (hx : p.tables.exec = Jvm.exec) (hb : c.code = cc) (hr : meth.sig.returnType = some .boolean) (hlocks : meth.locks = false) (hn : narrow .boolean (.int v) = .int v) (u : S) (hpost : post v u) (hP : va_P D vwCl (wp u) H) (hD : va_D A (wp u)) (hS : va_S A s.heap H locs) (hdg : decode cc pc = .ok (.ireturn, 1)) : W p l e R s m args below meth c H locs cells slots (MQ below (va_Qi post (hcB D wp A) A) args s cells slots A) (F0 m pc ls [.int v]) :=
  W.zret hx hb hr hn (fun t ht hW => ⟨⟨v, u, rfl, hpost, by rw [ht]; exact hP, hD⟩, hS.F ht⟩) hS.2.2 hdg hlocks
theorem hc_endV {S : Type} {post : S → Prop} {wp : S → va_W} (hx : p.tables.exec = Jvm.exec) (hb : c.code = cc) (hr : meth.sig.returnType = none) (hlocks : meth.locks = false) (u : S) (hpost : post u) (hP : va_P D vwCl (wp u) H) (hD : va_D A (wp u)) (hS : va_S A s.heap H locs) (hdg : decode cc pc = .ok (.return_, 1)) : W p l e R s m args below meth c H locs cells slots (MQ below (va_Qv post (hcB D wp A) A) args s cells slots A) (F0 m pc ls []) :=
  W.vret hx hb hr (fun t ht hW => ⟨⟨u, rfl, hpost, by rw [ht]; exact hP, hD⟩, hS.F ht⟩) hS.2.2 hdg hlocks
/-- a callee's start, out of the caller's cells -/
theorem hc_pS (hG : GK D k s) (hP : va_P D vwCl ws H) (hD : va_D A ws) (isC : List Nat) (hC : isC.map (fun i => ws[i]?) = wc.map some) (hn : va_nd isC = true) : PreS s H (va_Pc As (hcP D k H.size wc)) As :=
  ⟨fun a U g mk q => by obtain ⟨q0, q1, q2, q3, q4⟩ := q; exact ⟨q0, q1, q2, q3.call, q4⟩, fun U hU hW => ⟨rfl, by rw [hU], by rw [hU]; exact hP.sub isC (hc_fm _ _ _ hC), hG.warm hW, (hD.sub isC hn hC).weaken (fun _ _ _ _ => trivial)⟩⟩
theorem hc_pV (hG : GK D k s) (hP : va_P D vwCl ws H) (hD : va_D A ws) (isC : List Nat) (hC : isC.map (fun i => ws[i]?) = wc.map some) (hn : va_nd isC = true) {ci q0 : Nat} {q : vw_C} {fs : List Value} (hc : vwCl[ci]? = some q) (he : ws[q0]? = some (b, .inr (ci, fs))) : PreV s H q.1 b (va_Pc (.ref b :: As) (hcP D k H.size wc)) As :=
  ⟨(hc_pS (As := .ref b :: As) hG hP hD isC hC hn).1, va_recv hG.1 hP hc he, (hc_pS (As := .ref b :: As) hG hP hD isC hC hn).2⟩
theorem hc_i {S : Type} {post : Int32 → S → Prop} {wp : S → va_W} {a : Array Value} (hr : va_Run p l e R s m args below meth c H locs cells slots mc ms (F0 m pc ls st0) rest (va_Qi post (hcB D wp (va_A wc H.size)) (va_A wc H.size) a) (va_A wc H.size)) (hA : ∀ q : Nat, s.heap.size ≤ q → A q) (hP : va_P D vwCl ws H) (hD : va_D A ws) (hS : va_S A s.heap H locs) (isC isR : List Nat) (hC : isC.map (fun i => ws[i]?) = wc.map some) (hR : isR.map (fun i => ws[i]?) = wr.map some) (hn : va_nd isR = true) (hdis : ∀ i ∈ isR, i ∉ isC)
    (kk : ∀ (r : Int32) (u : S) (H : Heap) (locs : List Loc), post r u → va_P D vwCl (wr ++ wp u) H → va_D A (wr ++ wp u) → va_S A s.heap H locs → W p l e R s m args below meth c H locs (cells + mc) (slots + ms) Q (F0 m (pc + 3) ls (.int r :: rest))) : W p l e R s m args below meth c H locs cells slots Q (F0 m pc ls st0) := by
  have hFc := va_free (wc := wc) hD hS hA isC hC
  refine va_calli hr hS (fun q _ h => hFc q h) hFc (fun r u t H1 locs ht hvm hw hB hz1 hk1 hS => ?_)
  obtain ⟨hP1, hD1⟩ := hB
  rw [ht] at hP1
  obtain ⟨hP, hD⟩ := va_join (wr := wr) (w1 := wp u) hP hD isC isR hC hR hn hdis hk1 hFc hP1 hD1
  exact kk r u H1 locs hw hP hD hS
theorem hc_v {S : Type} {post : S → Prop} {wp : S → va_W} {a : Array Value} (hr : va_Run p l e R s m args below meth c H locs cells slots mc ms (F0 m pc ls st0) rest (va_Qv post (hcB D wp (va_A wc H.size)) (va_A wc H.size) a) (va_A wc H.size)) (hA : ∀ q : Nat, s.heap.size ≤ q → A q) (hP : va_P D vwCl ws H) (hD : va_D A ws) (hS : va_S A s.heap H locs) (isC isR : List Nat) (hC : isC.map (fun i => ws[i]?) = wc.map some) (hR : isR.map (fun i => ws[i]?) = wr.map some) (hn : va_nd isR = true) (hdis : ∀ i ∈ isR, i ∉ isC)
    (kk : ∀ (u : S) (H : Heap) (locs : List Loc), post u → va_P D vwCl (wr ++ wp u) H → va_D A (wr ++ wp u) → va_S A s.heap H locs → W p l e R s m args below meth c H locs (cells + mc) (slots + ms) Q (F0 m (pc + 3) ls rest)) : W p l e R s m args below meth c H locs cells slots Q (F0 m pc ls st0) := by
  have hFc := va_free (wc := wc) hD hS hA isC hC
  refine va_callv hr hS (fun q _ h => hFc q h) hFc (fun u t H1 locs ht hvm hw hB hz1 hk1 hS => ?_)
  obtain ⟨hP1, hD1⟩ := hB
  rw [ht] at hP1
  obtain ⟨hP, hD⟩ := va_join (wr := wr) (w1 := wp u) hP hD isC isR hC hR hn hdis hk1 hFc hP1 hD1
  exact kk u H1 locs hw hP hD hS
abbrev hcD (y : MethodName) (n : Nat) : Prop := y.cls ≠ "java/lang/invoke/MethodHandle" ∧ y.cls ≠ "java/lang/invoke/VarHandle" ∧ (parseMethodDescriptor y.desc).map (fun d => d.parameters.length) = some n
/-- a call of an object's method that answers an int -/
theorem hc_Vi {S : Type} {post : Int32 → S → Prop} {wp : S → va_W} (hx : p.tables.exec = Jvm.exec) (hb : c.code = cc) (hml : c.maxLocals = nL) (hown : s.vm.findClass own = some m.cls) (hts : ∀ w ∈ Ts, w.before args s = true) (hG : GK D k s) (hA : ∀ q : Nat, s.heap.size ≤ q → A q) (hP : va_P D vwCl ws H) (hD : va_D A ws) (hS : va_S A s.heap H locs) (hsz : ls.size = nL)
    (isC isR : List Nat) (hM : CtI l y wd rm (.ref b :: As) D k H.size wc post wp mc ms) {ci q0 : Nat} {q : vw_C} {fs : List Value} (hc : vwCl[ci]? = some q) (he : ws[q0]? = some (b, .inr (ci, fs))) (hg : GoodIn Ts (wsV own index q.1 y wd)) (hw : wd = Cond.code y bytes maxL ret :: wd') (hrc : rm.cells = mc ∧ rm.slots = ms ∧ rm.frames + 1 ≤ R.frames ∧ 8 + (maxL + 11) + rm.locals ≤ R.locals) (hd : y.cls = q.1 ∧ hcD y n)
    (hC : isC.map (fun i => ws[i]?) = wc.map some) (hR : isR.map (fun i => ws[i]?) = wr.map some) (hn : va_nd isC = true ∧ va_nd isR = true ∧ ∀ i ∈ isR, i ∉ isC) (hst : As.length = n ∧ st0 = As.reverse ++ .ref b :: rest ∧ (rest.map fun v => v.category).sum ≤ 8 ∧ cells + mc ≤ R.cells ∧ slots + ms ≤ R.slots) (hdg : decode cc pc = .ok (.invokevirtual index, 3))
    (kk : ∀ (r : Int32) (u : S) (H : Heap) (locs : List Loc), post r u → va_P D vwCl (wr ++ wp u) H → va_D A (wr ++ wp u) → va_S A s.heap H locs → W p l e R s m args below meth c H locs (cells + mc) (slots + ms) Q (F0 m (pc + 3) ls (.int r :: rest))) : W p l e R s m args below meth c H locs cells slots Q (F0 m pc ls st0) :=
  hc_i (va_runV (As := As) (rest := rest) ⟨hx, hb, hml, hown, hts⟩ hM (cwV n hts hg hw hrc.1 hrc.2.1 hd hrc.2.2) (hc_pV hG hP hD isC hC hn.1 hc he) rfl hst.1 hsz hst.2.1 (lv_room hst.2.2.1) hdg hst.2.2.2) hA hP hD hS isC isR hC hR hn.2.1 hn.2.2 kk
theorem hc_Vv {S : Type} {post : S → Prop} {wp : S → va_W} (hx : p.tables.exec = Jvm.exec) (hb : c.code = cc) (hml : c.maxLocals = nL) (hown : s.vm.findClass own = some m.cls) (hts : ∀ w ∈ Ts, w.before args s = true) (hG : GK D k s) (hA : ∀ q : Nat, s.heap.size ≤ q → A q) (hP : va_P D vwCl ws H) (hD : va_D A ws) (hS : va_S A s.heap H locs) (hsz : ls.size = nL)
    (isC isR : List Nat) (hM : CtV l y wd rm (.ref b :: As) D k H.size wc post wp mc ms) {ci q0 : Nat} {q : vw_C} {fs : List Value} (hc : vwCl[ci]? = some q) (he : ws[q0]? = some (b, .inr (ci, fs))) (hg : GoodIn Ts (wsV own index q.1 y wd)) (hw : wd = Cond.code y bytes maxL ret :: wd') (hrc : rm.cells = mc ∧ rm.slots = ms ∧ rm.frames + 1 ≤ R.frames ∧ 8 + (maxL + 11) + rm.locals ≤ R.locals) (hd : y.cls = q.1 ∧ hcD y n)
    (hC : isC.map (fun i => ws[i]?) = wc.map some) (hR : isR.map (fun i => ws[i]?) = wr.map some) (hn : va_nd isC = true ∧ va_nd isR = true ∧ ∀ i ∈ isR, i ∉ isC) (hst : As.length = n ∧ st0 = As.reverse ++ .ref b :: rest ∧ (rest.map fun v => v.category).sum ≤ 8 ∧ cells + mc ≤ R.cells ∧ slots + ms ≤ R.slots) (hdg : decode cc pc = .ok (.invokevirtual index, 3))
    (kk : ∀ (u : S) (H : Heap) (locs : List Loc), post u → va_P D vwCl (wr ++ wp u) H → va_D A (wr ++ wp u) → va_S A s.heap H locs → W p l e R s m args below meth c H locs (cells + mc) (slots + ms) Q (F0 m (pc + 3) ls rest)) : W p l e R s m args below meth c H locs cells slots Q (F0 m pc ls st0) :=
  hc_v (va_runV (As := As) (rest := rest) ⟨hx, hb, hml, hown, hts⟩ hM (cwV n hts hg hw hrc.1 hrc.2.1 hd hrc.2.2) (hc_pV hG hP hD isC hC hn.1 hc he) rfl hst.1 hsz hst.2.1 (lv_room hst.2.2.1) hdg hst.2.2.2) hA hP hD hS isC isR hC hR hn.2.1 hn.2.2 kk
/-- a call of a static method that answers an int -/
theorem hc_Si {S : Type} {post : Int32 → S → Prop} {wp : S → va_W} (hx : p.tables.exec = Jvm.exec) (hb : c.code = cc) (hml : c.maxLocals = nL) (hown : s.vm.findClass own = some m.cls) (hts : ∀ w ∈ Ts, w.before args s = true) (hG : GK D k s) (hA : ∀ q : Nat, s.heap.size ≤ q → A q) (hP : va_P D vwCl ws H) (hD : va_D A ws) (hS : va_S A s.heap H locs) (hsz : ls.size = nL)
    (isC isR : List Nat) (hM : CtI l y wd rm As D k H.size wc post wp mc ms) (hg : GoodIn Ts (va_wsS own index y wd)) (hw : wd = Cond.code y bytes maxL ret :: wd') (hrc : rm.cells = mc ∧ rm.slots = ms ∧ rm.frames + 1 ≤ R.frames ∧ 8 + (maxL + 11) + rm.locals ≤ R.locals) (hd : hcD y n)
    (hC : isC.map (fun i => ws[i]?) = wc.map some) (hR : isR.map (fun i => ws[i]?) = wr.map some) (hn : va_nd isC = true ∧ va_nd isR = true ∧ ∀ i ∈ isR, i ∉ isC) (hst : As.length = n ∧ st0 = As.reverse ++ rest ∧ (rest.map fun v => v.category).sum ≤ 8 ∧ cells + mc ≤ R.cells ∧ slots + ms ≤ R.slots) (hdg : decode cc pc = .ok (.invokestatic index, 3))
    (kk : ∀ (r : Int32) (u : S) (H : Heap) (locs : List Loc), post r u → va_P D vwCl (wr ++ wp u) H → va_D A (wr ++ wp u) → va_S A s.heap H locs → W p l e R s m args below meth c H locs (cells + mc) (slots + ms) Q (F0 m (pc + 3) ls (.int r :: rest))) : W p l e R s m args below meth c H locs cells slots Q (F0 m pc ls st0) :=
  hc_i (va_runS (As := As) (rest := rest) ⟨hx, hb, hml, hown, hts⟩ hM (va_cwS n hts hg hw hrc.1 hrc.2.1 hd hrc.2.2) (hc_pS hG hP hD isC hC hn.1) rfl hst.1 hsz hst.2.1 (lv_room hst.2.2.1) hdg hst.2.2.2) hA hP hD hS isC isR hC hR hn.2.1 hn.2.2 kk
/-- a call of a constructor, the class's own right -/
theorem hc_I {S : Type} {post : S → Prop} {wp : S → va_W} (hx : p.tables.exec = Jvm.exec) (hb : c.code = cc) (hml : c.maxLocals = nL) (hown : s.vm.findClass own = some m.cls) (hts : ∀ w ∈ Ts, w.before args s = true) (hG : GK D k s) (hA : ∀ q : Nat, s.heap.size ≤ q → A q) (hP : va_P D vwCl ws H) (hD : va_D A ws) (hS : va_S A s.heap H locs) (hsz : ls.size = nL)
    (isC isR : List Nat) (hM : CtV l y wd rm (.ref b :: As) D k H.size wc post wp mc ms) (hg : GoodIn Ts wd) (hw : wd = Cond.code y bytes maxL none :: wd') (hrc : rm.cells = mc ∧ rm.slots = ms ∧ rm.frames + 1 ≤ R.frames ∧ 8 + (maxL + 11) + rm.locals ≤ R.locals) (hini : (Cond.initialized y.cls).before args s = true) (hlk : (Cond.methodLink own index y).before args s = true) (hin : (Cond.instanceMethod y).before args s = true) (hy1 : y.name = "<init>") (hd : hcD y n)
    (hC : isC.map (fun i => ws[i]?) = wc.map some) (hR : isR.map (fun i => ws[i]?) = wr.map some) (hn : va_nd isC = true ∧ va_nd isR = true ∧ ∀ i ∈ isR, i ∉ isC) (hst : As.length = n ∧ st0 = As.reverse ++ .ref b :: rest ∧ (rest.map fun v => v.category).sum ≤ 8 ∧ cells + mc ≤ R.cells ∧ slots + ms ≤ R.slots) (hdg : decode cc pc = .ok (.invokespecial index, 3))
    (kk : ∀ (u : S) (H : Heap) (locs : List Loc), post u → va_P D vwCl (wr ++ wp u) H → va_D A (wr ++ wp u) → va_S A s.heap H locs → W p l e R s m args below meth c H locs (cells + mc) (slots + ms) Q (F0 m (pc + 3) ls rest)) : W p l e R s m args below meth c H locs cells slots Q (F0 m pc ls st0) :=
  hc_v (va_runI (As := As) (rest := rest) ⟨hx, hb, hml, hown, hts⟩ hM (cwI n hts hg hw hrc.1 hrc.2.1 hini hlk hin hy1 hd hrc.2.2) (hc_pS hG hP hD isC hC hn.1) rfl hst.1 hsz hst.2.1 (lv_room hst.2.2.1) hdg hst.2.2.2) hA hP hD hS isC isR hC hR hn.2.1 hn.2.2 kk
/-- a call of a nest mate's private constructor -/
theorem hc_N {S : Type} {post : S → Prop} {wp : S → va_W} (hx : p.tables.exec = Jvm.exec) (hb : c.code = cc) (hml : c.maxLocals = nL) (hown : s.vm.findClass own = some m.cls) (hts : ∀ w ∈ Ts, w.before args s = true) (hG : GK D k s) (hA : ∀ q : Nat, s.heap.size ≤ q → A q) (hP : va_P D vwCl ws H) (hD : va_D A ws) (hS : va_S A s.heap H locs) (hsz : ls.size = nL)
    (isC isR : List Nat) (hM : CtV l y wd rm (.ref b :: As) D k H.size wc post wp mc ms) (hg : GoodIn Ts wd) (hw : wd = Cond.code y bytes maxL none :: wd') (hrc : rm.cells = mc ∧ rm.slots = ms ∧ rm.frames + 1 ≤ R.frames ∧ 8 + (maxL + 11) + rm.locals ≤ R.locals) (hlk : va_Nw (.methodLinkNest own index y host) s) (hini : (Cond.initialized y.cls).before args s = true) (hin : (Cond.instanceMethod y).before args s = true) (hy1 : y.name = "<init>") (hd : hcD y n)
    (hC : isC.map (fun i => ws[i]?) = wc.map some) (hR : isR.map (fun i => ws[i]?) = wr.map some) (hn : va_nd isC = true ∧ va_nd isR = true ∧ ∀ i ∈ isR, i ∉ isC) (hst : As.length = n ∧ st0 = As.reverse ++ .ref b :: rest ∧ (rest.map fun v => v.category).sum ≤ 8 ∧ cells + mc ≤ R.cells ∧ slots + ms ≤ R.slots) (hdg : decode cc pc = .ok (.invokespecial index, 3))
    (kk : ∀ (u : S) (H : Heap) (locs : List Loc), post u → va_P D vwCl (wr ++ wp u) H → va_D A (wr ++ wp u) → va_S A s.heap H locs → W p l e R s m args below meth c H locs (cells + mc) (slots + ms) Q (F0 m (pc + 3) ls rest)) : W p l e R s m args below meth c H locs cells slots Q (F0 m pc ls st0) :=
  hc_v (va_runIN (As := As) (rest := rest) ⟨hx, hb, hml, hown, hts⟩ hM ⟨va_cnB n hts hg hw hrc.1 hrc.2.1 hlk hini hd hrc.2.2, hy1, hin⟩ (hc_pS hG hP hD isC hC hn.1) rfl hst.1 hsz hst.2.1 (lv_room hst.2.2.1) hdg hst.2.2.2) hA hP hD hS isC isR hC hR hn.2.1 hn.2.2 kk
/-- a computed int is this one -/
theorem hc_is {x z : Int32} (h : x = z) (kk : W p l e R s m args below meth c H locs cells slots Q (F0 m pc ls (.int z :: rest))) : W p l e R s m args below meth c H locs cells slots Q (F0 m pc ls (.int x :: rest)) := h ▸ kk
theorem hc_isL {x z : Int64} (h : x = z) (kk : W p l e R s m args below meth c H locs cells slots Q (F0 m pc ls (.long z :: rest))) : W p l e R s m args below meth c H locs cells slots Q (F0 m pc ls (.long x :: rest)) := h ▸ kk
theorem hc_oneI {D : va_G} {k : Nat → ClassId} {cA : ClassId} {s : State} (h : va_K D vwCl (tysA k ++ [(cA, .int)]) s) : cA = k 0 := Option.some.inj ((va_nm_int (h.2 6 _ rfl).2).symm.trans (va_nm_int (h.2 0 _ rfl).2))
theorem hc_oneB {D : va_G} {k : Nat → ClassId} {cA : ClassId} {s : State} (h : va_K D vwCl (tysA k ++ [(cA, .byte)]) s) : cA = k 1 := Option.some.inj ((va_nm_byte (h.2 6 _ rfl).2).symm.trans (va_nm_byte (h.2 1 _ rfl).2))
theorem hc_oneZ {D : va_G} {k : Nat → ClassId} {cA : ClassId} {s : State} (h : va_K D vwCl (tysA k ++ [(cA, .boolean)]) s) : cA = k 2 := Option.some.inj ((va_nm_boolean (h.2 6 _ rfl).2).symm.trans (va_nm_boolean (h.2 2 _ rfl).2))
theorem hc_oneJ {D : va_G} {k : Nat → ClassId} {cA : ClassId} {s : State} (h : va_K D vwCl (tysA k ++ [(cA, .long)]) s) : cA = k 3 := Option.some.inj ((va_nm_long (h.2 6 _ rfl).2).symm.trans (va_nm_long (h.2 3 _ rfl).2))
theorem hc_oneR {D : va_G} {k : Nat → ClassId} {cA : ClassId} {s : State} (h : va_K D vwCl (tysA k ++ [(cA, .object RX4)]) s) : cA = k 4 := Option.some.inj ((va_nmO (h.2 6 _ rfl).2 rfl).symm.trans (va_nmO (h.2 4 _ rfl).2 rfl))
theorem hc_oneS {D : va_G} {k : Nat → ClassId} {cA : ClassId} {s : State} (h : va_K D vwCl (tysA k ++ [(cA, .object RX6)]) s) : cA = k 5 := Option.some.inj ((va_nmO (h.2 6 _ rfl).2 rfl).symm.trans (va_nmO (h.2 5 _ rfl).2 rfl))
noncomputable abbrev hcI (k : Nat → ClassId) (N : Nat) (f : Nat → Int32) : va_E := .inl (k 0, N, .inl f)
noncomputable abbrev hcY (k : Nat → ClassId) (N : Nat) (f : Nat → Int32) : va_E := .inl (k 1, N, .inl f)
noncomputable abbrev hcZ (k : Nat → ClassId) (N : Nat) (f : Nat → Int32) : va_E := .inl (k 2, N, .inl f)
noncomputable abbrev hcJ (k : Nat → ClassId) (N : Nat) (f : Nat → Int64) : va_E := .inl (k 3, N, .inr (.inl f))
noncomputable abbrev hcR (k : Nat → ClassId) (N : Nat) (f : Nat → Option Nat) : va_E := .inl (k 4, N, .inr (.inr (.inr (.inr f))))
noncomputable abbrev hcS (k : Nat → ClassId) (N : Nat) (f : Nat → Option Nat) : va_E := .inl (k 5, N, .inr (.inr (.inr (.inr f))))
theorem hc_newI (hx : p.tables.exec = Jvm.exec) (hb : c.code = cc) (harr : (Cond.arrayClass .int).before args s = true) (hG : GK D k s) (hA : ∀ q : Nat, s.heap.size ≤ q → A q) (hP : va_P D vwCl ws H) (hD : va_D A ws) (hS : va_S A s.heap H locs) {v : Int32} (N : Nat) (hv : ¬ v < 0 ∧ v.toNatClampNeg = N ∧ N * 4 ≤ 536870912) (hc : cells + 1 ≤ R.cells ∧ slots + N ≤ R.slots) (hdg : decode cc pc = .ok (.newarray .int, 2))
    (kk : ∀ (q : Nat) (H : Heap), va_P D vwCl (ws ++ [(q, hcI k N (fun _ => 0))]) H → va_D A (ws ++ [(q, hcI k N (fun _ => 0))]) → va_S A s.heap H locs → W p l e R s m args below meth c H locs (cells + 1) (slots + N) Q (F0 m (pc + 2) ls (.ref q :: rest))) : W p l e R s m args below meth c H locs cells slots Q (F0 m pc ls (.int v :: rest)) := by
  refine va_newa (a0 := (N, .inl (fun _ => 0))) hx hb (atype := .int) harr (ty := .int) rfl hG.1 hP hD hS hA (fun _ => rfl) hv.1 hv.2.1 hv.2.2 hc.1 hc.2 hdg (fun q cA H1 hK hP hD hS => ?_)
  have e := hc_oneI hK
  subst e
  exact kk q H1 hP hD hS
theorem hc_newB (hx : p.tables.exec = Jvm.exec) (hb : c.code = cc) (harr : (Cond.arrayClass .byte).before args s = true) (hG : GK D k s) (hA : ∀ q : Nat, s.heap.size ≤ q → A q) (hP : va_P D vwCl ws H) (hD : va_D A ws) (hS : va_S A s.heap H locs) {v : Int32} (N : Nat) (hv : ¬ v < 0 ∧ v.toNatClampNeg = N ∧ N * 1 ≤ 536870912) (hc : cells + 1 ≤ R.cells ∧ slots + N ≤ R.slots) (hdg : decode cc pc = .ok (.newarray .byte, 2))
    (kk : ∀ (q : Nat) (H : Heap), va_P D vwCl (ws ++ [(q, hcY k N (fun _ => 0))]) H → va_D A (ws ++ [(q, hcY k N (fun _ => 0))]) → va_S A s.heap H locs → W p l e R s m args below meth c H locs (cells + 1) (slots + N) Q (F0 m (pc + 2) ls (.ref q :: rest))) : W p l e R s m args below meth c H locs cells slots Q (F0 m pc ls (.int v :: rest)) := by
  refine va_newa (a0 := (N, .inl (fun _ => 0))) hx hb (atype := .byte) harr (ty := .byte) rfl hG.1 hP hD hS hA (fun _ => rfl) hv.1 hv.2.1 hv.2.2 hc.1 hc.2 hdg (fun q cA H1 hK hP hD hS => ?_)
  have e := hc_oneB hK
  subst e
  exact kk q H1 hP hD hS
theorem hc_newZ (hx : p.tables.exec = Jvm.exec) (hb : c.code = cc) (harr : (Cond.arrayClass .boolean).before args s = true) (hG : GK D k s) (hA : ∀ q : Nat, s.heap.size ≤ q → A q) (hP : va_P D vwCl ws H) (hD : va_D A ws) (hS : va_S A s.heap H locs) {v : Int32} (N : Nat) (hv : ¬ v < 0 ∧ v.toNatClampNeg = N ∧ N * 1 ≤ 536870912) (hc : cells + 1 ≤ R.cells ∧ slots + N ≤ R.slots) (hdg : decode cc pc = .ok (.newarray .boolean, 2))
    (kk : ∀ (q : Nat) (H : Heap), va_P D vwCl (ws ++ [(q, hcZ k N (fun _ => 0))]) H → va_D A (ws ++ [(q, hcZ k N (fun _ => 0))]) → va_S A s.heap H locs → W p l e R s m args below meth c H locs (cells + 1) (slots + N) Q (F0 m (pc + 2) ls (.ref q :: rest))) : W p l e R s m args below meth c H locs cells slots Q (F0 m pc ls (.int v :: rest)) := by
  refine va_newa (a0 := (N, .inl (fun _ => 0))) hx hb (atype := .boolean) harr (ty := .boolean) rfl hG.1 hP hD hS hA (fun _ => rfl) hv.1 hv.2.1 hv.2.2 hc.1 hc.2 hdg (fun q cA H1 hK hP hD hS => ?_)
  have e := hc_oneZ hK
  subst e
  exact kk q H1 hP hD hS
theorem hc_newJ (hx : p.tables.exec = Jvm.exec) (hb : c.code = cc) (harr : (Cond.arrayClass .long).before args s = true) (hG : GK D k s) (hA : ∀ q : Nat, s.heap.size ≤ q → A q) (hP : va_P D vwCl ws H) (hD : va_D A ws) (hS : va_S A s.heap H locs) {v : Int32} (N : Nat) (hv : ¬ v < 0 ∧ v.toNatClampNeg = N ∧ N * 8 ≤ 536870912) (hc : cells + 1 ≤ R.cells ∧ slots + N ≤ R.slots) (hdg : decode cc pc = .ok (.newarray .long, 2))
    (kk : ∀ (q : Nat) (H : Heap), va_P D vwCl (ws ++ [(q, hcJ k N (fun _ => 0))]) H → va_D A (ws ++ [(q, hcJ k N (fun _ => 0))]) → va_S A s.heap H locs → W p l e R s m args below meth c H locs (cells + 1) (slots + N) Q (F0 m (pc + 2) ls (.ref q :: rest))) : W p l e R s m args below meth c H locs cells slots Q (F0 m pc ls (.int v :: rest)) := by
  refine va_newa (a0 := (N, .inr (.inl (fun _ => 0)))) hx hb (atype := .long) harr (ty := .long) rfl hG.1 hP hD hS hA (fun _ => rfl) hv.1 hv.2.1 hv.2.2 hc.1 hc.2 hdg (fun q cA H1 hK hP hD hS => ?_)
  have e := hc_oneJ hK
  subst e
  exact kk q H1 hP hD hS
end HC
