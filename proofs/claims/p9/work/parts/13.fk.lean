section HC2
variable {p : Program} {l : Launch} {e : Env} {R : Room} {s : State} {m : MethodId} {args : Array Value} {below : List Frame} {meth : Method} {c : Code} {H : Heap} {locs : List Loc} {cells slots : Nat} {Q : State → Prop} {pc : Nat} {ls : Array Slot} {rest st0 As : List Value} {D : va_G} {k : Nat → ClassId} {A : Nat → Prop} {ws wc wr : va_W} {cc : ByteArray} {y : MethodName} {wd wd' Ts : List Cond} {rm : Room} {mc ms n index maxL nL : Nat} {bytes : ByteArray} {ret : Option FieldType} {own C host : String} {b : Nat}
theorem hc_Sv {S : Type} {post : S → Prop} {wp : S → va_W} (hx : p.tables.exec = Jvm.exec) (hb : c.code = cc) (hml : c.maxLocals = nL) (hown : s.vm.findClass own = some m.cls) (hts : ∀ w ∈ Ts, w.before args s = true) (hG : GK D k s) (hA : ∀ q : Nat, s.heap.size ≤ q → A q) (hP : va_P D vwCl ws H) (hD : va_D A ws) (hS : va_S A s.heap H locs) (hsz : ls.size = nL)
    (isC isR : List Nat) (hM : CtV l y wd rm As D k H.size wc post wp mc ms) (hg : GoodIn Ts (va_wsS own index y wd)) (hw : wd = Cond.code y bytes maxL ret :: wd') (hrc : rm.cells = mc ∧ rm.slots = ms ∧ rm.frames + 1 ≤ R.frames ∧ 8 + (maxL + 11) + rm.locals ≤ R.locals) (hd : hcD y n)
    (hC : isC.map (fun i => ws[i]?) = wc.map some) (hR : isR.map (fun i => ws[i]?) = wr.map some) (hn : va_nd isC = true ∧ va_nd isR = true ∧ ∀ i ∈ isR, i ∉ isC) (hst : As.length = n ∧ st0 = As.reverse ++ rest ∧ (rest.map fun v => v.category).sum ≤ 8 ∧ cells + mc ≤ R.cells ∧ slots + ms ≤ R.slots) (hdg : decode cc pc = .ok (.invokestatic index, 3))
    (kk : ∀ (u : S) (H : Heap) (locs : List Loc), post u → va_P D vwCl (wr ++ wp u) H → va_D A (wr ++ wp u) → va_S A s.heap H locs → W p l e R s m args below meth c H locs (cells + mc) (slots + ms) Q (F0 m (pc + 3) ls rest)) : W p l e R s m args below meth c H locs cells slots Q (F0 m pc ls st0) :=
  hc_v (va_runS (As := As) (rest := rest) ⟨hx, hb, hml, hown, hts⟩ hM (va_cwS n hts hg hw hrc.1 hrc.2.1 hd hrc.2.2) (hc_pS hG hP hD isC hC hn.1) rfl hst.1 hsz hst.2.1 (lv_room hst.2.2.1) hdg hst.2.2.2) hA hP hD hS isC isR hC hR hn.2.1 hn.2.2 kk
end HC2
/-! every method a pure function: states, loops, guards, ends, calls -/
abbrev OB : Type := (Nat → Int32) × (Nat → Nat → Int32) × (Nat → Nat → Int64)
noncomputable def uF {α : Type} (f : Nat → α) (i : Nat) (x : α) : Nat → α := fun j => if j = i then x else f j
noncomputable def lp {α β : Type} (body : (α → Option β) → α → Option β) : Nat → α → Option β
  | 0, _ => none
  | n + 1, a => body (lp body n) a
theorem lp_W {α β : Type} {body : (α → Option β) → α → Option β} {res : β} {P : α → Prop} (h : ∀ kont : α → Option β, (∀ a, kont a = some res → P a) → ∀ a, body kont a = some res → P a) : ∀ n a, lp body n a = some res → P a
  | 0, _, e => by cases e
  | n + 1, a, e => h (lp body n) (lp_W h n) a e
abbrev ib (i : Int32) (n : Nat) : Prop := 0 ≤ i.toInt ∧ i.toInt < n
theorem ib_vp {i : Int32} {n : Nat} (h : ib i n) : vp_in i n := vp_in_iff.mpr h
abbrev bo (x : Int32) : Prop := x = 0 ∨ x = 1
theorem bo_z {x : Int32} (h : bo x) : narrow .boolean (.int x) = .int x := by rcases h with rfl | rfl <;> rfl
theorem bo_f {x : Int32} (h : bo x) : fits .boolean (.int x) = true := by rcases h with rfl | rfl <;> rfl
theorem fw_g {c : Prop} {dc : Decidable c} {β : Type} {x : Option β} {res : β} (h : (@ite _ c dc x none) = some res) : c ∧ x = some res := by
  by_cases q : c
  · rw [if_pos q] at h; exact ⟨q, h⟩
  · rw [if_neg q] at h; cases h
theorem fw_t {c : Prop} {dc : Decidable c} {β : Type} {x y : Option β} {res : β} (q : c) (h : (@ite _ c dc x y) = some res) : x = some res := by rw [if_pos q] at h; exact h
theorem fw_f {c : Prop} {dc : Decidable c} {β : Type} {x y : Option β} {res : β} (q : ¬ c) (h : (@ite _ c dc x y) = some res) : y = some res := by rw [if_neg q] at h; exact h
noncomputable def rAd (ra : Nat → Nat) (e : Int32) : Option Nat := if 0 ≤ e.toInt ∧ e.toInt < 6 then some (ra (6 * e.toInt.toNat)) else none
theorem al_C (ws : va_W) : (List.range ws.length).map (fun i => ws[i]?) = ws.map some := by
  apply List.ext_getElem?
  intro i
  by_cases hi : i < ws.length
  · simp [hi]
  · simp [hi]
theorem al_nd1 : ∀ (n a : Nat), va_nd (List.range' a n) = true
  | 0, _ => rfl
  | n + 1, a => by
    rw [List.range'_succ]
    show (decide (a ∉ List.range' (a + 1) n) && va_nd (List.range' (a + 1) n)) = true
    rw [al_nd1 n (a + 1), Bool.and_true, decide_eq_true_eq]
    intro h
    have := List.mem_range'_1.mp h
    omega
theorem al_n (n : Nat) : va_nd (List.range n) = true ∧ va_nd [] = true ∧ ∀ i ∈ ([] : List Nat), i ∉ List.range n := ⟨by rw [List.range_eq_range']; exact al_nd1 n 0, rfl, fun i h => by cases h⟩
section FW

variable {p : Program} {l : Launch} {e : Env} {R : Room} {s : State} {m : MethodId} {args : Array Value} {below : List Frame} {meth : Method} {c : Code} {H : Heap} {locs : List Loc} {cells slots : Nat} {Q : State → Prop} {pc : Nat} {ls : Array Slot} {rest st0 As : List Value} {D : va_G} {k : Nat → ClassId} {A : Nat → Prop} {ws wc wr : va_W} {cc : ByteArray} {y : MethodName} {wd wd' Ts : List Cond} {rm : Room} {mc ms n index maxL nL : Nat} {bytes : ByteArray} {ret : Option FieldType} {own C host : String} {b : Nat} 
variable {E : (Nat → Prop) → State → Prop}
theorem fw_endI {β : Type} {rv : β → Int32} {wp : β → va_W} {res b : β} {v : Int32} (hx : p.tables.exec = Jvm.exec) (hb : c.code = cc) (hr : meth.sig.returnType = some .int) (hlocks : meth.locks = false) (h : some b = some res) (hv : v = rv b) (hP : va_P D vwCl (wp b) H) (hD : va_D A (wp b)) (hS : va_S A s.heap H locs) (hdg : decode cc pc = .ok (.ireturn, 1)) : W p l e R s m args below meth c H locs cells slots (MQ below (va_Qi (fun r (_ : Unit) => r = rv res) (hcB D (fun _ : Unit => wp res) A) A) args s cells slots A) (F0 m pc ls [.int v]) := by
  cases h
  exact hc_end hx hb hr hlocks () hv hP hD hS hdg
theorem fw_endZ {β : Type} {rv : β → Int32} {wp : β → va_W} {res b : β} {v : Int32} (hx : p.tables.exec = Jvm.exec) (hb : c.code = cc) (hr : meth.sig.returnType = some .boolean) (hlocks : meth.locks = false) (h : some b = some res) (hn : narrow .boolean (.int v) = .int v) (hv : v = rv b) (hP : va_P D vwCl (wp b) H) (hD : va_D A (wp b)) (hS : va_S A s.heap H locs) (hdg : decode cc pc = .ok (.ireturn, 1)) : W p l e R s m args below meth c H locs cells slots (MQ below (va_Qi (fun r (_ : Unit) => r = rv res) (hcB D (fun _ : Unit => wp res) A) A) args s cells slots A) (F0 m pc ls [.int v]) := by
  cases h
  exact hc_endZ hx hb hr hlocks hn () hv hP hD hS hdg
theorem fw_endL {β : Type} {rv : β → Int64} {wp : β → va_W} {res b : β} {v : Int64} (hx : p.tables.exec = Jvm.exec) (hb : c.code = cc) (hr : meth.sig.returnType = some .long) (hlocks : meth.locks = false) (h : some b = some res) (hv : v = rv b) (hP : va_P D vwCl (wp b) H) (hD : va_D A (wp b)) (hS : va_S A s.heap H locs) (hdg : decode cc pc = .ok (.lreturn, 1)) : W p l e R s m args below meth c H locs cells slots (MQ below (va_Ql (fun r (_ : Unit) => r = rv res) (hcB D (fun _ : Unit => wp res) A) A) args s cells slots A) (F0 m pc ls [.long v]) := by
  cases h
  exact hc_endL hx hb hr hlocks () hv hP hD hS hdg
theorem fw_endQ {β : Type} {rv : β → Int32} {wp : β → va_W} {res b : β} {ra : Nat → Nat} {cn : String} {v : Option Nat} (hx : p.tables.exec = Jvm.exec) (hb : c.code = cc) (hr : meth.sig.returnType = some (.object cn)) (hlocks : meth.locks = false) (h : some b = some res) (hv : v = rAd ra (rv b)) (hP : va_P D vwCl (wp b) H) (hD : va_D A (wp b)) (hS : va_S A s.heap H locs) (hdg : decode cc pc = .ok (.areturn, 1)) : W p l e R s m args below meth c H locs cells slots (MQ below (va_Qq (fun r (_ : Unit) => r = rAd ra (rv res)) (hcB D (fun _ : Unit => wp res) A) A) args s cells slots A) (F0 m pc ls [va_rf v]) := by
  cases h
  exact hc_endQ v hx hb hr hlocks () hv hP hD hS hdg
theorem fw_endV {β : Type} {wp : β → va_W} {res b : β} (hx : p.tables.exec = Jvm.exec) (hb : c.code = cc) (hr : meth.sig.returnType = none) (hlocks : meth.locks = false) (h : some b = some res) (hP : va_P D vwCl (wp b) H) (hD : va_D A (wp b)) (hS : va_S A s.heap H locs) (hdg : decode cc pc = .ok (.return_, 1)) : W p l e R s m args below meth c H locs cells slots (MQ below (va_Qv (fun _ : Unit => True) (hcB D (fun _ : Unit => wp res) A) A) args s cells slots A) (F0 m pc ls []) := by
  cases h
  exact hc_endV hx hb hr hlocks () trivial hP hD hS hdg
theorem fw_Vi {β γ : Type} {o : Option β} {g : β → Option γ} {res : γ} {rv : β → Int32} {wp : β → va_W} (h : o.bind g = some res) (hx : p.tables.exec = Jvm.exec) (hb : c.code = cc) (hml : c.maxLocals = nL) (hown : s.vm.findClass own = some m.cls) (hts : ∀ w ∈ Ts, w.before args s = true) (hG : GK D k s) (hA : ∀ q : Nat, s.heap.size ≤ q → A q) (hP : va_P D vwCl ws H) (hD : va_D A ws) (hS : va_S A s.heap H locs) (hsz : ls.size = nL)
    (isC isR : List Nat) (hM : ∀ q, o = some q → CtI l y wd rm (.ref b :: As) D k H.size wc (fun r (_ : Unit) => r = rv q) (fun _ : Unit => wp q) mc ms) {ci q0 : Nat} {q : vw_C} {fs : List Value} (hc : vwCl[ci]? = some q) (he : ws[q0]? = some (b, .inr (ci, fs))) (hg : GoodIn Ts (wsV own index q.1 y wd)) (hw : wd = Cond.code y bytes maxL ret :: wd') (hrc : rm.cells = mc ∧ rm.slots = ms ∧ rm.frames + 1 ≤ R.frames ∧ 8 + (maxL + 11) + rm.locals ≤ R.locals) (hd : y.cls = q.1 ∧ hcD y n)
    (hC : isC.map (fun i => ws[i]?) = wc.map some) (hR : isR.map (fun i => ws[i]?) = wr.map some) (hn : va_nd isC = true ∧ va_nd isR = true ∧ ∀ i ∈ isR, i ∉ isC) (hst : As.length = n ∧ st0 = As.reverse ++ .ref b :: rest ∧ (rest.map fun v => v.category).sum ≤ 8 ∧ cells + mc ≤ R.cells ∧ slots + ms ≤ R.slots) (hdg : decode cc pc = .ok (.invokevirtual index, 3))
    (kk : ∀ (q : β) (H : Heap) (locs : List Loc), g q = some res → va_P D vwCl (wr ++ wp q) H → va_D A (wr ++ wp q) → va_S A s.heap H locs → W p l e R s m args below meth c H locs (cells + mc) (slots + ms) Q (F0 m (pc + 3) ls (.int (rv q) :: rest))) : W p l e R s m args below meth c H locs cells slots Q (F0 m pc ls st0) := by
  cases ho : o with
  | none => rw [ho] at h; cases h
  | some q =>
    rw [ho] at h
    exact hc_Vi hx hb hml hown hts hG hA hP hD hS hsz isC isR (hM q ho) hc he hg hw hrc hd hC hR hn hst hdg (fun r u H locs hr hP hD hS => by obtain rfl : r = rv q := hr; exact kk q H locs h hP hD hS)
theorem fw_Vv {β γ : Type} {o : Option β} {g : β → Option γ} {res : γ} {wp : β → va_W} (h : o.bind g = some res) (hx : p.tables.exec = Jvm.exec) (hb : c.code = cc) (hml : c.maxLocals = nL) (hown : s.vm.findClass own = some m.cls) (hts : ∀ w ∈ Ts, w.before args s = true) (hG : GK D k s) (hA : ∀ q : Nat, s.heap.size ≤ q → A q) (hP : va_P D vwCl ws H) (hD : va_D A ws) (hS : va_S A s.heap H locs) (hsz : ls.size = nL)
    (isC isR : List Nat) (hM : ∀ q, o = some q → CtV l y wd rm (.ref b :: As) D k H.size wc (fun _ : Unit => True) (fun _ : Unit => wp q) mc ms) {ci q0 : Nat} {q : vw_C} {fs : List Value} (hc : vwCl[ci]? = some q) (he : ws[q0]? = some (b, .inr (ci, fs))) (hg : GoodIn Ts (wsV own index q.1 y wd)) (hw : wd = Cond.code y bytes maxL ret :: wd') (hrc : rm.cells = mc ∧ rm.slots = ms ∧ rm.frames + 1 ≤ R.frames ∧ 8 + (maxL + 11) + rm.locals ≤ R.locals) (hd : y.cls = q.1 ∧ hcD y n)
    (hC : isC.map (fun i => ws[i]?) = wc.map some) (hR : isR.map (fun i => ws[i]?) = wr.map some) (hn : va_nd isC = true ∧ va_nd isR = true ∧ ∀ i ∈ isR, i ∉ isC) (hst : As.length = n ∧ st0 = As.reverse ++ .ref b :: rest ∧ (rest.map fun v => v.category).sum ≤ 8 ∧ cells + mc ≤ R.cells ∧ slots + ms ≤ R.slots) (hdg : decode cc pc = .ok (.invokevirtual index, 3))
    (kk : ∀ (q : β) (H : Heap) (locs : List Loc), g q = some res → va_P D vwCl (wr ++ wp q) H → va_D A (wr ++ wp q) → va_S A s.heap H locs → W p l e R s m args below meth c H locs (cells + mc) (slots + ms) Q (F0 m (pc + 3) ls rest)) : W p l e R s m args below meth c H locs cells slots Q (F0 m pc ls st0) := by
  cases ho : o with
  | none => rw [ho] at h; cases h
  | some q =>
    rw [ho] at h
    exact hc_Vv hx hb hml hown hts hG hA hP hD hS hsz isC isR (hM q ho) hc he hg hw hrc hd hC hR hn hst hdg (fun u H locs _ hP hD hS => kk q H locs h hP hD hS)
theorem fw_Vl {β γ : Type} {o : Option β} {g : β → Option γ} {res : γ} {rv : β → Int64} {wp : β → va_W} (h : o.bind g = some res) (hx : p.tables.exec = Jvm.exec) (hb : c.code = cc) (hml : c.maxLocals = nL) (hown : s.vm.findClass own = some m.cls) (hts : ∀ w ∈ Ts, w.before args s = true) (hG : GK D k s) (hA : ∀ q : Nat, s.heap.size ≤ q → A q) (hP : va_P D vwCl ws H) (hD : va_D A ws) (hS : va_S A s.heap H locs) (hsz : ls.size = nL)
    (isC isR : List Nat) (hM : ∀ q, o = some q → CtL l y wd rm (.ref b :: As) D k H.size wc (fun r (_ : Unit) => r = rv q) (fun _ : Unit => wp q) mc ms) {ci q0 : Nat} {q : vw_C} {fs : List Value} (hc : vwCl[ci]? = some q) (he : ws[q0]? = some (b, .inr (ci, fs))) (hg : GoodIn Ts (wsV own index q.1 y wd)) (hw : wd = Cond.code y bytes maxL ret :: wd') (hrc : rm.cells = mc ∧ rm.slots = ms ∧ rm.frames + 1 ≤ R.frames ∧ 8 + (maxL + 11) + rm.locals ≤ R.locals) (hd : y.cls = q.1 ∧ hcD y n)
    (hC : isC.map (fun i => ws[i]?) = wc.map some) (hR : isR.map (fun i => ws[i]?) = wr.map some) (hn : va_nd isC = true ∧ va_nd isR = true ∧ ∀ i ∈ isR, i ∉ isC) (hst : As.length = n ∧ st0 = As.reverse ++ .ref b :: rest ∧ (rest.map fun v => v.category).sum ≤ 8 ∧ cells + mc ≤ R.cells ∧ slots + ms ≤ R.slots) (hdg : decode cc pc = .ok (.invokevirtual index, 3))
    (kk : ∀ (q : β) (H : Heap) (locs : List Loc), g q = some res → va_P D vwCl (wr ++ wp q) H → va_D A (wr ++ wp q) → va_S A s.heap H locs → W p l e R s m args below meth c H locs (cells + mc) (slots + ms) Q (F0 m (pc + 3) ls (.long (rv q) :: rest))) : W p l e R s m args below meth c H locs cells slots Q (F0 m pc ls st0) := by
  cases ho : o with
  | none => rw [ho] at h; cases h
  | some q =>
    rw [ho] at h
    exact hc_Vl hx hb hml hown hts hG hA hP hD hS hsz isC isR (hM q ho) hc he hg hw hrc hd hC hR hn hst hdg (fun r u H locs hr hP hD hS => by obtain rfl : r = rv q := hr; exact kk q H locs h hP hD hS)
theorem fw_Vq {β γ : Type} {o : Option β} {g : β → Option γ} {res : γ} {rv : β → Option Nat} {wp : β → va_W} (h : o.bind g = some res) (hx : p.tables.exec = Jvm.exec) (hb : c.code = cc) (hml : c.maxLocals = nL) (hown : s.vm.findClass own = some m.cls) (hts : ∀ w ∈ Ts, w.before args s = true) (hG : GK D k s) (hA : ∀ q : Nat, s.heap.size ≤ q → A q) (hP : va_P D vwCl ws H) (hD : va_D A ws) (hS : va_S A s.heap H locs) (hsz : ls.size = nL)
    (isC isR : List Nat) (hM : ∀ q, o = some q → CtQ l y wd rm (.ref b :: As) D k H.size wc (fun r (_ : Unit) => r = rv q) (fun _ : Unit => wp q) mc ms) {ci q0 : Nat} {q : vw_C} {fs : List Value} (hc : vwCl[ci]? = some q) (he : ws[q0]? = some (b, .inr (ci, fs))) (hg : GoodIn Ts (wsV own index q.1 y wd)) (hw : wd = Cond.code y bytes maxL ret :: wd') (hrc : rm.cells = mc ∧ rm.slots = ms ∧ rm.frames + 1 ≤ R.frames ∧ 8 + (maxL + 11) + rm.locals ≤ R.locals) (hd : y.cls = q.1 ∧ hcD y n)
    (hC : isC.map (fun i => ws[i]?) = wc.map some) (hR : isR.map (fun i => ws[i]?) = wr.map some) (hn : va_nd isC = true ∧ va_nd isR = true ∧ ∀ i ∈ isR, i ∉ isC) (hst : As.length = n ∧ st0 = As.reverse ++ .ref b :: rest ∧ (rest.map fun v => v.category).sum ≤ 8 ∧ cells + mc ≤ R.cells ∧ slots + ms ≤ R.slots) (hdg : decode cc pc = .ok (.invokevirtual index, 3))
    (kk : ∀ (q : β) (H : Heap) (locs : List Loc), g q = some res → va_P D vwCl (wr ++ wp q) H → va_D A (wr ++ wp q) → va_S A s.heap H locs → W p l e R s m args below meth c H locs (cells + mc) (slots + ms) Q (F0 m (pc + 3) ls (va_rf (rv q) :: rest))) : W p l e R s m args below meth c H locs cells slots Q (F0 m pc ls st0) := by
  cases ho : o with
  | none => rw [ho] at h; cases h
  | some q =>
    rw [ho] at h
    exact hc_Vq hx hb hml hown hts hG hA hP hD hS hsz isC isR (hM q ho) hc he hg hw hrc hd hC hR hn hst hdg (fun r u H locs hr hP hD hS => by obtain rfl : r = rv q := hr; exact kk q H locs h hP hD hS)
theorem fw_Si {β γ : Type} {o : Option β} {g : β → Option γ} {res : γ} {rv : β → Int32} {wp : β → va_W} (h : o.bind g = some res) (hx : p.tables.exec = Jvm.exec) (hb : c.code = cc) (hml : c.maxLocals = nL) (hown : s.vm.findClass own = some m.cls) (hts : ∀ w ∈ Ts, w.before args s = true) (hG : GK D k s) (hA : ∀ q : Nat, s.heap.size ≤ q → A q) (hP : va_P D vwCl ws H) (hD : va_D A ws) (hS : va_S A s.heap H locs) (hsz : ls.size = nL)
    (isC isR : List Nat) (hM : ∀ q, o = some q → CtI l y wd rm As D k H.size wc (fun r (_ : Unit) => r = rv q) (fun _ : Unit => wp q) mc ms) (hg : GoodIn Ts (va_wsS own index y wd)) (hw : wd = Cond.code y bytes maxL ret :: wd') (hrc : rm.cells = mc ∧ rm.slots = ms ∧ rm.frames + 1 ≤ R.frames ∧ 8 + (maxL + 11) + rm.locals ≤ R.locals) (hd : hcD y n)
    (hC : isC.map (fun i => ws[i]?) = wc.map some) (hR : isR.map (fun i => ws[i]?) = wr.map some) (hn : va_nd isC = true ∧ va_nd isR = true ∧ ∀ i ∈ isR, i ∉ isC) (hst : As.length = n ∧ st0 = As.reverse ++ rest ∧ (rest.map fun v => v.category).sum ≤ 8 ∧ cells + mc ≤ R.cells ∧ slots + ms ≤ R.slots) (hdg : decode cc pc = .ok (.invokestatic index, 3))
    (kk : ∀ (q : β) (H : Heap) (locs : List Loc), g q = some res → va_P D vwCl (wr ++ wp q) H → va_D A (wr ++ wp q) → va_S A s.heap H locs → W p l e R s m args below meth c H locs (cells + mc) (slots + ms) Q (F0 m (pc + 3) ls (.int (rv q) :: rest))) : W p l e R s m args below meth c H locs cells slots Q (F0 m pc ls st0) := by
  cases ho : o with
  | none => rw [ho] at h; cases h
  | some q =>
    rw [ho] at h
    exact hc_Si hx hb hml hown hts hG hA hP hD hS hsz isC isR (hM q ho) hg hw hrc hd hC hR hn hst hdg (fun r u H locs hr hP hD hS => by obtain rfl : r = rv q := hr; exact kk q H locs h hP hD hS)
theorem fw_Sv {β γ : Type} {o : Option β} {g : β → Option γ} {res : γ} {wp : β → va_W} (h : o.bind g = some res) (hx : p.tables.exec = Jvm.exec) (hb : c.code = cc) (hml : c.maxLocals = nL) (hown : s.vm.findClass own = some m.cls) (hts : ∀ w ∈ Ts, w.before args s = true) (hG : GK D k s) (hA : ∀ q : Nat, s.heap.size ≤ q → A q) (hP : va_P D vwCl ws H) (hD : va_D A ws) (hS : va_S A s.heap H locs) (hsz : ls.size = nL)
    (isC isR : List Nat) (hM : ∀ q, o = some q → CtV l y wd rm As D k H.size wc (fun _ : Unit => True) (fun _ : Unit => wp q) mc ms) (hg : GoodIn Ts (va_wsS own index y wd)) (hw : wd = Cond.code y bytes maxL ret :: wd') (hrc : rm.cells = mc ∧ rm.slots = ms ∧ rm.frames + 1 ≤ R.frames ∧ 8 + (maxL + 11) + rm.locals ≤ R.locals) (hd : hcD y n)
    (hC : isC.map (fun i => ws[i]?) = wc.map some) (hR : isR.map (fun i => ws[i]?) = wr.map some) (hn : va_nd isC = true ∧ va_nd isR = true ∧ ∀ i ∈ isR, i ∉ isC) (hst : As.length = n ∧ st0 = As.reverse ++ rest ∧ (rest.map fun v => v.category).sum ≤ 8 ∧ cells + mc ≤ R.cells ∧ slots + ms ≤ R.slots) (hdg : decode cc pc = .ok (.invokestatic index, 3))
    (kk : ∀ (q : β) (H : Heap) (locs : List Loc), g q = some res → va_P D vwCl (wr ++ wp q) H → va_D A (wr ++ wp q) → va_S A s.heap H locs → W p l e R s m args below meth c H locs (cells + mc) (slots + ms) Q (F0 m (pc + 3) ls rest)) : W p l e R s m args below meth c H locs cells slots Q (F0 m pc ls st0) := by
  cases ho : o with
  | none => rw [ho] at h; cases h
  | some q =>
    rw [ho] at h
    exact hc_Sv hx hb hml hown hts hG hA hP hD hS hsz isC isR (hM q ho) hg hw hrc hd hC hR hn hst hdg (fun u H locs _ hP hD hS => kk q H locs h hP hD hS)
theorem fw_Sl {β γ : Type} {o : Option β} {g : β → Option γ} {res : γ} {rv : β → Int64} {wp : β → va_W} (h : o.bind g = some res) (hx : p.tables.exec = Jvm.exec) (hb : c.code = cc) (hml : c.maxLocals = nL) (hown : s.vm.findClass own = some m.cls) (hts : ∀ w ∈ Ts, w.before args s = true) (hG : GK D k s) (hA : ∀ q : Nat, s.heap.size ≤ q → A q) (hP : va_P D vwCl ws H) (hD : va_D A ws) (hS : va_S A s.heap H locs) (hsz : ls.size = nL)
    (isC isR : List Nat) (hM : ∀ q, o = some q → CtL l y wd rm As D k H.size wc (fun r (_ : Unit) => r = rv q) (fun _ : Unit => wp q) mc ms) (hg : GoodIn Ts (va_wsS own index y wd)) (hw : wd = Cond.code y bytes maxL ret :: wd') (hrc : rm.cells = mc ∧ rm.slots = ms ∧ rm.frames + 1 ≤ R.frames ∧ 8 + (maxL + 11) + rm.locals ≤ R.locals) (hd : hcD y n)
    (hC : isC.map (fun i => ws[i]?) = wc.map some) (hR : isR.map (fun i => ws[i]?) = wr.map some) (hn : va_nd isC = true ∧ va_nd isR = true ∧ ∀ i ∈ isR, i ∉ isC) (hst : As.length = n ∧ st0 = As.reverse ++ rest ∧ (rest.map fun v => v.category).sum ≤ 8 ∧ cells + mc ≤ R.cells ∧ slots + ms ≤ R.slots) (hdg : decode cc pc = .ok (.invokestatic index, 3))
    (kk : ∀ (q : β) (H : Heap) (locs : List Loc), g q = some res → va_P D vwCl (wr ++ wp q) H → va_D A (wr ++ wp q) → va_S A s.heap H locs → W p l e R s m args below meth c H locs (cells + mc) (slots + ms) Q (F0 m (pc + 3) ls (.long (rv q) :: rest))) : W p l e R s m args below meth c H locs cells slots Q (F0 m pc ls st0) := by
  cases ho : o with
  | none => rw [ho] at h; cases h
  | some q =>
    rw [ho] at h
    exact hc_Sl hx hb hml hown hts hG hA hP hD hS hsz isC isR (hM q ho) hg hw hrc hd hC hR hn hst hdg (fun r u H locs hr hP hD hS => by obtain rfl : r = rv q := hr; exact kk q H locs h hP hD hS)
theorem fw_ViE {β γ : Type} {o : Option β} {g : β → Option γ} {res : γ} {rv : β → Int32} {wp : β → va_W} (h : o.bind g = some res) (hE : EOk E) (hT : E A s) (hx : p.tables.exec = Jvm.exec) (hb : c.code = cc) (hml : c.maxLocals = nL) (hown : s.vm.findClass own = some m.cls) (hts : ∀ w ∈ Ts, w.before args s = true) (hG : GK D k s) (hA : ∀ q : Nat, s.heap.size ≤ q → A q) (hP : va_P D vwCl ws H) (hD : va_D A ws) (hS : va_S A s.heap H locs) (hsz : ls.size = nL)
    (isC isR : List Nat) (hM : ∀ q, o = some q → CtIE l y wd rm (.ref b :: As) D k E H.size wc (fun r (_ : Unit) => r = rv q) (fun _ : Unit => wp q) mc ms) (hrv : ∃ cellB : Cell, H[b]? = some cellB ∧ cellB.vm.isStatics = false ∧ s.vm.findClass C = some cellB.cls) (hg : GoodIn Ts (wsV own index C y wd)) (hw : wd = Cond.code y bytes maxL ret :: wd') (hrc : rm.cells = mc ∧ rm.slots = ms ∧ rm.frames + 1 ≤ R.frames ∧ 8 + (maxL + 11) + rm.locals ≤ R.locals) (hd : y.cls = C ∧ hcD y n)
    (hC : isC.map (fun i => ws[i]?) = wc.map some) (hR : isR.map (fun i => ws[i]?) = wr.map some) (hn : va_nd isC = true ∧ va_nd isR = true ∧ ∀ i ∈ isR, i ∉ isC) (hst : As.length = n ∧ st0 = As.reverse ++ .ref b :: rest ∧ (rest.map fun v => v.category).sum ≤ 8 ∧ cells + mc ≤ R.cells ∧ slots + ms ≤ R.slots) (hdg : decode cc pc = .ok (.invokevirtual index, 3))
    (kk : ∀ (q : β) (H : Heap) (locs : List Loc), g q = some res → va_P D vwCl (wr ++ wp q) H → va_D A (wr ++ wp q) → va_S A s.heap H locs → W p l e R s m args below meth c H locs (cells + mc) (slots + ms) Q (F0 m (pc + 3) ls (.int (rv q) :: rest))) : W p l e R s m args below meth c H locs cells slots Q (F0 m pc ls st0) := by
  cases ho : o with
  | none => rw [ho] at h; cases h
  | some q =>
    rw [ho] at h
    exact hc_ViE hE hT hx hb hml hown hts hG hA hP hD hS hsz isC isR (hM q ho) hrv hg hw hrc hd hC hR hn hst hdg (fun r u H locs hr hP hD hS => by obtain rfl : r = rv q := hr; exact kk q H locs h hP hD hS)
theorem fw_VvE {β γ : Type} {o : Option β} {g : β → Option γ} {res : γ} {wp : β → va_W} (h : o.bind g = some res) (hE : EOk E) (hT : E A s) (hx : p.tables.exec = Jvm.exec) (hb : c.code = cc) (hml : c.maxLocals = nL) (hown : s.vm.findClass own = some m.cls) (hts : ∀ w ∈ Ts, w.before args s = true) (hG : GK D k s) (hA : ∀ q : Nat, s.heap.size ≤ q → A q) (hP : va_P D vwCl ws H) (hD : va_D A ws) (hS : va_S A s.heap H locs) (hsz : ls.size = nL)
    (isC isR : List Nat) (hM : ∀ q, o = some q → CtVE l y wd rm (.ref b :: As) D k E H.size wc (fun _ : Unit => True) (fun _ : Unit => wp q) mc ms) (hrv : ∃ cellB : Cell, H[b]? = some cellB ∧ cellB.vm.isStatics = false ∧ s.vm.findClass C = some cellB.cls) (hg : GoodIn Ts (wsV own index C y wd)) (hw : wd = Cond.code y bytes maxL ret :: wd') (hrc : rm.cells = mc ∧ rm.slots = ms ∧ rm.frames + 1 ≤ R.frames ∧ 8 + (maxL + 11) + rm.locals ≤ R.locals) (hd : y.cls = C ∧ hcD y n)
    (hC : isC.map (fun i => ws[i]?) = wc.map some) (hR : isR.map (fun i => ws[i]?) = wr.map some) (hn : va_nd isC = true ∧ va_nd isR = true ∧ ∀ i ∈ isR, i ∉ isC) (hst : As.length = n ∧ st0 = As.reverse ++ .ref b :: rest ∧ (rest.map fun v => v.category).sum ≤ 8 ∧ cells + mc ≤ R.cells ∧ slots + ms ≤ R.slots) (hdg : decode cc pc = .ok (.invokevirtual index, 3))
    (kk : ∀ (q : β) (H : Heap) (locs : List Loc), g q = some res → va_P D vwCl (wr ++ wp q) H → va_D A (wr ++ wp q) → va_S A s.heap H locs → W p l e R s m args below meth c H locs (cells + mc) (slots + ms) Q (F0 m (pc + 3) ls rest)) : W p l e R s m args below meth c H locs cells slots Q (F0 m pc ls st0) := by
  cases ho : o with
  | none => rw [ho] at h; cases h
  | some q =>
    rw [ho] at h
    exact hc_VvE hE hT hx hb hml hown hts hG hA hP hD hS hsz isC isR (hM q ho) hrv hg hw hrc hd hC hR hn hst hdg (fun u H locs _ hP hD hS => kk q H locs h hP hD hS)
theorem fw_SiE {β γ : Type} {o : Option β} {g : β → Option γ} {res : γ} {rv : β → Int32} {wp : β → va_W} (h : o.bind g = some res) (hE : EOk E) (hT : E A s) (hx : p.tables.exec = Jvm.exec) (hb : c.code = cc) (hml : c.maxLocals = nL) (hown : s.vm.findClass own = some m.cls) (hts : ∀ w ∈ Ts, w.before args s = true) (hG : GK D k s) (hA : ∀ q : Nat, s.heap.size ≤ q → A q) (hP : va_P D vwCl ws H) (hD : va_D A ws) (hS : va_S A s.heap H locs) (hsz : ls.size = nL)
    (isC isR : List Nat) (hM : ∀ q, o = some q → CtIE l y wd rm As D k E H.size wc (fun r (_ : Unit) => r = rv q) (fun _ : Unit => wp q) mc ms) (hg : GoodIn Ts (va_wsS own index y wd)) (hw : wd = Cond.code y bytes maxL ret :: wd') (hrc : rm.cells = mc ∧ rm.slots = ms ∧ rm.frames + 1 ≤ R.frames ∧ 8 + (maxL + 11) + rm.locals ≤ R.locals) (hd : hcD y n)
    (hC : isC.map (fun i => ws[i]?) = wc.map some) (hR : isR.map (fun i => ws[i]?) = wr.map some) (hn : va_nd isC = true ∧ va_nd isR = true ∧ ∀ i ∈ isR, i ∉ isC) (hst : As.length = n ∧ st0 = As.reverse ++ rest ∧ (rest.map fun v => v.category).sum ≤ 8 ∧ cells + mc ≤ R.cells ∧ slots + ms ≤ R.slots) (hdg : decode cc pc = .ok (.invokestatic index, 3))
    (kk : ∀ (q : β) (H : Heap) (locs : List Loc), g q = some res → va_P D vwCl (wr ++ wp q) H → va_D A (wr ++ wp q) → va_S A s.heap H locs → W p l e R s m args below meth c H locs (cells + mc) (slots + ms) Q (F0 m (pc + 3) ls (.int (rv q) :: rest))) : W p l e R s m args below meth c H locs cells slots Q (F0 m pc ls st0) := by
  cases ho : o with
  | none => rw [ho] at h; cases h
  | some q =>
    rw [ho] at h
    exact hc_SiE hE hT hx hb hml hown hts hG hA hP hD hS hsz isC isR (hM q ho) hg hw hrc hd hC hR hn hst hdg (fun r u H locs hr hP hD hS => by obtain rfl : r = rv q := hr; exact kk q H locs h hP hD hS)
end FW
theorem al_m (n : Nat) : va_nd [] = true ∧ va_nd (List.range n) = true ∧ ∀ i ∈ List.range n, i ∉ ([] : List Nat) := ⟨rfl, (al_n n).1, fun i _ h => by cases h⟩
theorem al_r (n : Nat) : va_nd (List.range n) = true := (al_n n).1
