/-! what a hall's text has told so far; a rule's -/
theorem pig : ∀ (n m : Nat) (f : Nat → Nat), (∀ j, j < m → f j < n) → (∀ i j, i < j → j < m → f i ≠ f j) → m ≤ n
  | 0, m, f, h, _ => by
    cases m with
    | zero => exact Nat.le_refl _
    | succ m => exact absurd (h 0 (by omega)) (Nat.not_lt_zero _)
  | n + 1, m, f, h, hd => by
    by_cases hx : ∃ j, j < m ∧ f j = n
    · obtain ⟨j0, hj0, hf⟩ := hx
      have hm := pig n (m - 1) (fun j => if j < j0 then f j else f (j + 1)) (fun j hj => by
        have key : ∀ i, i < m → i ≠ j0 → f i < n := fun i hi hne => by
          have h1 := h i hi
          have h2 : f i ≠ f j0 := by
            rcases Nat.lt_or_gt_of_ne hne with q | q
            · exact hd i j0 q hj0
            · exact fun e => hd j0 i q hi e.symm
          omega
        by_cases q : j < j0
        · simp only [q, if_true]
          exact key j (by omega) (by omega)
        · simp only [q, if_false]
          exact key (j + 1) (by omega) (by omega)) (fun i j hij hj => by
        by_cases q : i < j0 <;> by_cases q2 : j < j0
        · simp only [q, q2, if_true]
          exact hd i j hij (by omega)
        · simp only [q, q2, if_true, if_false]
          exact hd i (j + 1) (by omega) (by omega)
        · omega
        · simp only [q, q2, if_false]
          exact hd (i + 1) (j + 1) (by omega) (by omega))
      omega
    · have := pig n m f (fun j hj => by
        have h1 := h j hj
        have h2 : f j ≠ n := fun e => hx ⟨j, hj, e⟩
        omega) hd
      omega
def NHall (F n2 n3 : Int32) (st ch w : Nat → Int32) : Prop := F.toInt = 0 → (∀ c : Nat, (c : Int) < n2.toInt → iv 0 3 (st c)) ∧ ∀ q : Nat, (q : Int) < n3.toInt → (ch q).toInt < n2.toInt ∧ 1 ≤ (w q).toInt ∧ ∀ i, i < q → ch i ≠ ch q
theorem NHall.F {F F2 n2 n3 : Int32} {st ch w : Nat → Int32} (h : NHall F n2 n3 st ch w) (hF : F2.toInt = 0 → F.toInt = 0) : NHall F2 n2 n3 st ch w := fun q => h (hF q)
theorem NHall.no {F n2 n3 : Int32} {st ch w : Nat → Int32} (h : F.toInt ≠ 0) : NHall F n2 n3 st ch w := fun q => absurd q h
theorem NHall.nil {F : Int32} {st ch w : Nat → Int32} : NHall F 0 0 st ch w := fun _ => ⟨fun c hc => by rw [sp0] at hc; omega, fun q hq => by rw [sp0] at hq; omega⟩
theorem NHall.chair {F F2 n2 n2' n3 v : Int32} {st st2 ch w : Nat → Int32} (h : NHall F n2 n3 st ch w) (h0 : 0 ≤ n2.toInt) (hF : F2.toInt = 0 → F.toInt = 0 ∧ iv 0 3 v) (e : st2 = upd st (Int32.toNatClampNeg n2) v) (en : n2'.toInt = n2.toInt + 1) : NHall F2 n2' n3 st2 ch w := by
  intro hq
  obtain ⟨f0, fv⟩ := hF hq
  obtain ⟨h1, h2⟩ := h f0
  have ek := toNatClampNeg_toInt h0
  refine ⟨fun c hc => ?_, fun q hq => ⟨by have := (h2 q hq).1; omega, (h2 q hq).2⟩⟩
  by_cases hi : c = Int32.toNatClampNeg n2
  · rw [e, hi, pk_us]; exact fv
  · rw [e, pk_un hi]; exact h1 c (by omega)
theorem NHall.room {F n2 n3 c : Int32} {st ch w : Nat → Int32} (h : NHall F n2 n3 st ch w) (hF : F.toInt = 0) (hr : rowIn 0 7 ch) (h3 : 0 ≤ n3.toInt) (hc : 0 ≤ c.toInt ∧ c.toInt < n2.toInt) (hn : ∀ j : Nat, (j : Int) < n3.toInt → (ch j).toInt ≠ c.toInt) : n3.toInt < n2.toInt := by
  obtain ⟨_, h2⟩ := h hF
  have hp := pig n2.toInt.toNat (n3.toInt.toNat + 1) (fun j => if j < n3.toInt.toNat then (ch j).toInt.toNat else c.toInt.toNat) (fun j hj => by
    by_cases q : j < n3.toInt.toNat
    · simp only [q, if_true]
      have := (h2 j (by omega)).1
      have := (hr j).1
      omega
    · simp only [q, if_false]
      omega) (fun i j hij hj => by
    by_cases q2 : j < n3.toInt.toNat
    · have q : i < n3.toInt.toNat := by omega
      simp only [q, q2, if_true]
      have hne := (h2 j (by omega)).2.2 i hij
      have a1 := (hr i).1
      have a2 := (hr j).1
      intro e
      exact hne ((sp_eq _ _).mpr (by omega))
    · have q : i < n3.toInt.toNat := by omega
      simp only [q, q2, if_true, if_false]
      have hne := hn i (by omega)
      have a1 := (hr i).1
      omega)
  omega
theorem NHall.sit {F F2 n2 n3 n3' c v : Int32} {st ch ch2 w w2 : Nat → Int32} (h : NHall F n2 n3 st ch w) (hF : F.toInt = 0) (h3 : 0 ≤ n3.toInt) (hc : c.toInt < n2.toInt) (hv : 1 ≤ v.toInt) (hn : ∀ j : Nat, (j : Int) < n3.toInt → (ch j).toInt ≠ c.toInt) (e1 : ch2 = upd ch (Int32.toNatClampNeg n3) c) (e2 : w2 = upd w (Int32.toNatClampNeg n3) v) (en : n3'.toInt = n3.toInt + 1) : NHall F2 n2 n3' st ch2 w2 := by
  intro _
  obtain ⟨h1, h2⟩ := h hF
  have ek := toNatClampNeg_toInt h3
  refine ⟨h1, fun q hq => ?_⟩
  by_cases hi : q = Int32.toNatClampNeg n3
  · subst hi
    rw [e1, e2, pk_us, pk_us]
    refine ⟨hc, hv, fun i hlt => ?_⟩
    rw [pk_un (by omega)]
    intro e
    exact hn i (by omega) (by rw [e])
  · rw [e1, e2, pk_un hi, pk_un hi]
    have := h2 q (by omega)
    refine ⟨this.1, this.2.1, fun i hlt => ?_⟩
    rw [pk_un (by omega)]
    exact this.2.2 i hlt
theorem NHall.hall {F n2 n3 : Int32} {st ch w : Nat → Int32} (h : NHall F n2 n3 st ch w) (hF : F.toInt = 0) : HallOk n2 n3 st ch w := ⟨(h hF).1, fun q hq => ⟨((h hF).2 q hq).1, ((h hF).2 q hq).2.1⟩⟩
/-- a clause of a rule -/
def ClF (so nu sa ta ea : Nat → Int32) (sl e : Int) (ix : Nat) : Prop := 0 ≤ (sa ix).toInt ∧ (sa ix).toInt ≤ (ta ix).toInt ∧ (ta ix).toInt ≤ (ea ix).toInt ∧ (ea ix).toInt ≤ e ∧ RunFrom so nu sl (sa ix).toInt (ta ix).toInt 0 ∧ RunFrom so nu sl (ta ix).toInt (ea ix).toInt 0
def RcI (so nu so2 nu2 sa ta ea sa2 ta2 ea2 : Nat → Int32) (sl e e2 F : Int) (ix : Nat) : Prop := Lo so nu so2 nu2 (300 * sl + e) ∧ e ≤ e2 ∧ (∀ j, j ≠ ix → sa2 j = sa j ∧ ta2 j = ta j ∧ ea2 j = ea j) ∧ (F = 0 → ClF so2 nu2 sa2 ta2 ea2 sl e2 ix)
theorem RcI.no {so nu sa ta ea : Nat → Int32} {sl e F : Int} {ix : Nat} (h : F ≠ 0) : RcI so nu so nu sa ta ea sa ta ea sl e e F ix := ⟨Lo.rf, Int.le_refl _, fun _ _ => ⟨rfl, rfl, rfl⟩, fun q => absurd q h⟩
theorem Gr.run {so nu : Nat → Int32} {w k u : Int} {m : Nat} (h : Gr so nu (300 * w) k u m) : RunFrom so nu w k u 0 := ⟨m, by
  have := h 0
  rw [Nat.zero_add] at this
  exact this⟩
theorem RcI.mk1 {so nu so1 nu1 sa ta ea sa2 ta2 ea2 : Nat → Int32} {sl e e1 F F2 : Int} {z v0 v1 v2 : Int32} (h : TmI so nu so1 nu1 (300 * sl) e e1 F 1) (hz : 0 ≤ z.toInt) (hF : F2 = 0 → F = 0) (he : 0 ≤ e) (a0 : v0.toInt = e) (a1 : v1.toInt = e1) (a2 : v2.toInt = e1) (q0 : sa2 = upd sa (Int32.toNatClampNeg z) v0) (q1 : ta2 = upd ta (Int32.toNatClampNeg z) v1) (q2 : ea2 = upd ea (Int32.toNatClampNeg z) v2) : RcI so nu so1 nu1 sa ta ea sa2 ta2 ea2 sl e e1 F2 (Int32.toNatClampNeg z) := by
  have hle := h.2.1
  refine ⟨h.1, hle, fun j hj => by rw [q0, q1, q2, pk_un hj, pk_un hj, pk_un hj]; exact ⟨rfl, rfl, rfl⟩, fun q => ?_⟩
  unfold ClF
  rw [q0, q1, q2, pk_us, pk_us, pk_us, a0, a1, a2]
  exact ⟨he, hle, Int.le_refl _, Int.le_refl _, Gr.run (h.2.2 (hF q)), Gr.run (m := 0) Gr.rf⟩
theorem RcI.mk2 {so nu so1 nu1 so2 nu2 sa ta ea sa2 ta2 ea2 : Nat → Int32} {sl e e1 e2 F F2 : Int} {z v0 v1 v2 : Int32} {m : Nat} (h : TmI so nu so1 nu1 (300 * sl) e e1 F 1) (h2 : TmI so1 nu1 so2 nu2 (300 * sl) e1 e2 F2 m) (hz : 0 ≤ z.toInt) (hF : F2 = 0 → F = 0) (he : 0 ≤ e) (hb : 0 ≤ 300 * sl + e) (a0 : v0.toInt = e) (a1 : v1.toInt = e1) (a2 : v2.toInt = e2) (q0 : sa2 = upd sa (Int32.toNatClampNeg z) v0) (q1 : ta2 = upd ta (Int32.toNatClampNeg z) v1) (q2 : ea2 = upd ea (Int32.toNatClampNeg z) v2) : RcI so nu so2 nu2 sa ta ea sa2 ta2 ea2 sl e e2 F2 (Int32.toNatClampNeg z) := by
  have hle := h.2.1
  have hle2 := h2.2.1
  refine ⟨h.1.tr h2.1 (by omega), by omega, fun j hj => by rw [q0, q1, q2, pk_un hj, pk_un hj, pk_un hj]; exact ⟨rfl, rfl, rfl⟩, fun q => ?_⟩
  unfold ClF
  rw [q0, q1, q2, pk_us, pk_us, pk_us, a0, a1, a2]
  exact ⟨he, hle, hle2, Int.le_refl _, Gr.run ((h.2.2 (hF q)).cg h2.1 hle hb), Gr.run (h2.2.2 q)⟩
def RI (so0 nu0 sa0 ta0 ea0 so nu sa ta ea : Nat → Int32) (sl e F n : Int) : Prop := 0 ≤ e ∧ Lo so0 nu0 so nu (300 * sl) ∧ (∀ j : Nat, (j : Int) < 12 * sl → sa j = sa0 j ∧ ta j = ta0 j ∧ ea j = ea0 j) ∧ (F = 0 → ∀ c : Nat, (c : Int) < n → ClF so nu sa ta ea sl e (12 * sl + c).toNat)
theorem RI.nil {so nu sa ta ea : Nat → Int32} {sl e F : Int} {n : Int32} (he : 0 ≤ e) (hn : n.toInt = 0) : RI so nu sa ta ea so nu sa ta ea sl e F n.toInt := ⟨he, Lo.rf, fun _ _ => ⟨rfl, rfl, rfl⟩, fun _ c hc => by omega⟩
theorem RunFrom.cg {so nu so2 nu2 : Nat → Int32} {w k u n : Int} (h : RunFrom so nu w k u n) (hl : Lo so nu so2 nu2 (300 * w + u)) (hk : 0 ≤ 300 * w + k) (hku : k ≤ u) : RunFrom so2 nu2 w k u n := by
  obtain ⟨h2, hr⟩ := h
  exact ⟨h2, run_cong _ _ _ _ (fun j q1 q2 => hl j (by omega)) hr⟩
theorem ClF.cg {so nu so2 nu2 sa ta ea sa2 ta2 ea2 : Nat → Int32} {sl e e2 : Int} {ix : Nat} (h : ClF so nu sa ta ea sl e ix) (hl : Lo so nu so2 nu2 (300 * sl + e)) (hs : 0 ≤ sl) (he : e ≤ e2) (hx : sa2 ix = sa ix ∧ ta2 ix = ta ix ∧ ea2 ix = ea ix) : ClF so2 nu2 sa2 ta2 ea2 sl e2 ix := by
  obtain ⟨q1, q2, q3, q4, q5, q6⟩ := h
  unfold ClF
  rw [hx.1, hx.2.1, hx.2.2]
  exact ⟨q1, q2, q3, by omega, q5.cg (hl.le (by omega)) (by omega) q2, q6.cg (hl.le (by omega)) (by omega) q3⟩
theorem RI.step {so0 nu0 sa0 ta0 ea0 so nu sa ta ea so2 nu2 sa2 ta2 ea2 : Nat → Int32} {sl e e2 F F2 F3 : Int} {n n2 : Int32} {ix : Nat} (h : RI so0 nu0 sa0 ta0 ea0 so nu sa ta ea sl e F n.toInt) (hc : RcI so nu so2 nu2 sa ta ea sa2 ta2 ea2 sl e e2 F2 ix) (hix : (ix : Int) = 12 * sl + n.toInt) (hs : 0 ≤ sl) (hn : 0 ≤ n.toInt) (hF : F3 = 0 → F2 = 0 ∧ F = 0) (en : n2.toInt = n.toInt + 1) : RI so0 nu0 sa0 ta0 ea0 so2 nu2 sa2 ta2 ea2 sl e2 F3 n2.toInt := by
  obtain ⟨h0, h1, h2, h3⟩ := h
  obtain ⟨c1, c2, c3, c4⟩ := hc
  refine ⟨by omega, h1.tr c1 (by omega), fun j hj => ?_, fun q c hc => ?_⟩
  · have a := h2 j hj
    have b := c3 j (by omega)
    exact ⟨b.1.trans a.1, b.2.1.trans a.2.1, b.2.2.trans a.2.2⟩
  · by_cases e9 : (c : Int) = n.toInt
    · have := c4 (hF q).1
      rw [show (12 * sl + (c : Int)).toNat = ix from by omega]
      exact this
    · exact (h3 (hF q).2 c (by omega)).cg c1 hs c2 (c3 _ (by omega))
theorem RI.fin {so0 nu0 sa0 ta0 ea0 so nu sa ta ea cl cl2 : Nat → Int32} {rl rl2 sl n : Int32} {e F : Int} (hR : RulesOk rl cl sa0 ta0 ea0 so0 nu0) (h : RI so0 nu0 sa0 ta0 ea0 so nu sa ta ea sl.toInt e F n.toInt) (hs : sl.toInt = rl.toInt) (h0 : 0 ≤ rl.toInt) (hI : ∀ r : Nat, (r : Int) < rl.toInt → ∀ c : Nat, (c : Int) < (cl r).toInt → (ta0 (12 * r + c)).toInt ≤ 300 ∧ (ea0 (12 * r + c)).toInt ≤ 300 ∧ 0 ≤ (sa0 (12 * r + c)).toInt ∧ 0 ≤ (ta0 (12 * r + c)).toInt) (e1 : cl2 = upd cl (Int32.toNatClampNeg sl) n) (hr : (F ≠ 0 ∧ rl2.toInt = rl.toInt) ∨ (F = 0 ∧ n.toInt ≤ 12 ∧ rl2.toInt = rl.toInt + 1)) : RulesOk rl2 cl2 sa ta ea so nu := by
  obtain ⟨q0, q1, q2, q3⟩ := h
  have ek := toNatClampNeg_toInt (x := sl) (by omega)
  have kq : ∀ {k u : Int} {r : Nat}, (r : Int) < rl.toInt → u ≤ 300 → 0 ≤ k → RunFrom so0 nu0 r k u 0 → RunFrom so nu r k u 0 := fun {k u r} hlt hu hk hrun => by
    by_cases hku : k ≤ u
    · exact hrun.cg (q1.le (by omega)) (by omega) hku
    · obtain ⟨h2, hr⟩ := hrun
      rw [show (u - k).toNat = 0 from by omega] at hr
      refine ⟨h2, ?_⟩
      rw [show (u - k).toNat = 0 from by omega]
      exact hr
  intro r hrl
  by_cases hq : r = Int32.toNatClampNeg sl
  · have hF : F = 0 ∧ n.toInt ≤ 12 := by
      rcases hr with g | g
      · omega
      · exact ⟨g.1, g.2.1⟩
    rw [e1, hq, pk_us]
    refine ⟨hF.2, fun c hc => ?_⟩
    have := q3 hF.1 c hc
    rw [show (12 * sl.toInt + (c : Int)).toNat = 12 * Int32.toNatClampNeg sl + c from by omega] at this
    obtain ⟨_, _, _, _, w5, w6⟩ := this
    rw [ek] at w5 w6
    exact ⟨w5, w6⟩
  · have hlt : (r : Int) < rl.toInt := by rcases hr with g | g <;> omega
    rw [e1, pk_un hq]
    obtain ⟨p1, p2⟩ := hR r hlt
    refine ⟨p1, fun c hc => ?_⟩
    obtain ⟨w1, w2⟩ := p2 c hc
    obtain ⟨i1, i2, i3, i4⟩ := hI r hlt c hc
    have hx := q2 (12 * r + c) (by omega)
    rw [hx.1, hx.2.1, hx.2.2]
    exact ⟨kq hlt i1 i3 w1, kq hlt i2 i4 w2⟩
theorem dX9_amount_0 : decode cX9_amount 0 = .ok (.aload_n 0, 1) := by decide +kernel
theorem dX9_amount_1 : decode cX9_amount 1 = .ok (.invokevirtual 184, 3) := by decide +kernel
theorem dX9_amount_4 : decode cX9_amount 4 = .ok (.aload_n 0, 1) := by decide +kernel
theorem dX9_amount_5 : decode cX9_amount 5 = .ok (.getfield 164, 3) := by decide +kernel
theorem dX9_amount_8 : decode cX9_amount 8 = .ok (.istore_n 3, 1) := by decide +kernel
theorem dX9_amount_9 : decode cX9_amount 9 = .ok (.aload_n 0, 1) := by decide +kernel
theorem dX9_amount_10 : decode cX9_amount 10 = .ok (.getfield 161, 3) := by decide +kernel
theorem dX9_amount_13 : decode cX9_amount 13 = .ok (.ifCond .ne 12, 3) := by decide +kernel
theorem dX9_amount_16 : decode cX9_amount 16 = .ok (.aload_n 0, 1) := by decide +kernel
theorem dX9_amount_17 : decode cX9_amount 17 = .ok (.ldc 208, 2) := by decide +kernel
theorem dX9_amount_19 : decode cX9_amount 19 = .ok (.invokevirtual 209, 3) := by decide +kernel
theorem dX9_amount_22 : decode cX9_amount 22 = .ok (.goto 4, 3) := by decide +kernel
theorem dX9_amount_25 : decode cX9_amount 25 = .ok (.iconst 0, 1) := by decide +kernel
theorem dX9_amount_26 : decode cX9_amount 26 = .ok (.istore 4, 2) := by decide +kernel
theorem dX9_amount_28 : decode cX9_amount 28 = .ok (.aload_n 0, 1) := by decide +kernel
theorem dX9_amount_29 : decode cX9_amount 29 = .ok (.getfield 161, 3) := by decide +kernel
theorem dX9_amount_32 : decode cX9_amount 32 = .ok (.ifCond .ne 22, 3) := by decide +kernel
theorem dX9_amount_35 : decode cX9_amount 35 = .ok (.iload 4, 2) := by decide +kernel
theorem dX9_amount_37 : decode cX9_amount 37 = .ok (.i2l, 1) := by decide +kernel
theorem dX9_amount_38 : decode cX9_amount 38 = .ok (.iload_n 1, 1) := by decide +kernel
theorem dX9_amount_39 : decode cX9_amount 39 = .ok (.i2l, 1) := by decide +kernel
theorem dX9_amount_40 : decode cX9_amount 40 = .ok (.iload_n 2, 1) := by decide +kernel
theorem dX9_amount_41 : decode cX9_amount 41 = .ok (.i2l, 1) := by decide +kernel
theorem dX9_amount_42 : decode cX9_amount 42 = .ok (.invokestatic 131, 3) := by decide +kernel
theorem dX9_amount_45 : decode cX9_amount 45 = .ok (.ifCond .ne 9, 3) := by decide +kernel
theorem dX9_amount_48 : decode cX9_amount 48 = .ok (.aload_n 0, 1) := by decide +kernel
theorem dX9_amount_49 : decode cX9_amount 49 = .ok (.iconst 1, 1) := by decide +kernel
theorem dX9_amount_50 : decode cX9_amount 50 = .ok (.iload_n 3, 1) := by decide +kernel
theorem dX9_amount_51 : decode cX9_amount 51 = .ok (.invokevirtual 200, 3) := by decide +kernel
theorem dX9_amount_54 : decode cX9_amount 54 = .ok (.iload 4, 2) := by decide +kernel
theorem dX9_amount_56 : decode cX9_amount 56 = .ok (.ireturn, 1) := by decide +kernel
theorem dX9_goesOn_0 : decode cX9_goesOn 0 = .ok (.aload_n 0, 1) := by decide +kernel
theorem dX9_goesOn_1 : decode cX9_goesOn 1 = .ok (.invokevirtual 184, 3) := by decide +kernel
theorem dX9_goesOn_4 : decode cX9_goesOn 4 = .ok (.aload_n 0, 1) := by decide +kernel
theorem dX9_goesOn_5 : decode cX9_goesOn 5 = .ok (.getfield 161, 3) := by decide +kernel
theorem dX9_goesOn_8 : decode cX9_goesOn 8 = .ok (.ifCond .ne 32, 3) := by decide +kernel
theorem dX9_goesOn_11 : decode cX9_goesOn 11 = .ok (.aload_n 0, 1) := by decide +kernel
theorem dX9_goesOn_12 : decode cX9_goesOn 12 = .ok (.getfield 164, 3) := by decide +kernel
theorem dX9_goesOn_15 : decode cX9_goesOn 15 = .ok (.aload_n 0, 1) := by decide +kernel
theorem dX9_goesOn_16 : decode cX9_goesOn 16 = .ok (.getfield 135, 3) := by decide +kernel
theorem dX9_goesOn_19 : decode cX9_goesOn 19 = .ok (.if_icmp .ge 21, 3) := by decide +kernel
theorem dX9_goesOn_22 : decode cX9_goesOn 22 = .ok (.aload_n 0, 1) := by decide +kernel
theorem dX9_goesOn_23 : decode cX9_goesOn 23 = .ok (.invokevirtual 167, 3) := by decide +kernel
theorem dX9_goesOn_26 : decode cX9_goesOn 26 = .ok (.bipush 59, 2) := by decide +kernel
theorem dX9_goesOn_28 : decode cX9_goesOn 28 = .ok (.if_icmp .eq 12, 3) := by decide +kernel
theorem dX9_goesOn_31 : decode cX9_goesOn 31 = .ok (.aload_n 0, 1) := by decide +kernel
theorem dX9_goesOn_32 : decode cX9_goesOn 32 = .ok (.iconst 0, 1) := by decide +kernel
theorem dX9_goesOn_33 : decode cX9_goesOn 33 = .ok (.aload_n 0, 1) := by decide +kernel
theorem dX9_goesOn_34 : decode cX9_goesOn 34 = .ok (.getfield 164, 3) := by decide +kernel
theorem dX9_goesOn_37 : decode cX9_goesOn 37 = .ok (.invokevirtual 200, 3) := by decide +kernel
theorem dX9_goesOn_40 : decode cX9_goesOn 40 = .ok (.aload_n 0, 1) := by decide +kernel
theorem dX9_goesOn_41 : decode cX9_goesOn 41 = .ok (.getfield 161, 3) := by decide +kernel
theorem dX9_goesOn_44 : decode cX9_goesOn 44 = .ok (.ifCond .ne 18, 3) := by decide +kernel
theorem dX9_goesOn_47 : decode cX9_goesOn 47 = .ok (.aload_n 0, 1) := by decide +kernel
theorem dX9_goesOn_48 : decode cX9_goesOn 48 = .ok (.getfield 164, 3) := by decide +kernel
theorem dX9_goesOn_51 : decode cX9_goesOn 51 = .ok (.aload_n 0, 1) := by decide +kernel
theorem dX9_goesOn_52 : decode cX9_goesOn 52 = .ok (.getfield 135, 3) := by decide +kernel
theorem dX9_goesOn_55 : decode cX9_goesOn 55 = .ok (.if_icmp .ge 7, 3) := by decide +kernel
theorem dX9_goesOn_58 : decode cX9_goesOn 58 = .ok (.iconst 1, 1) := by decide +kernel
theorem dX9_goesOn_59 : decode cX9_goesOn 59 = .ok (.goto 4, 3) := by decide +kernel
theorem dX9_goesOn_62 : decode cX9_goesOn 62 = .ok (.iconst 0, 1) := by decide +kernel
theorem dX9_goesOn_63 : decode cX9_goesOn 63 = .ok (.istore_n 1, 1) := by decide +kernel
theorem dX9_goesOn_64 : decode cX9_goesOn 64 = .ok (.aload_n 0, 1) := by decide +kernel
theorem dX9_goesOn_65 : decode cX9_goesOn 65 = .ok (.dup, 1) := by decide +kernel
theorem dX9_goesOn_66 : decode cX9_goesOn 66 = .ok (.getfield 164, 3) := by decide +kernel
theorem dX9_goesOn_69 : decode cX9_goesOn 69 = .ok (.iconst 1, 1) := by decide +kernel
theorem dX9_goesOn_70 : decode cX9_goesOn 70 = .ok (.iadd, 1) := by decide +kernel
theorem dX9_goesOn_71 : decode cX9_goesOn 71 = .ok (.putfield 164, 3) := by decide +kernel
theorem dX9_goesOn_74 : decode cX9_goesOn 74 = .ok (.iload_n 1, 1) := by decide +kernel
theorem dX9_goesOn_75 : decode cX9_goesOn 75 = .ok (.ireturn, 1) := by decide +kernel
theorem dX9_hallClause_0 : decode cX9_hallClause 0 = .ok (.aload_n 0, 1) := by decide +kernel
theorem dX9_hallClause_1 : decode cX9_hallClause 1 = .ok (.invokevirtual 184, 3) := by decide +kernel
theorem dX9_hallClause_4 : decode cX9_hallClause 4 = .ok (.aload_n 0, 1) := by decide +kernel
theorem dX9_hallClause_5 : decode cX9_hallClause 5 = .ok (.getfield 164, 3) := by decide +kernel
theorem dX9_hallClause_8 : decode cX9_hallClause 8 = .ok (.istore_n 2, 1) := by decide +kernel
theorem dX9_hallClause_9 : decode cX9_hallClause 9 = .ok (.iconst 0, 1) := by decide +kernel
theorem dX9_hallClause_10 : decode cX9_hallClause 10 = .ok (.istore_n 3, 1) := by decide +kernel
theorem dX9_hallClause_11 : decode cX9_hallClause 11 = .ok (.iload_n 3, 1) := by decide +kernel
theorem dX9_hallClause_12 : decode cX9_hallClause 12 = .ok (.iconst 4, 1) := by decide +kernel
theorem dX9_hallClause_13 : decode cX9_hallClause 13 = .ok (.if_icmp .ge 20, 3) := by decide +kernel
theorem dX9_hallClause_16 : decode cX9_hallClause 16 = .ok (.aload_n 0, 1) := by decide +kernel
theorem dX9_hallClause_17 : decode cX9_hallClause 17 = .ok (.iload_n 3, 1) := by decide +kernel
theorem dX9_hallClause_18 : decode cX9_hallClause 18 = .ok (.invokestatic 270, 3) := by decide +kernel
theorem dX9_hallClause_21 : decode cX9_hallClause 21 = .ok (.invokevirtual 187, 3) := by decide +kernel
theorem dX9_hallClause_24 : decode cX9_hallClause 24 = .ok (.ifCond .ne 9, 3) := by decide +kernel
theorem dX9_hallClause_27 : decode cX9_hallClause 27 = .ok (.iinc 3 1, 3) := by decide +kernel
theorem dX9_hallClause_30 : decode cX9_hallClause 30 = .ok (.goto (-19), 3) := by decide +kernel
theorem dX9_hallClause_33 : decode cX9_hallClause 33 = .ok (.iload_n 3, 1) := by decide +kernel
theorem dX9_hallClause_34 : decode cX9_hallClause 34 = .ok (.iconst 4, 1) := by decide +kernel
theorem dX9_hallClause_35 : decode cX9_hallClause 35 = .ok (.if_icmp .ne 10, 3) := by decide +kernel
theorem dX9_hallClause_38 : decode cX9_hallClause 38 = .ok (.aload_n 0, 1) := by decide +kernel
theorem dX9_hallClause_39 : decode cX9_hallClause 39 = .ok (.iconst 0, 1) := by decide +kernel
theorem dX9_hallClause_40 : decode cX9_hallClause 40 = .ok (.iload_n 2, 1) := by decide +kernel
theorem dX9_hallClause_41 : decode cX9_hallClause 41 = .ok (.invokevirtual 200, 3) := by decide +kernel
theorem dX9_hallClause_44 : decode cX9_hallClause 44 = .ok (.return_, 1) := by decide +kernel
theorem dX9_hallClause_45 : decode cX9_hallClause 45 = .ok (.aload_n 0, 1) := by decide +kernel
theorem dX9_hallClause_46 : decode cX9_hallClause 46 = .ok (.iload_n 3, 1) := by decide +kernel
theorem dX9_hallClause_47 : decode cX9_hallClause 47 = .ok (.iload_n 1, 1) := by decide +kernel
theorem dX9_hallClause_48 : decode cX9_hallClause 48 = .ok (.invokevirtual 273, 3) := by decide +kernel
theorem dX9_hallClause_51 : decode cX9_hallClause 51 = .ok (.ifCond .eq 10, 3) := by decide +kernel
theorem dX9_hallClause_54 : decode cX9_hallClause 54 = .ok (.aload_n 0, 1) := by decide +kernel
theorem dX9_hallClause_55 : decode cX9_hallClause 55 = .ok (.iconst 4, 1) := by decide +kernel
theorem dX9_hallClause_56 : decode cX9_hallClause 56 = .ok (.iload_n 2, 1) := by decide +kernel
theorem dX9_hallClause_57 : decode cX9_hallClause 57 = .ok (.invokevirtual 200, 3) := by decide +kernel
theorem dX9_hallClause_60 : decode cX9_hallClause 60 = .ok (.return_, 1) := by decide +kernel
theorem dX9_hallClause_61 : decode cX9_hallClause 61 = .ok (.aload_n 0, 1) := by decide +kernel
theorem dX9_hallClause_62 : decode cX9_hallClause 62 = .ok (.dup, 1) := by decide +kernel
theorem dX9_hallClause_63 : decode cX9_hallClause 63 = .ok (.getfield 164, 3) := by decide +kernel
theorem dX9_hallClause_66 : decode cX9_hallClause 66 = .ok (.iload_n 3, 1) := by decide +kernel
theorem dX9_hallClause_67 : decode cX9_hallClause 67 = .ok (.invokestatic 270, 3) := by decide +kernel
theorem dX9_hallClause_70 : decode cX9_hallClause 70 = .ok (.invokevirtual 175, 3) := by decide +kernel
theorem dX9_hallClause_73 : decode cX9_hallClause 73 = .ok (.iadd, 1) := by decide +kernel
theorem dX9_hallClause_74 : decode cX9_hallClause 74 = .ok (.putfield 164, 3) := by decide +kernel
theorem dX9_hallClause_77 : decode cX9_hallClause 77 = .ok (.aload_n 0, 1) := by decide +kernel
theorem dX9_hallClause_78 : decode cX9_hallClause 78 = .ok (.iload_n 3, 1) := by decide +kernel
theorem dX9_hallClause_79 : decode cX9_hallClause 79 = .ok (.invokevirtual 277, 3) := by decide +kernel
theorem dX9_hallClause_82 : decode cX9_hallClause 82 = .ok (.return_, 1) := by decide +kernel
theorem dX9_hallPart_0 : decode cX9_hallPart 0 = .ok (.iload_n 1, 1) := by decide +kernel
theorem dX9_hallPart_1 : decode cX9_hallPart 1 = .ok (.tableswitch 120 0 2 #[27, 37, 68], 27) := by decide +kernel
theorem dX9_hallPart_28 : decode cX9_hallPart 28 = .ok (.aload_n 0, 1) := by decide +kernel
theorem dX9_hallPart_29 : decode cX9_hallPart 29 = .ok (.getfield 43, 3) := by decide +kernel
theorem dX9_hallPart_32 : decode cX9_hallPart 32 = .ok (.iconst 0, 1) := by decide +kernel
theorem dX9_hallPart_33 : decode cX9_hallPart 33 = .ok (.iconst 1, 1) := by decide +kernel
theorem dX9_hallPart_34 : decode cX9_hallPart 34 = .ok (.iastore, 1) := by decide +kernel
theorem dX9_hallPart_35 : decode cX9_hallPart 35 = .ok (.goto 90, 3) := by decide +kernel
theorem dX9_hallPart_38 : decode cX9_hallPart 38 = .ok (.aload_n 0, 1) := by decide +kernel
theorem dX9_hallPart_39 : decode cX9_hallPart 39 = .ok (.getfield 46, 3) := by decide +kernel
theorem dX9_hallPart_42 : decode cX9_hallPart 42 = .ok (.aload_n 0, 1) := by decide +kernel
theorem dX9_hallPart_43 : decode cX9_hallPart 43 = .ok (.getfield 43, 3) := by decide +kernel
theorem dX9_hallPart_46 : decode cX9_hallPart 46 = .ok (.iconst 1, 1) := by decide +kernel
theorem dX9_hallPart_47 : decode cX9_hallPart 47 = .ok (.iaload, 1) := by decide +kernel
theorem dX9_hallPart_48 : decode cX9_hallPart 48 = .ok (.aload_n 0, 1) := by decide +kernel
theorem dX9_hallPart_49 : decode cX9_hallPart 49 = .ok (.iconst 0, 1) := by decide +kernel
theorem dX9_hallPart_50 : decode cX9_hallPart 50 = .ok (.bipush 99, 2) := by decide +kernel
theorem dX9_hallPart_52 : decode cX9_hallPart 52 = .ok (.invokevirtual 263, 3) := by decide +kernel
theorem dX9_hallPart_55 : decode cX9_hallPart 55 = .ok (.iastore, 1) := by decide +kernel
theorem dX9_hallPart_56 : decode cX9_hallPart 56 = .ok (.aload_n 0, 1) := by decide +kernel
theorem dX9_hallPart_57 : decode cX9_hallPart 57 = .ok (.getfield 43, 3) := by decide +kernel
theorem dX9_hallPart_60 : decode cX9_hallPart 60 = .ok (.iconst 1, 1) := by decide +kernel
theorem dX9_hallPart_61 : decode cX9_hallPart 61 = .ok (.dup2, 1) := by decide +kernel
theorem dX9_hallPart_62 : decode cX9_hallPart 62 = .ok (.iaload, 1) := by decide +kernel
theorem dX9_hallPart_63 : decode cX9_hallPart 63 = .ok (.iconst 1, 1) := by decide +kernel
theorem dX9_hallPart_64 : decode cX9_hallPart 64 = .ok (.iadd, 1) := by decide +kernel
theorem dX9_hallPart_65 : decode cX9_hallPart 65 = .ok (.iastore, 1) := by decide +kernel
theorem dX9_hallPart_66 : decode cX9_hallPart 66 = .ok (.goto 59, 3) := by decide +kernel
theorem dX9_hallPart_69 : decode cX9_hallPart 69 = .ok (.aload_n 0, 1) := by decide +kernel
theorem dX9_hallPart_70 : decode cX9_hallPart 70 = .ok (.getfield 43, 3) := by decide +kernel
theorem dX9_hallPart_73 : decode cX9_hallPart 73 = .ok (.iconst 2, 1) := by decide +kernel
theorem dX9_hallPart_74 : decode cX9_hallPart 74 = .ok (.iaload, 1) := by decide +kernel
theorem dX9_hallPart_75 : decode cX9_hallPart 75 = .ok (.istore_n 2, 1) := by decide +kernel
theorem dX9_hallPart_76 : decode cX9_hallPart 76 = .ok (.aload_n 0, 1) := by decide +kernel
theorem dX9_hallPart_77 : decode cX9_hallPart 77 = .ok (.getfield 49, 3) := by decide +kernel
theorem dX9_hallPart_80 : decode cX9_hallPart 80 = .ok (.iload_n 2, 1) := by decide +kernel
theorem dX9_hallPart_81 : decode cX9_hallPart 81 = .ok (.aload_n 0, 1) := by decide +kernel
theorem dX9_hallPart_82 : decode cX9_hallPart 82 = .ok (.iconst 1, 1) := by decide +kernel
theorem dX9_hallPart_83 : decode cX9_hallPart 83 = .ok (.bipush 60, 2) := by decide +kernel
theorem dX9_hallPart_85 : decode cX9_hallPart 85 = .ok (.invokevirtual 263, 3) := by decide +kernel
theorem dX9_hallPart_88 : decode cX9_hallPart 88 = .ok (.iastore, 1) := by decide +kernel
theorem dX9_hallPart_89 : decode cX9_hallPart 89 = .ok (.aload_n 0, 1) := by decide +kernel
theorem dX9_hallPart_90 : decode cX9_hallPart 90 = .ok (.getfield 52, 3) := by decide +kernel
theorem dX9_hallPart_93 : decode cX9_hallPart 93 = .ok (.iload_n 2, 1) := by decide +kernel
theorem dX9_hallPart_94 : decode cX9_hallPart 94 = .ok (.aload_n 0, 1) := by decide +kernel
theorem dX9_hallPart_95 : decode cX9_hallPart 95 = .ok (.iconst 0, 1) := by decide +kernel
theorem dX9_hallPart_96 : decode cX9_hallPart 96 = .ok (.aload_n 0, 1) := by decide +kernel
theorem dX9_hallPart_97 : decode cX9_hallPart 97 = .ok (.getfield 43, 3) := by decide +kernel
theorem dX9_hallPart_100 : decode cX9_hallPart 100 = .ok (.iconst 1, 1) := by decide +kernel
theorem dX9_hallPart_101 : decode cX9_hallPart 101 = .ok (.iaload, 1) := by decide +kernel
theorem dX9_hallPart_102 : decode cX9_hallPart 102 = .ok (.iconst 1, 1) := by decide +kernel
theorem dX9_hallPart_103 : decode cX9_hallPart 103 = .ok (.isub, 1) := by decide +kernel
theorem dX9_hallPart_104 : decode cX9_hallPart 104 = .ok (.invokevirtual 263, 3) := by decide +kernel
theorem dX9_hallPart_107 : decode cX9_hallPart 107 = .ok (.iastore, 1) := by decide +kernel
theorem dX9_hallPart_108 : decode cX9_hallPart 108 = .ok (.aload_n 0, 1) := by decide +kernel
theorem dX9_hallPart_109 : decode cX9_hallPart 109 = .ok (.getfield 43, 3) := by decide +kernel
theorem dX9_hallPart_112 : decode cX9_hallPart 112 = .ok (.iconst 2, 1) := by decide +kernel
theorem dX9_hallPart_113 : decode cX9_hallPart 113 = .ok (.dup2, 1) := by decide +kernel
theorem dX9_hallPart_114 : decode cX9_hallPart 114 = .ok (.iaload, 1) := by decide +kernel
theorem dX9_hallPart_115 : decode cX9_hallPart 115 = .ok (.iconst 1, 1) := by decide +kernel
theorem dX9_hallPart_116 : decode cX9_hallPart 116 = .ok (.iadd, 1) := by decide +kernel
theorem dX9_hallPart_117 : decode cX9_hallPart 117 = .ok (.iastore, 1) := by decide +kernel
theorem dX9_hallPart_118 : decode cX9_hallPart 118 = .ok (.goto 7, 3) := by decide +kernel
theorem dX9_hallPart_121 : decode cX9_hallPart 121 = .ok (.aload_n 0, 1) := by decide +kernel
theorem dX9_hallPart_122 : decode cX9_hallPart 122 = .ok (.invokevirtual 267, 3) := by decide +kernel
theorem dX9_hallPart_125 : decode cX9_hallPart 125 = .ok (.return_, 1) := by decide +kernel
theorem dX9_isFull_0 : decode cX9_isFull 0 = .ok (.iload_n 2, 1) := by decide +kernel
theorem dX9_isFull_1 : decode cX9_isFull 1 = .ok (.bipush 40, 2) := by decide +kernel
theorem dX9_isFull_3 : decode cX9_isFull 3 = .ok (.if_icmp .eq 24, 3) := by decide +kernel
theorem dX9_isFull_6 : decode cX9_isFull 6 = .ok (.iload_n 1, 1) := by decide +kernel
theorem dX9_isFull_7 : decode cX9_isFull 7 = .ok (.ifCond .ne 7, 3) := by decide +kernel
theorem dX9_isFull_10 : decode cX9_isFull 10 = .ok (.iconst 1, 1) := by decide +kernel
theorem dX9_isFull_11 : decode cX9_isFull 11 = .ok (.goto 4, 3) := by decide +kernel
theorem dX9_isFull_14 : decode cX9_isFull 14 = .ok (.iconst 0, 1) := by decide +kernel
theorem dX9_isFull_15 : decode cX9_isFull 15 = .ok (.iload_n 2, 1) := by decide +kernel
theorem dX9_isFull_16 : decode cX9_isFull 16 = .ok (.ifCond .ne 7, 3) := by decide +kernel
theorem dX9_isFull_19 : decode cX9_isFull 19 = .ok (.iconst 1, 1) := by decide +kernel
theorem dX9_isFull_20 : decode cX9_isFull 20 = .ok (.goto 4, 3) := by decide +kernel
theorem dX9_isFull_23 : decode cX9_isFull 23 = .ok (.iconst 0, 1) := by decide +kernel
theorem dX9_isFull_24 : decode cX9_isFull 24 = .ok (.if_icmp .eq 5, 3) := by decide +kernel
theorem dX9_isFull_27 : decode cX9_isFull 27 = .ok (.iconst 1, 1) := by decide +kernel
theorem dX9_isFull_28 : decode cX9_isFull 28 = .ok (.ireturn, 1) := by decide +kernel
theorem dX9_isFull_29 : decode cX9_isFull 29 = .ok (.iload_n 1, 1) := by decide +kernel
theorem dX9_isFull_30 : decode cX9_isFull 30 = .ok (.iconst 1, 1) := by decide +kernel
theorem dX9_isFull_31 : decode cX9_isFull 31 = .ok (.if_icmp .ne 13, 3) := by decide +kernel
theorem dX9_isFull_34 : decode cX9_isFull 34 = .ok (.aload_n 0, 1) := by decide +kernel
theorem dX9_isFull_35 : decode cX9_isFull 35 = .ok (.getfield 43, 3) := by decide +kernel
theorem dX9_isFull_38 : decode cX9_isFull 38 = .ok (.iconst 1, 1) := by decide +kernel
theorem dX9_isFull_39 : decode cX9_isFull 39 = .ok (.iaload, 1) := by decide +kernel
theorem dX9_isFull_40 : decode cX9_isFull 40 = .ok (.iconst 4, 1) := by decide +kernel
theorem dX9_isFull_41 : decode cX9_isFull 41 = .ok (.if_icmp .eq 19, 3) := by decide +kernel
theorem dX9_isFull_44 : decode cX9_isFull 44 = .ok (.iload_n 1, 1) := by decide +kernel
theorem dX9_isFull_45 : decode cX9_isFull 45 = .ok (.iconst 2, 1) := by decide +kernel
theorem dX9_isFull_46 : decode cX9_isFull 46 = .ok (.if_icmp .ne 18, 3) := by decide +kernel
theorem dX9_isFull_49 : decode cX9_isFull 49 = .ok (.aload_n 0, 1) := by decide +kernel
theorem dX9_isFull_50 : decode cX9_isFull 50 = .ok (.getfield 43, 3) := by decide +kernel
theorem dX9_isFull_53 : decode cX9_isFull 53 = .ok (.iconst 2, 1) := by decide +kernel
theorem dX9_isFull_54 : decode cX9_isFull 54 = .ok (.iaload, 1) := by decide +kernel
theorem dX9_isFull_55 : decode cX9_isFull 55 = .ok (.bipush 8, 2) := by decide +kernel
theorem dX9_isFull_57 : decode cX9_isFull 57 = .ok (.if_icmp .ne 7, 3) := by decide +kernel
theorem dX9_isFull_60 : decode cX9_isFull 60 = .ok (.iconst 1, 1) := by decide +kernel
theorem dX9_isFull_61 : decode cX9_isFull 61 = .ok (.goto 4, 3) := by decide +kernel
theorem dX9_isFull_64 : decode cX9_isFull 64 = .ok (.iconst 0, 1) := by decide +kernel
theorem dX9_isFull_65 : decode cX9_isFull 65 = .ok (.ireturn, 1) := by decide +kernel
theorem dX9_sitterPart_0 : decode cX9_sitterPart 0 = .ok (.aload_n 0, 1) := by decide +kernel
theorem dX9_sitterPart_1 : decode cX9_sitterPart 1 = .ok (.invokevirtual 184, 3) := by decide +kernel
theorem dX9_sitterPart_4 : decode cX9_sitterPart 4 = .ok (.aload_n 0, 1) := by decide +kernel
theorem dX9_sitterPart_5 : decode cX9_sitterPart 5 = .ok (.getfield 164, 3) := by decide +kernel
theorem dX9_sitterPart_8 : decode cX9_sitterPart 8 = .ok (.istore_n 1, 1) := by decide +kernel
theorem dX9_sitterPart_9 : decode cX9_sitterPart 9 = .ok (.aload_n 0, 1) := by decide +kernel
theorem dX9_sitterPart_10 : decode cX9_sitterPart 10 = .ok (.iconst 0, 1) := by decide +kernel
theorem dX9_sitterPart_11 : decode cX9_sitterPart 11 = .ok (.aload_n 0, 1) := by decide +kernel
theorem dX9_sitterPart_12 : decode cX9_sitterPart 12 = .ok (.getfield 43, 3) := by decide +kernel
theorem dX9_sitterPart_15 : decode cX9_sitterPart 15 = .ok (.iconst 2, 1) := by decide +kernel
theorem dX9_sitterPart_16 : decode cX9_sitterPart 16 = .ok (.iaload, 1) := by decide +kernel
theorem dX9_sitterPart_17 : decode cX9_sitterPart 17 = .ok (.iconst 1, 1) := by decide +kernel
theorem dX9_sitterPart_18 : decode cX9_sitterPart 18 = .ok (.isub, 1) := by decide +kernel
theorem dX9_sitterPart_19 : decode cX9_sitterPart 19 = .ok (.invokevirtual 263, 3) := by decide +kernel
theorem dX9_sitterPart_22 : decode cX9_sitterPart 22 = .ok (.istore_n 2, 1) := by decide +kernel
theorem dX9_sitterPart_23 : decode cX9_sitterPart 23 = .ok (.aload_n 0, 1) := by decide +kernel
theorem dX9_sitterPart_24 : decode cX9_sitterPart 24 = .ok (.getfield 43, 3) := by decide +kernel
theorem dX9_sitterPart_27 : decode cX9_sitterPart 27 = .ok (.iconst 3, 1) := by decide +kernel
theorem dX9_sitterPart_28 : decode cX9_sitterPart 28 = .ok (.iaload, 1) := by decide +kernel
theorem dX9_sitterPart_29 : decode cX9_sitterPart 29 = .ok (.istore_n 3, 1) := by decide +kernel
theorem dX9_sitterPart_30 : decode cX9_sitterPart 30 = .ok (.iconst 0, 1) := by decide +kernel
theorem dX9_sitterPart_31 : decode cX9_sitterPart 31 = .ok (.istore 4, 2) := by decide +kernel
theorem dX9_sitterPart_33 : decode cX9_sitterPart 33 = .ok (.iload 4, 2) := by decide +kernel
theorem dX9_sitterPart_35 : decode cX9_sitterPart 35 = .ok (.iload_n 3, 1) := by decide +kernel
theorem dX9_sitterPart_36 : decode cX9_sitterPart 36 = .ok (.if_icmp .ge 33, 3) := by decide +kernel
theorem dX9_sitterPart_39 : decode cX9_sitterPart 39 = .ok (.aload_n 0, 1) := by decide +kernel
theorem dX9_sitterPart_40 : decode cX9_sitterPart 40 = .ok (.getfield 161, 3) := by decide +kernel
theorem dX9_sitterPart_43 : decode cX9_sitterPart 43 = .ok (.ifCond .ne 20, 3) := by decide +kernel
theorem dX9_sitterPart_46 : decode cX9_sitterPart 46 = .ok (.aload_n 0, 1) := by decide +kernel
theorem dX9_sitterPart_47 : decode cX9_sitterPart 47 = .ok (.getfield 55, 3) := by decide +kernel
theorem dX9_sitterPart_50 : decode cX9_sitterPart 50 = .ok (.iload 4, 2) := by decide +kernel
theorem dX9_sitterPart_52 : decode cX9_sitterPart 52 = .ok (.iaload, 1) := by decide +kernel
theorem dX9_sitterPart_53 : decode cX9_sitterPart 53 = .ok (.iload_n 2, 1) := by decide +kernel
theorem dX9_sitterPart_54 : decode cX9_sitterPart 54 = .ok (.if_icmp .ne 9, 3) := by decide +kernel
theorem dX9_sitterPart_57 : decode cX9_sitterPart 57 = .ok (.aload_n 0, 1) := by decide +kernel
theorem dX9_sitterPart_58 : decode cX9_sitterPart 58 = .ok (.iconst 1, 1) := by decide +kernel
theorem dX9_sitterPart_59 : decode cX9_sitterPart 59 = .ok (.iload_n 1, 1) := by decide +kernel
theorem dX9_sitterPart_60 : decode cX9_sitterPart 60 = .ok (.invokevirtual 200, 3) := by decide +kernel
theorem dX9_sitterPart_63 : decode cX9_sitterPart 63 = .ok (.iinc 4 1, 3) := by decide +kernel
theorem dX9_sitterPart_66 : decode cX9_sitterPart 66 = .ok (.goto (-33), 3) := by decide +kernel
theorem dX9_sitterPart_69 : decode cX9_sitterPart 69 = .ok (.aload_n 0, 1) := by decide +kernel
theorem dX9_sitterPart_70 : decode cX9_sitterPart 70 = .ok (.iconst 1, 1) := by decide +kernel
theorem dX9_sitterPart_71 : decode cX9_sitterPart 71 = .ok (.bipush 20, 2) := by decide +kernel
theorem dX9_sitterPart_73 : decode cX9_sitterPart 73 = .ok (.invokevirtual 263, 3) := by decide +kernel
theorem dX9_sitterPart_76 : decode cX9_sitterPart 76 = .ok (.istore 4, 2) := by decide +kernel
theorem dX9_sitterPart_78 : decode cX9_sitterPart 78 = .ok (.aload_n 0, 1) := by decide +kernel
theorem dX9_sitterPart_79 : decode cX9_sitterPart 79 = .ok (.getfield 161, 3) := by decide +kernel
theorem dX9_sitterPart_82 : decode cX9_sitterPart 82 = .ok (.ifCond .ne 28, 3) := by decide +kernel
theorem dX9_sitterPart_85 : decode cX9_sitterPart 85 = .ok (.aload_n 0, 1) := by decide +kernel
theorem dX9_sitterPart_86 : decode cX9_sitterPart 86 = .ok (.getfield 55, 3) := by decide +kernel
theorem dX9_sitterPart_89 : decode cX9_sitterPart 89 = .ok (.iload_n 3, 1) := by decide +kernel
theorem dX9_sitterPart_90 : decode cX9_sitterPart 90 = .ok (.iload_n 2, 1) := by decide +kernel
theorem dX9_sitterPart_91 : decode cX9_sitterPart 91 = .ok (.iastore, 1) := by decide +kernel
theorem dX9_sitterPart_92 : decode cX9_sitterPart 92 = .ok (.aload_n 0, 1) := by decide +kernel
theorem dX9_sitterPart_93 : decode cX9_sitterPart 93 = .ok (.getfield 58, 3) := by decide +kernel
theorem dX9_sitterPart_96 : decode cX9_sitterPart 96 = .ok (.iload_n 3, 1) := by decide +kernel
theorem dX9_sitterPart_97 : decode cX9_sitterPart 97 = .ok (.iload 4, 2) := by decide +kernel
theorem dX9_sitterPart_99 : decode cX9_sitterPart 99 = .ok (.iastore, 1) := by decide +kernel
theorem dX9_sitterPart_100 : decode cX9_sitterPart 100 = .ok (.aload_n 0, 1) := by decide +kernel
theorem dX9_sitterPart_101 : decode cX9_sitterPart 101 = .ok (.getfield 43, 3) := by decide +kernel
theorem dX9_sitterPart_104 : decode cX9_sitterPart 104 = .ok (.iconst 3, 1) := by decide +kernel
theorem dX9_sitterPart_105 : decode cX9_sitterPart 105 = .ok (.dup2, 1) := by decide +kernel
theorem dX9_sitterPart_106 : decode cX9_sitterPart 106 = .ok (.iaload, 1) := by decide +kernel
theorem dX9_sitterPart_107 : decode cX9_sitterPart 107 = .ok (.iconst 1, 1) := by decide +kernel
theorem dX9_sitterPart_108 : decode cX9_sitterPart 108 = .ok (.iadd, 1) := by decide +kernel
theorem dX9_sitterPart_109 : decode cX9_sitterPart 109 = .ok (.iastore, 1) := by decide +kernel
theorem dX9_sitterPart_110 : decode cX9_sitterPart 110 = .ok (.return_, 1) := by decide +kernel
theorem dX9_starts_0 : decode cX9_starts 0 = .ok (.aload_n 0, 1) := by decide +kernel
theorem dX9_starts_1 : decode cX9_starts 1 = .ok (.iconst 0, 1) := by decide +kernel
theorem dX9_starts_2 : decode cX9_starts 2 = .ok (.putfield 164, 3) := by decide +kernel
theorem dX9_starts_5 : decode cX9_starts 5 = .ok (.aload_n 0, 1) := by decide +kernel
theorem dX9_starts_6 : decode cX9_starts 6 = .ok (.iconst 0, 1) := by decide +kernel
theorem dX9_starts_7 : decode cX9_starts 7 = .ok (.putfield 161, 3) := by decide +kernel
theorem dX9_starts_10 : decode cX9_starts 10 = .ok (.aload_n 0, 1) := by decide +kernel
theorem dX9_starts_11 : decode cX9_starts 11 = .ok (.iconst 0, 1) := by decide +kernel
theorem dX9_starts_12 : decode cX9_starts 12 = .ok (.putfield 194, 3) := by decide +kernel
theorem dX9_starts_15 : decode cX9_starts 15 = .ok (.aload_n 0, 1) := by decide +kernel
theorem dX9_starts_16 : decode cX9_starts 16 = .ok (.iconst 0, 1) := by decide +kernel
theorem dX9_starts_17 : decode cX9_starts 17 = .ok (.putfield 235, 3) := by decide +kernel
theorem dX9_starts_20 : decode cX9_starts 20 = .ok (.aload_n 0, 1) := by decide +kernel
theorem dX9_starts_21 : decode cX9_starts 21 = .ok (.iconst 0, 1) := by decide +kernel
theorem dX9_starts_22 : decode cX9_starts 22 = .ok (.putfield 197, 3) := by decide +kernel
theorem dX9_starts_25 : decode cX9_starts 25 = .ok (.return_, 1) := by decide +kernel
set_option maxRecDepth 20000 in
theorem ggX9_amount_X9_blanks : GoodIn wsX9_amount wsX9_blanks := goodIn_r _ [8, 1, 9, 10, 11, 7, 12, 13, 14, 32, 33, 34, 35, 36, 37, 38, 39, 40, 41, 42, 43, 44, 45, 46, 47, 48, 49, 50, 51, 52, 53, 54, 55, 56, 57, 58, 59, 60, 61, 62, 63, 64, 65, 66, 67, 68, 69, 70, 71, 72, 73, 74, 75, 76, 77, 78, 79, 80, 81, 82, 83, 84] (by decide +kernel) (by decide +kernel)
set_option maxRecDepth 20000 in
theorem gX9_amount_X9_blanks : GoodIn wsX9_amount (wsV RX9 184 RX9 yX9_blanks wsX9_blanks) := goodIn_app (goodIn_of _ (by decide +kernel)) ggX9_amount_X9_blanks
set_option maxRecDepth 20000 in
theorem ggX9_amount_X9_digits : GoodIn wsX9_amount wsX9_digits := goodIn_r _ [18, 1, 19, 20, 21, 7, 22, 23, 24, 9, 10, 11, 12, 13, 14, 25, 26, 27, 28, 29, 30, 31, 2, 32, 33, 34, 35, 36, 37, 38, 39, 40, 41, 42, 43, 44, 45, 46, 47, 48, 49, 50, 51, 52, 53, 54, 55, 56, 57, 58, 59, 60, 61, 62, 63, 64, 65, 66, 67, 68, 69, 70, 71, 72, 73, 74, 75, 76, 77, 78, 79, 80, 81, 82, 83, 84] (by decide +kernel) (by decide +kernel)
set_option maxRecDepth 20000 in
theorem gX9_amount_X9_digits : GoodIn wsX9_amount (wsV RX9 209 RX9 yX9_digits wsX9_digits) := goodIn_app (goodIn_of _ (by decide +kernel)) ggX9_amount_X9_digits
set_option maxRecDepth 20000 in
theorem ggX9_amount_X9_fails : GoodIn wsX9_amount wsX9_fails := goodIn_r _ [31, 2, 32, 33, 34, 35, 36, 37, 38, 39, 40, 41, 42, 43, 44, 45, 46, 47, 48, 49, 50, 51, 52, 53, 54, 55, 56, 57, 58, 59, 60, 61, 62, 63, 64, 65, 66, 67, 68, 69, 70, 71, 72, 73, 74, 75, 76, 77, 78, 79, 80, 81, 82, 83, 84] (by decide +kernel) (by decide +kernel)
set_option maxRecDepth 20000 in
theorem gX9_amount_X9_fails : GoodIn wsX9_amount (wsV RX9 200 RX9 yX9_fails wsX9_fails) := goodIn_app (goodIn_of _ (by decide +kernel)) ggX9_amount_X9_fails
set_option maxRecDepth 20000 in
theorem ggX9_amount_X9_in : GoodIn wsX9_amount wsX9_in := goodIn_r _ [27] (by decide +kernel) (by decide +kernel)
set_option maxRecDepth 20000 in
theorem gX9_amount_X9_in : GoodIn wsX9_amount (va_wsS RX9 131 yX9_in wsX9_in) := goodIn_app (goodIn_of _ (by decide +kernel)) ggX9_amount_X9_in
set_option maxRecDepth 20000 in
theorem ggX9_goesOn_X9_blanks : GoodIn wsX9_goesOn wsX9_blanks := goodIn_r _ [8, 2, 9, 10, 11, 7, 12, 3, 13, 18, 19, 20, 21, 22, 23, 24, 25, 26, 27, 28, 29, 30, 31, 32, 33, 34, 35, 36, 37, 38, 39, 40, 41, 42, 43, 44, 45, 46, 47, 48, 49, 50, 51, 52, 53, 54, 55, 56, 57, 58, 59, 60, 61, 62, 63, 64, 65, 66, 67, 68, 69, 70] (by decide +kernel) (by decide +kernel)
set_option maxRecDepth 20000 in
theorem gX9_goesOn_X9_blanks : GoodIn wsX9_goesOn (wsV RX9 184 RX9 yX9_blanks wsX9_blanks) := goodIn_app (goodIn_of _ (by decide +kernel)) ggX9_goesOn_X9_blanks
set_option maxRecDepth 20000 in
theorem ggX9_goesOn_X9_fails : GoodIn wsX9_goesOn wsX9_fails := goodIn_r _ [17, 1, 18, 19, 20, 21, 22, 23, 24, 25, 26, 27, 28, 29, 30, 31, 32, 33, 34, 35, 36, 37, 38, 39, 40, 41, 42, 43, 44, 45, 46, 47, 48, 49, 50, 51, 52, 53, 54, 55, 56, 57, 58, 59, 60, 61, 62, 63, 64, 65, 66, 67, 68, 69, 70] (by decide +kernel) (by decide +kernel)
set_option maxRecDepth 20000 in
theorem gX9_goesOn_X9_fails : GoodIn wsX9_goesOn (wsV RX9 200 RX9 yX9_fails wsX9_fails) := goodIn_app (goodIn_of _ (by decide +kernel)) ggX9_goesOn_X9_fails
set_option maxRecDepth 20000 in
theorem ggX9_goesOn_X9_sign : GoodIn wsX9_goesOn wsX9_sign := goodIn_r _ [12, 2, 3, 13, 18, 19, 20, 21, 22, 23, 24, 25, 26, 27, 28, 29, 30, 31, 32, 33, 34, 35, 36, 37, 38, 39, 40, 41, 42, 43, 44, 45, 46, 47, 48, 49, 50, 51, 52, 53, 54, 55, 56, 57, 58, 59, 60, 61, 62, 63, 64, 65, 66, 67, 68, 69, 70] (by decide +kernel) (by decide +kernel)
set_option maxRecDepth 20000 in
theorem gX9_goesOn_X9_sign : GoodIn wsX9_goesOn (wsV RX9 167 RX9 yX9_sign wsX9_sign) := goodIn_app (goodIn_of _ (by decide +kernel)) ggX9_goesOn_X9_sign
set_option maxRecDepth 20000 in
theorem ggX9_hallClause_J0_length_8abf5 : GoodIn wsX9_hallClause wsJ0_length_8abf5 := goodIn_r _ [24, 25, 26, 27, 28, 23, 29, 30, 31] (by decide +kernel) (by decide +kernel)
set_option maxRecDepth 20000 in
theorem gX9_hallClause_J0_length_8abf5 : GoodIn wsX9_hallClause (wsV RX9 175 RJ0 yJ0_length_8abf5 wsJ0_length_8abf5) := goodIn_app (goodIn_of _ (by decide +kernel)) ggX9_hallClause_J0_length_8abf5
set_option maxRecDepth 20000 in
theorem ggX9_hallClause_X9_blanks : GoodIn wsX9_hallClause wsX9_blanks := goodIn_r _ [6, 1, 7, 8, 9, 5, 10, 11, 12, 110, 111, 112, 113, 114, 115, 116, 117, 118, 119, 120, 121, 122, 123, 124, 125, 126, 127, 128, 129, 130, 131, 132, 133, 134, 135, 136, 137, 138, 139, 140, 141, 142, 143, 144, 145, 146, 147, 148, 149, 150, 151, 152, 153, 154, 155, 156, 157, 158, 159, 160, 161, 162] (by decide +kernel) (by decide +kernel)
set_option maxRecDepth 20000 in
theorem gX9_hallClause_X9_blanks : GoodIn wsX9_hallClause (wsV RX9 184 RX9 yX9_blanks wsX9_blanks) := goodIn_app (goodIn_of _ (by decide +kernel)) ggX9_hallClause_X9_blanks
set_option maxRecDepth 20000 in
theorem ggX9_hallClause_X9_fails : GoodIn wsX9_hallClause wsX9_fails := goodIn_r _ [72, 73, 110, 111, 112, 113, 114, 115, 116, 117, 118, 119, 120, 121, 122, 123, 124, 125, 126, 127, 128, 129, 130, 131, 132, 133, 134, 135, 136, 137, 138, 139, 140, 141, 142, 143, 144, 145, 146, 147, 148, 149, 150, 151, 152, 153, 154, 155, 156, 157, 158, 159, 160, 161, 162] (by decide +kernel) (by decide +kernel)
set_option maxRecDepth 20000 in
theorem gX9_hallClause_X9_fails : GoodIn wsX9_hallClause (wsV RX9 200 RX9 yX9_fails wsX9_fails) := goodIn_app (goodIn_of _ (by decide +kernel)) ggX9_hallClause_X9_fails
set_option maxRecDepth 20000 in
theorem ggX9_hallClause_X9_hallPart : GoodIn wsX9_hallClause wsX9_hallPart := goodIn_r _ [82, 78, 83, 84, 85, 86, 87, 88, 5, 89, 1, 73, 90, 2, 3, 4, 6, 7, 8, 9, 10, 11, 12, 91, 92, 93, 94, 95, 96, 97, 98, 99, 100, 101, 102, 103, 69, 70, 71, 72, 104, 105, 106, 107, 108, 109, 110, 111, 112, 113, 114, 115, 116, 117, 118, 119, 120, 121, 122, 123, 124, 125, 126, 127, 128, 129, 130, 131, 132, 133, 134, 135, 136, 137, 138, 139, 140, 141, 142, 143, 144, 145, 146, 147, 148, 149, 150, 151, 152, 153, 154, 155, 156, 157, 158, 159, 160, 161, 162] (by decide +kernel) (by decide +kernel)
set_option maxRecDepth 20000 in
theorem gX9_hallClause_X9_hallPart : GoodIn wsX9_hallClause (wsV RX9 277 RX9 yX9_hallPart wsX9_hallPart) := goodIn_app (goodIn_of _ (by decide +kernel)) ggX9_hallClause_X9_hallPart
set_option maxRecDepth 20000 in
theorem ggX9_hallClause_X9_hallWord : GoodIn wsX9_hallClause wsX9_hallWord := goodIn_r _ [15] (by decide +kernel) (by decide +kernel)
set_option maxRecDepth 20000 in
theorem gX9_hallClause_X9_hallWord : GoodIn wsX9_hallClause (va_wsS RX9 270 yX9_hallWord wsX9_hallWord) := goodIn_app (goodIn_of _ (by decide +kernel)) ggX9_hallClause_X9_hallWord
set_option maxRecDepth 20000 in
theorem ggX9_hallClause_X9_isFull : GoodIn wsX9_hallClause wsX9_isFull := goodIn_r _ [77, 78, 110, 111, 112, 113, 114, 115, 116, 117, 118, 119, 120, 121, 122, 123, 124, 125, 126, 127, 128, 129, 130, 131, 132, 133, 134, 135, 136, 137, 138, 139, 140, 141, 142, 143, 144, 145, 146, 147, 148, 149, 150, 151, 152, 153, 154, 155, 156, 157, 158, 159, 160, 161, 162] (by decide +kernel) (by decide +kernel)
set_option maxRecDepth 20000 in
theorem gX9_hallClause_X9_isFull : GoodIn wsX9_hallClause (wsV RX9 273 RX9 yX9_isFull wsX9_isFull) := goodIn_app (goodIn_of _ (by decide +kernel)) ggX9_hallClause_X9_isFull
set_option maxRecDepth 20000 in
theorem ggX9_hallClause_X9_stood : GoodIn wsX9_hallClause wsX9_stood := goodIn_r _ [19, 1, 11, 12, 20, 21, 22, 23, 24, 25, 26, 27, 28, 29, 30, 31, 32, 33, 34, 35, 36, 37, 38, 39, 40, 41, 42, 43, 44, 45, 46, 47, 48, 49, 50, 51, 52, 53, 54, 55, 56, 57, 58, 59, 60, 61, 62, 63, 64, 65, 66, 67, 68, 110, 111, 112, 113, 114, 115, 116, 117, 118, 119, 120, 121, 122, 123, 124, 125, 126, 127, 128, 129, 130, 131, 132, 133, 134, 135, 136, 137, 138, 139, 140, 141, 142, 143, 144, 145, 146, 147, 148, 149, 150, 151, 152, 153, 154, 155, 156, 157, 158, 159, 160, 161, 162] (by decide +kernel) (by decide +kernel)
set_option maxRecDepth 20000 in
theorem gX9_hallClause_X9_stood : GoodIn wsX9_hallClause (wsV RX9 187 RX9 yX9_stood wsX9_stood) := goodIn_app (goodIn_of _ (by decide +kernel)) ggX9_hallClause_X9_stood
set_option maxRecDepth 20000 in
theorem ggX9_hallPart_X9_amount : GoodIn wsX9_hallPart wsX9_amount := goodIn_r _ [9, 10, 11, 12, 13, 14, 15, 8, 16, 17, 18, 19, 20, 21, 22, 23, 24, 25, 26, 27, 28, 29, 30, 31, 32, 33, 34, 35, 36, 37, 38, 39, 46, 47, 48, 49, 50, 51, 52, 53, 54, 55, 56, 57, 58, 59, 60, 61, 62, 63, 64, 65, 66, 67, 68, 69, 70, 71, 72, 73, 74, 75, 76, 77, 78, 79, 80, 81, 82, 83, 84, 85, 86, 87, 88, 89, 90, 91, 92, 93, 94, 95, 96, 97, 98] (by decide +kernel) (by decide +kernel)
set_option maxRecDepth 20000 in
theorem gX9_hallPart_X9_amount : GoodIn wsX9_hallPart (wsV RX9 263 RX9 yX9_amount wsX9_amount) := goodIn_app (goodIn_of _ (by decide +kernel)) ggX9_hallPart_X9_amount
set_option maxRecDepth 20000 in
theorem ggX9_hallPart_X9_sitterPart : GoodIn wsX9_hallPart wsX9_sitterPart := goodIn_r _ [43, 10, 1, 11, 44, 45, 13, 14, 15, 8, 16, 17, 18, 19, 20, 21, 22, 5, 6, 7, 9, 12, 23, 24, 25, 26, 27, 28, 29, 30, 31, 32, 33, 34, 35, 36, 37, 38, 39, 46, 47, 48, 49, 50, 51, 52, 53, 54, 55, 56, 57, 58, 59, 60, 61, 62, 63, 64, 65, 66, 67, 68, 69, 70, 71, 72, 73, 74, 75, 76, 77, 78, 79, 80, 81, 82, 83, 84, 85, 86, 87, 88, 89, 90, 91, 92, 93, 94, 95, 96, 97, 98] (by decide +kernel) (by decide +kernel)
set_option maxRecDepth 20000 in
theorem gX9_hallPart_X9_sitterPart : GoodIn wsX9_hallPart (wsV RX9 267 RX9 yX9_sitterPart wsX9_sitterPart) := goodIn_app (goodIn_of _ (by decide +kernel)) ggX9_hallPart_X9_sitterPart
set_option maxRecDepth 20000 in
theorem ggX9_sitterPart_X9_amount : GoodIn wsX9_sitterPart wsX9_amount := goodIn_r _ [20, 1, 3, 21, 6, 7, 8, 9, 10, 11, 12, 13, 14, 15, 16, 22, 23, 24, 25, 26, 27, 28, 29, 30, 31, 32, 33, 34, 35, 36, 37, 38, 39, 40, 41, 42, 43, 44, 45, 46, 47, 48, 49, 50, 51, 52, 53, 54, 55, 56, 57, 58, 59, 60, 61, 62, 63, 64, 65, 66, 67, 68, 69, 70, 71, 72, 73, 74, 75, 76, 77, 78, 79, 80, 81, 82, 83, 84, 85, 86, 87, 88, 89, 90, 91] (by decide +kernel) (by decide +kernel)
set_option maxRecDepth 20000 in
theorem gX9_sitterPart_X9_amount : GoodIn wsX9_sitterPart (wsV RX9 263 RX9 yX9_amount wsX9_amount) := goodIn_app (goodIn_of _ (by decide +kernel)) ggX9_sitterPart_X9_amount
set_option maxRecDepth 20000 in
theorem ggX9_sitterPart_X9_blanks : GoodIn wsX9_sitterPart wsX9_blanks := goodIn_r _ [10, 1, 11, 12, 13, 9, 14, 15, 16, 39, 40, 41, 42, 43, 44, 45, 46, 47, 48, 49, 50, 51, 52, 53, 54, 55, 56, 57, 58, 59, 60, 61, 62, 63, 64, 65, 66, 67, 68, 69, 70, 71, 72, 73, 74, 75, 76, 77, 78, 79, 80, 81, 82, 83, 84, 85, 86, 87, 88, 89, 90, 91] (by decide +kernel) (by decide +kernel)
set_option maxRecDepth 20000 in
theorem gX9_sitterPart_X9_blanks : GoodIn wsX9_sitterPart (wsV RX9 184 RX9 yX9_blanks wsX9_blanks) := goodIn_app (goodIn_of _ (by decide +kernel)) ggX9_sitterPart_X9_blanks
set_option maxRecDepth 20000 in
theorem ggX9_sitterPart_X9_fails : GoodIn wsX9_sitterPart wsX9_fails := goodIn_r _ [38, 3, 39, 40, 41, 42, 43, 44, 45, 46, 47, 48, 49, 50, 51, 52, 53, 54, 55, 56, 57, 58, 59, 60, 61, 62, 63, 64, 65, 66, 67, 68, 69, 70, 71, 72, 73, 74, 75, 76, 77, 78, 79, 80, 81, 82, 83, 84, 85, 86, 87, 88, 89, 90, 91] (by decide +kernel) (by decide +kernel)
set_option maxRecDepth 20000 in
theorem gX9_sitterPart_X9_fails : GoodIn wsX9_sitterPart (wsV RX9 200 RX9 yX9_fails wsX9_fails) := goodIn_app (goodIn_of _ (by decide +kernel)) ggX9_sitterPart_X9_fails
set_option maxHeartbeats 4000000 in
set_option maxRecDepth 100000 in
theorem i_X9_goesOn (l : Launch) (D : va_G) (k : Nat → ClassId) (sz : Nat) (mo : Nat) (mo_thrown : Int32) (mo_ascalar : Nat) (mo_acane : Nat) (mo_ais : Nat) (mo_astrandOf : Nat) (mo_aweight : Nat) (mo_aheight : Nat) (mo_achairOf : Nat) (mo_anoteMinute : Nat) (mo_anoteWho : Nat) (mo_anoteIs : Nat) (mo_atoldCane : Nat) (mo_anewScalar : Nat) (mo_anewCane : Nat) (mo_anewHeight : Nat) (mo_anewStrand : Nat) (mo_anewChair : Nat) (mo_anewWeight : Nat) (mo_taped : Int32) (mo_p : Int32) (mo_fault : Int32) (mo_slot : Int32) (mo_rules : Int32) (mo_entries : Int32) (mo_deep : Int32) (mo_counted : Int32) (mo_opened : Int32) (mo_words : Int32) (mo_atape : Nat) (mo_asort : Nat) (mo_anumber : Nat) (mo_aclauses : Nat) (mo_asumAt : Nat) (mo_atestAt : Nat) (mo_aendAt : Nat) (mo_aopen : Nat) (mo_aasked : Nat) (mo_astack : Nat) (mo_amust : Nat) (mo_apast : Nat) (mo_apastOf : Nat) (mo_pastMany : Int32) (mo_pastAt : Int32) (mo_takesBack : Int32) (mo_acanRise : Nat) (mo_afirstHas : Nat) (mo_asecondHas : Nat) (mo_alay : Nat) (mo_ashows : Nat) (mo_aimages : Nat) (mo_aisMade : Nat) (mo_imageAt : Int32) (mo_goesBack : Int32) (mo_rtape : Nat → Int32) (h_mo_taped : iv (0) (400) mo_taped) (h_mo_p : iv (0) (402) mo_p) (h_mo_fault : iv (0) (4000) mo_fault) (h_mo_slot : iv (0) (5) mo_slot) (h_mo_rules : iv (0) (6) mo_rules) (h_mo_entries : iv (0) (300) mo_entries) (h_mo_counted : iv (0) (70) mo_counted) (h_mo_opened : iv (0) (402) mo_opened) (h_mo_words : iv (11) (11) mo_words) (h_mo_pastMany : iv (0) (20) mo_pastMany) (h_mo_pastAt : iv (0) (260) mo_pastAt) (h_mo_takesBack : iv (0) (1) mo_takesBack) (h_mo_imageAt : iv (0) (2000) mo_imageAt) (h_mo_goesBack : iv (0) (1) mo_goesBack) (hr_p : mo_p.toInt ≤ 401) : CtI l yX9_goesOn wsX9_goesOn (rmK 3 0 0) [.ref mo] D k sz ([(mo, .inr (7, [.int mo_thrown, .ref mo_ascalar, .ref mo_acane, .ref mo_ais, .ref mo_astrandOf, .ref mo_aweight, .ref mo_aheight, .ref mo_achairOf, .ref mo_anoteMinute, .ref mo_anoteWho, .ref mo_anoteIs, .ref mo_atoldCane, .ref mo_anewScalar, .ref mo_anewCane, .ref mo_anewHeight, .ref mo_anewStrand, .ref mo_anewChair, .ref mo_anewWeight, .int mo_taped, .int mo_p, .int mo_fault, .int mo_slot, .int mo_rules, .int mo_entries, .int mo_deep, .int mo_counted, .int mo_opened, .int mo_words, .ref mo_atape, .ref mo_asort, .ref mo_anumber, .ref mo_aclauses, .ref mo_asumAt, .ref mo_atestAt, .ref mo_aendAt, .ref mo_aopen, .ref mo_aasked, .ref mo_astack, .ref mo_amust, .ref mo_apast, .ref mo_apastOf, .int mo_pastMany, .int mo_pastAt, .int mo_takesBack, .ref mo_acanRise, .ref mo_afirstHas, .ref mo_asecondHas, .ref mo_alay, .ref mo_ashows, .ref mo_aimages, .ref mo_aisMade, .int mo_imageAt, .int mo_goesBack])), (mo_atape, hcY k 400 mo_rtape)]) (fun (r : Int32) (u : (Int32) × (Int32)) => iv (0) (1) r ∧ iv (0) (402) (u.1) ∧ iv (0) (4000) (u.2) ∧ (mo_p.toInt < (u.1).toInt ∧ ((u.2).toInt ≠ 0 ∨ mo_fault.toInt = 0) ∧ (r.toInt = 0 ∨ ((u.2).toInt = 0 ∧ (u.1).toInt ≤ mo_taped.toInt)))) (fun u : (Int32) × (Int32) => [(mo, .inr (7, [.int mo_thrown, .ref mo_ascalar, .ref mo_acane, .ref mo_ais, .ref mo_astrandOf, .ref mo_aweight, .ref mo_aheight, .ref mo_achairOf, .ref mo_anoteMinute, .ref mo_anoteWho, .ref mo_anoteIs, .ref mo_atoldCane, .ref mo_anewScalar, .ref mo_anewCane, .ref mo_anewHeight, .ref mo_anewStrand, .ref mo_anewChair, .ref mo_anewWeight, .int mo_taped, .int (u.1), .int (u.2), .int mo_slot, .int mo_rules, .int mo_entries, .int mo_deep, .int mo_counted, .int mo_opened, .int mo_words, .ref mo_atape, .ref mo_asort, .ref mo_anumber, .ref mo_aclauses, .ref mo_asumAt, .ref mo_atestAt, .ref mo_aendAt, .ref mo_aopen, .ref mo_aasked, .ref mo_astack, .ref mo_amust, .ref mo_apast, .ref mo_apastOf, .int mo_pastMany, .int mo_pastAt, .int mo_takesBack, .ref mo_acanRise, .ref mo_afirstHas, .ref mo_asecondHas, .ref mo_alay, .ref mo_ashows, .ref mo_aimages, .ref mo_aisMade, .int mo_imageAt, .int mo_goesBack])), (mo_atape, hcY k 400 mo_rtape)]) 0 0 := by
  have h_mo_taped_l := h_mo_taped.1
  have h_mo_taped_u := h_mo_taped.2
  have h_mo_p_l := h_mo_p.1
  have h_mo_p_u := h_mo_p.2
  have h_mo_fault_l := h_mo_fault.1
  have h_mo_fault_u := h_mo_fault.2
  have h_mo_slot_l := h_mo_slot.1
  have h_mo_slot_u := h_mo_slot.2
  have h_mo_rules_l := h_mo_rules.1
  have h_mo_rules_u := h_mo_rules.2
  have h_mo_entries_l := h_mo_entries.1
  have h_mo_entries_u := h_mo_entries.2
  have h_mo_counted_l := h_mo_counted.1
  have h_mo_counted_u := h_mo_counted.2
  have h_mo_opened_l := h_mo_opened.1
  have h_mo_opened_u := h_mo_opened.2
  have h_mo_words_l := h_mo_words.1
  have h_mo_words_u := h_mo_words.2
  have h_mo_pastMany_l := h_mo_pastMany.1
  have h_mo_pastMany_u := h_mo_pastMany.2
  have h_mo_pastAt_l := h_mo_pastAt.1
  have h_mo_pastAt_u := h_mo_pastAt.2
  have h_mo_takesBack_l := h_mo_takesBack.1
  have h_mo_takesBack_u := h_mo_takesBack.2
  have h_mo_imageAt_l := h_mo_imageAt.1
  have h_mo_imageAt_u := h_mo_imageAt.2
  have h_mo_goesBack_l := h_mo_goesBack.1
  have h_mo_goesBack_u := h_mo_goesBack.2
  refine CtI.mk (cc := cX9_goesOn) (maxL := 2) (ret := (some .boolean)) (by decide) rfl (Nat.le_of_ble_eq_true rfl) ?_
  intro p e s m below meth c A ls E hP hD hS hl
  obtain ⟨hx, hb, hr, hml, hown, hts, hlocks, hin, hG, hA⟩ := E
  have hown : s.vm.findClass RX9 = some m.cls := hown
  have in9 : ∀ w ∈ u_ws RX9 TX9 53, w ∈ wsX9_goesOn := fun _ h => List.mem_cons_of_mem _ (List.mem_append_right _ h)
  have hl : lv_has ls 2 [(0, .ref mo)] := hl
  refine lv_aload_n hx hb dX9_goesOn_0 rfl (lv_at hl 0 rfl) ?_
  refine hc_Vv (As := []) (rest := []) (n := 0) (wr := []) hx hb hml hown hts hG hA hP hD hS hl.1 [0, 1] [] (i_X9_blanks l D k _ mo mo_thrown mo_ascalar mo_acane mo_ais mo_astrandOf mo_aweight mo_aheight mo_achairOf mo_anoteMinute mo_anoteWho mo_anoteIs mo_atoldCane mo_anewScalar mo_anewCane mo_anewHeight mo_anewStrand mo_anewChair mo_anewWeight mo_taped mo_p mo_fault mo_slot mo_rules mo_entries mo_deep mo_counted mo_opened mo_words mo_atape mo_asort mo_anumber mo_aclauses mo_asumAt mo_atestAt mo_aendAt mo_aopen mo_aasked mo_astack mo_amust mo_apast mo_apastOf mo_pastMany mo_pastAt mo_takesBack mo_acanRise mo_afirstHas mo_asecondHas mo_alay mo_ashows mo_aimages mo_aisMade mo_imageAt mo_goesBack mo_rtape ⟨by omega, by omega⟩ ⟨by omega, by omega⟩ ⟨by omega, by omega⟩ ⟨by omega, by omega⟩ ⟨by omega, by omega⟩ ⟨by omega, by omega⟩ ⟨by omega, by omega⟩ ⟨by omega, by omega⟩ ⟨by omega, by omega⟩ ⟨by omega, by omega⟩ ⟨by omega, by omega⟩ ⟨by omega, by omega⟩ ⟨by omega, by omega⟩ ⟨by omega, by omega⟩) (ci := 7) (q0 := 0) rfl rfl gX9_goesOn_X9_blanks rfl ⟨rfl, rfl, Nat.le_of_ble_eq_true rfl, Nat.le_of_ble_eq_true rfl⟩ (by decide +kernel) rfl rfl ⟨by decide, by decide, by decide⟩ ⟨rfl, rfl, Nat.le_of_ble_eq_true rfl, Nat.le_of_ble_eq_true rfl, Nat.le_of_ble_eq_true rfl⟩ dX9_goesOn_1 (fun u1 H locs hw hP hD hS => ?_)
  obtain ⟨w3, rfl⟩ : ∃ z, z = u1 := ⟨_, rfl⟩
  have hP : va_P D vwCl ([(mo, .inr (7, [.int mo_thrown, .ref mo_ascalar, .ref mo_acane, .ref mo_ais, .ref mo_astrandOf, .ref mo_aweight, .ref mo_aheight, .ref mo_achairOf, .ref mo_anoteMinute, .ref mo_anoteWho, .ref mo_anoteIs, .ref mo_atoldCane, .ref mo_anewScalar, .ref mo_anewCane, .ref mo_anewHeight, .ref mo_anewStrand, .ref mo_anewChair, .ref mo_anewWeight, .int mo_taped, .int w3, .int mo_fault, .int mo_slot, .int mo_rules, .int mo_entries, .int mo_deep, .int mo_counted, .int mo_opened, .int mo_words, .ref mo_atape, .ref mo_asort, .ref mo_anumber, .ref mo_aclauses, .ref mo_asumAt, .ref mo_atestAt, .ref mo_aendAt, .ref mo_aopen, .ref mo_aasked, .ref mo_astack, .ref mo_amust, .ref mo_apast, .ref mo_apastOf, .int mo_pastMany, .int mo_pastAt, .int mo_takesBack, .ref mo_acanRise, .ref mo_afirstHas, .ref mo_asecondHas, .ref mo_alay, .ref mo_ashows, .ref mo_aimages, .ref mo_aisMade, .int mo_imageAt, .int mo_goesBack])), (mo_atape, hcY k 400 mo_rtape)]) H := hP
  have hD : va_D A ([(mo, .inr (7, [.int mo_thrown, .ref mo_ascalar, .ref mo_acane, .ref mo_ais, .ref mo_astrandOf, .ref mo_aweight, .ref mo_aheight, .ref mo_achairOf, .ref mo_anoteMinute, .ref mo_anoteWho, .ref mo_anoteIs, .ref mo_atoldCane, .ref mo_anewScalar, .ref mo_anewCane, .ref mo_anewHeight, .ref mo_anewStrand, .ref mo_anewChair, .ref mo_anewWeight, .int mo_taped, .int w3, .int mo_fault, .int mo_slot, .int mo_rules, .int mo_entries, .int mo_deep, .int mo_counted, .int mo_opened, .int mo_words, .ref mo_atape, .ref mo_asort, .ref mo_anumber, .ref mo_aclauses, .ref mo_asumAt, .ref mo_atestAt, .ref mo_aendAt, .ref mo_aopen, .ref mo_aasked, .ref mo_astack, .ref mo_amust, .ref mo_apast, .ref mo_apastOf, .int mo_pastMany, .int mo_pastAt, .int mo_takesBack, .ref mo_acanRise, .ref mo_afirstHas, .ref mo_asecondHas, .ref mo_alay, .ref mo_ashows, .ref mo_aimages, .ref mo_aisMade, .int mo_imageAt, .int mo_goesBack])), (mo_atape, hcY k 400 mo_rtape)]) := hD
  obtain ⟨bw3, rel4⟩ := hw
  have bw3 : iv (0) (402) w3 := bw3
  have bw3_l := bw3.1
  have bw3_u := bw3.2
  try dsimp only at rel4
  refine lv_aload_n hx hb dX9_goesOn_4 rfl (lv_at hl 0 rfl) ?_
  refine va_get (D := D) (ci := 7) (v := .int mo_fault) (C := RX9) (T := TX9) (N := 53) hx hb hts in9 hown hG.1 hP 0 rfl rfl 20 (by decide) (hts (.fieldLink RX9 161 "ChairCaneModel" "fault" "I") (by decide +kernel)) (fun _ h9 => h9) rfl dX9_goesOn_5 ?_
  refine lv_if_ne (tgt := 40) hx hb dX9_goesOn_8 (by decide) (fun c5 => ?_) (fun c5 => ?_)
  · have fc5 := cx_ne_t (a := mo_fault.toInt) (b := 0) rfl (by decide) c5
    refine lv_aload_n hx hb dX9_goesOn_40 rfl (lv_at hl 0 rfl) ?_
    refine va_get (D := D) (ci := 7) (v := .int mo_fault) (C := RX9) (T := TX9) (N := 53) hx hb hts in9 hown hG.1 hP 0 rfl rfl 20 (by decide) (hts (.fieldLink RX9 161 "ChairCaneModel" "fault" "I") (by decide +kernel)) (fun _ h9 => h9) rfl dX9_goesOn_41 ?_
    refine lv_if_ne (tgt := 62) hx hb dX9_goesOn_44 (by decide) (fun _ => ?_) (fun h => absurd h (cd_ne_t (a := mo_fault.toInt) (b := 0) rfl (by decide) (by omega)))
    refine lv_iconst (v := 0) hx hb dX9_goesOn_62 (by decide) ?_
    refine lv_istore_n (lv' := [(1, .int 0), (0, .ref mo)]) hx hb dX9_goesOn_63 rfl hl (by decide) rfl (fun ls hl => ?_)
    refine lv_aload_n hx hb dX9_goesOn_64 rfl (lv_at hl 1 rfl) ?_
    refine lv_dup hx hb dX9_goesOn_65 rfl ?_
    refine va_get (D := D) (ci := 7) (v := .int w3) (C := RX9) (T := TX9) (N := 53) hx hb hts in9 hown hG.1 hP 0 rfl rfl 19 (by decide) (hts (.fieldLink RX9 164 "ChairCaneModel" "p" "I") (by decide +kernel)) (fun _ h9 => h9) rfl dX9_goesOn_66 ?_
    refine lv_iconst (v := 1) hx hb dX9_goesOn_69 (by decide) ?_
    refine lv_iadd hx hb dX9_goesOn_70 ?_
    refine lv_topi (fun z6 ez6 => ?_)
    have tz6 : z6.toInt = w3.toInt + 1 := ai_add rfl (by decide) ez6 (by omega) (by omega)
    refine va_put (D := D) (ci := 7) (v := .int z6) (C := RX9) (T := TX9) (N := 53) hx hb hts in9 tyX9 tyX9_ok nmX9 hown hG.1 hP hD hS 0 rfl rfl 19 (by decide) (hts (.fieldLink RX9 164 "ChairCaneModel" "p" "I") (by decide +kernel)) (fun _ h9 => h9) rfl (tyX9_ok 19 (by decide)) rfl rfl (Nat.le_of_ble_eq_true rfl) dX9_goesOn_71 (fun H locs hP hD hS => ?_)
    have hP : va_P D vwCl ([(mo, .inr (7, [.int mo_thrown, .ref mo_ascalar, .ref mo_acane, .ref mo_ais, .ref mo_astrandOf, .ref mo_aweight, .ref mo_aheight, .ref mo_achairOf, .ref mo_anoteMinute, .ref mo_anoteWho, .ref mo_anoteIs, .ref mo_atoldCane, .ref mo_anewScalar, .ref mo_anewCane, .ref mo_anewHeight, .ref mo_anewStrand, .ref mo_anewChair, .ref mo_anewWeight, .int mo_taped, .int z6, .int mo_fault, .int mo_slot, .int mo_rules, .int mo_entries, .int mo_deep, .int mo_counted, .int mo_opened, .int mo_words, .ref mo_atape, .ref mo_asort, .ref mo_anumber, .ref mo_aclauses, .ref mo_asumAt, .ref mo_atestAt, .ref mo_aendAt, .ref mo_aopen, .ref mo_aasked, .ref mo_astack, .ref mo_amust, .ref mo_apast, .ref mo_apastOf, .int mo_pastMany, .int mo_pastAt, .int mo_takesBack, .ref mo_acanRise, .ref mo_afirstHas, .ref mo_asecondHas, .ref mo_alay, .ref mo_ashows, .ref mo_aimages, .ref mo_aisMade, .int mo_imageAt, .int mo_goesBack])), (mo_atape, hcY k 400 mo_rtape)]) H := hP
    have hD : va_D A ([(mo, .inr (7, [.int mo_thrown, .ref mo_ascalar, .ref mo_acane, .ref mo_ais, .ref mo_astrandOf, .ref mo_aweight, .ref mo_aheight, .ref mo_achairOf, .ref mo_anoteMinute, .ref mo_anoteWho, .ref mo_anoteIs, .ref mo_atoldCane, .ref mo_anewScalar, .ref mo_anewCane, .ref mo_anewHeight, .ref mo_anewStrand, .ref mo_anewChair, .ref mo_anewWeight, .int mo_taped, .int z6, .int mo_fault, .int mo_slot, .int mo_rules, .int mo_entries, .int mo_deep, .int mo_counted, .int mo_opened, .int mo_words, .ref mo_atape, .ref mo_asort, .ref mo_anumber, .ref mo_aclauses, .ref mo_asumAt, .ref mo_atestAt, .ref mo_aendAt, .ref mo_aopen, .ref mo_aasked, .ref mo_astack, .ref mo_amust, .ref mo_apast, .ref mo_apastOf, .int mo_pastMany, .int mo_pastAt, .int mo_takesBack, .ref mo_acanRise, .ref mo_afirstHas, .ref mo_asecondHas, .ref mo_alay, .ref mo_ashows, .ref mo_aimages, .ref mo_aisMade, .int mo_imageAt, .int mo_goesBack])), (mo_atape, hcY k 400 mo_rtape)]) := hD
    refine lv_iload_n hx hb dX9_goesOn_74 rfl (lv_at hl 0 rfl) ?_
    exact hc_endZ hx hb hr hlocks rfl (z6, mo_fault) ⟨iv_lit (by decide) (by decide), (show iv (0) (402) z6 from ⟨by omega, by omega⟩), (show iv (0) (4000) mo_fault from ⟨by omega, by omega⟩), (by (try dsimp only); have q9 : (0 : Int32).toInt = 0 := (by decide); omega)⟩ hP hD hS dX9_goesOn_75
  · have fc5 := cx_ne_f (a := mo_fault.toInt) (b := 0) rfl (by decide) c5
    refine lv_aload_n hx hb dX9_goesOn_11 rfl (lv_at hl 0 rfl) ?_
    refine va_get (D := D) (ci := 7) (v := .int w3) (C := RX9) (T := TX9) (N := 53) hx hb hts in9 hown hG.1 hP 0 rfl rfl 19 (by decide) (hts (.fieldLink RX9 164 "ChairCaneModel" "p" "I") (by decide +kernel)) (fun _ h9 => h9) rfl dX9_goesOn_12 ?_
    refine lv_aload_n hx hb dX9_goesOn_15 rfl (lv_at hl 0 rfl) ?_
    refine va_get (D := D) (ci := 7) (v := .int mo_taped) (C := RX9) (T := TX9) (N := 53) hx hb hts in9 hown hG.1 hP 0 rfl rfl 18 (by decide) (hts (.fieldLink RX9 135 "ChairCaneModel" "taped" "I") (by decide +kernel)) (fun _ h9 => h9) rfl dX9_goesOn_16 ?_
    refine lv_icmp_ge (tgt := 40) hx hb dX9_goesOn_19 (by decide) (fun c7 => ?_) (fun c7 => ?_)
    · have fc7 := cx_ge_t (a := w3.toInt) (b := mo_taped.toInt) rfl rfl c7
      refine lv_aload_n hx hb dX9_goesOn_40 rfl (lv_at hl 0 rfl) ?_
      refine va_get (D := D) (ci := 7) (v := .int mo_fault) (C := RX9) (T := TX9) (N := 53) hx hb hts in9 hown hG.1 hP 0 rfl rfl 20 (by decide) (hts (.fieldLink RX9 161 "ChairCaneModel" "fault" "I") (by decide +kernel)) (fun _ h9 => h9) rfl dX9_goesOn_41 ?_
      refine lv_if_ne (tgt := 62) hx hb dX9_goesOn_44 (by decide) (fun c8 => ?_) (fun c8 => ?_)
      · have fc8 := cx_ne_t (a := mo_fault.toInt) (b := 0) rfl (by decide) c8
        refine lv_iconst (v := 0) hx hb dX9_goesOn_62 (by decide) ?_
        refine lv_istore_n (lv' := [(1, .int 0), (0, .ref mo)]) hx hb dX9_goesOn_63 rfl hl (by decide) rfl (fun ls hl => ?_)
        refine lv_aload_n hx hb dX9_goesOn_64 rfl (lv_at hl 1 rfl) ?_
        refine lv_dup hx hb dX9_goesOn_65 rfl ?_
        refine va_get (D := D) (ci := 7) (v := .int w3) (C := RX9) (T := TX9) (N := 53) hx hb hts in9 hown hG.1 hP 0 rfl rfl 19 (by decide) (hts (.fieldLink RX9 164 "ChairCaneModel" "p" "I") (by decide +kernel)) (fun _ h9 => h9) rfl dX9_goesOn_66 ?_
        refine lv_iconst (v := 1) hx hb dX9_goesOn_69 (by decide) ?_
        refine lv_iadd hx hb dX9_goesOn_70 ?_
        refine lv_topi (fun z9 ez9 => ?_)
        have tz9 : z9.toInt = w3.toInt + 1 := ai_add rfl (by decide) ez9 (by omega) (by omega)
        refine va_put (D := D) (ci := 7) (v := .int z9) (C := RX9) (T := TX9) (N := 53) hx hb hts in9 tyX9 tyX9_ok nmX9 hown hG.1 hP hD hS 0 rfl rfl 19 (by decide) (hts (.fieldLink RX9 164 "ChairCaneModel" "p" "I") (by decide +kernel)) (fun _ h9 => h9) rfl (tyX9_ok 19 (by decide)) rfl rfl (Nat.le_of_ble_eq_true rfl) dX9_goesOn_71 (fun H locs hP hD hS => ?_)
        have hP : va_P D vwCl ([(mo, .inr (7, [.int mo_thrown, .ref mo_ascalar, .ref mo_acane, .ref mo_ais, .ref mo_astrandOf, .ref mo_aweight, .ref mo_aheight, .ref mo_achairOf, .ref mo_anoteMinute, .ref mo_anoteWho, .ref mo_anoteIs, .ref mo_atoldCane, .ref mo_anewScalar, .ref mo_anewCane, .ref mo_anewHeight, .ref mo_anewStrand, .ref mo_anewChair, .ref mo_anewWeight, .int mo_taped, .int z9, .int mo_fault, .int mo_slot, .int mo_rules, .int mo_entries, .int mo_deep, .int mo_counted, .int mo_opened, .int mo_words, .ref mo_atape, .ref mo_asort, .ref mo_anumber, .ref mo_aclauses, .ref mo_asumAt, .ref mo_atestAt, .ref mo_aendAt, .ref mo_aopen, .ref mo_aasked, .ref mo_astack, .ref mo_amust, .ref mo_apast, .ref mo_apastOf, .int mo_pastMany, .int mo_pastAt, .int mo_takesBack, .ref mo_acanRise, .ref mo_afirstHas, .ref mo_asecondHas, .ref mo_alay, .ref mo_ashows, .ref mo_aimages, .ref mo_aisMade, .int mo_imageAt, .int mo_goesBack])), (mo_atape, hcY k 400 mo_rtape)]) H := hP
        have hD : va_D A ([(mo, .inr (7, [.int mo_thrown, .ref mo_ascalar, .ref mo_acane, .ref mo_ais, .ref mo_astrandOf, .ref mo_aweight, .ref mo_aheight, .ref mo_achairOf, .ref mo_anoteMinute, .ref mo_anoteWho, .ref mo_anoteIs, .ref mo_atoldCane, .ref mo_anewScalar, .ref mo_anewCane, .ref mo_anewHeight, .ref mo_anewStrand, .ref mo_anewChair, .ref mo_anewWeight, .int mo_taped, .int z9, .int mo_fault, .int mo_slot, .int mo_rules, .int mo_entries, .int mo_deep, .int mo_counted, .int mo_opened, .int mo_words, .ref mo_atape, .ref mo_asort, .ref mo_anumber, .ref mo_aclauses, .ref mo_asumAt, .ref mo_atestAt, .ref mo_aendAt, .ref mo_aopen, .ref mo_aasked, .ref mo_astack, .ref mo_amust, .ref mo_apast, .ref mo_apastOf, .int mo_pastMany, .int mo_pastAt, .int mo_takesBack, .ref mo_acanRise, .ref mo_afirstHas, .ref mo_asecondHas, .ref mo_alay, .ref mo_ashows, .ref mo_aimages, .ref mo_aisMade, .int mo_imageAt, .int mo_goesBack])), (mo_atape, hcY k 400 mo_rtape)]) := hD
        refine lv_iload_n hx hb dX9_goesOn_74 rfl (lv_at hl 0 rfl) ?_
        exact hc_endZ hx hb hr hlocks rfl (z9, mo_fault) ⟨iv_lit (by decide) (by decide), (show iv (0) (402) z9 from ⟨by omega, by omega⟩), (show iv (0) (4000) mo_fault from ⟨by omega, by omega⟩), (by (try dsimp only); have q9 : (0 : Int32).toInt = 0 := (by decide); omega)⟩ hP hD hS dX9_goesOn_75
      · have fc8 := cx_ne_f (a := mo_fault.toInt) (b := 0) rfl (by decide) c8
        refine lv_aload_n hx hb dX9_goesOn_47 rfl (lv_at hl 0 rfl) ?_
        refine va_get (D := D) (ci := 7) (v := .int w3) (C := RX9) (T := TX9) (N := 53) hx hb hts in9 hown hG.1 hP 0 rfl rfl 19 (by decide) (hts (.fieldLink RX9 164 "ChairCaneModel" "p" "I") (by decide +kernel)) (fun _ h9 => h9) rfl dX9_goesOn_48 ?_
        refine lv_aload_n hx hb dX9_goesOn_51 rfl (lv_at hl 0 rfl) ?_
        refine va_get (D := D) (ci := 7) (v := .int mo_taped) (C := RX9) (T := TX9) (N := 53) hx hb hts in9 hown hG.1 hP 0 rfl rfl 18 (by decide) (hts (.fieldLink RX9 135 "ChairCaneModel" "taped" "I") (by decide +kernel)) (fun _ h9 => h9) rfl dX9_goesOn_52 ?_
        refine lv_icmp_ge (tgt := 62) hx hb dX9_goesOn_55 (by decide) (fun c10 => ?_) (fun c10 => ?_)
        · have fc10 := cx_ge_t (a := w3.toInt) (b := mo_taped.toInt) rfl rfl c10
          refine lv_iconst (v := 0) hx hb dX9_goesOn_62 (by decide) ?_
          refine lv_istore_n (lv' := [(1, .int 0), (0, .ref mo)]) hx hb dX9_goesOn_63 rfl hl (by decide) rfl (fun ls hl => ?_)
          refine lv_aload_n hx hb dX9_goesOn_64 rfl (lv_at hl 1 rfl) ?_
          refine lv_dup hx hb dX9_goesOn_65 rfl ?_
          refine va_get (D := D) (ci := 7) (v := .int w3) (C := RX9) (T := TX9) (N := 53) hx hb hts in9 hown hG.1 hP 0 rfl rfl 19 (by decide) (hts (.fieldLink RX9 164 "ChairCaneModel" "p" "I") (by decide +kernel)) (fun _ h9 => h9) rfl dX9_goesOn_66 ?_
          refine lv_iconst (v := 1) hx hb dX9_goesOn_69 (by decide) ?_
          refine lv_iadd hx hb dX9_goesOn_70 ?_
          refine lv_topi (fun z11 ez11 => ?_)
          have tz11 : z11.toInt = w3.toInt + 1 := ai_add rfl (by decide) ez11 (by omega) (by omega)
          refine va_put (D := D) (ci := 7) (v := .int z11) (C := RX9) (T := TX9) (N := 53) hx hb hts in9 tyX9 tyX9_ok nmX9 hown hG.1 hP hD hS 0 rfl rfl 19 (by decide) (hts (.fieldLink RX9 164 "ChairCaneModel" "p" "I") (by decide +kernel)) (fun _ h9 => h9) rfl (tyX9_ok 19 (by decide)) rfl rfl (Nat.le_of_ble_eq_true rfl) dX9_goesOn_71 (fun H locs hP hD hS => ?_)
          have hP : va_P D vwCl ([(mo, .inr (7, [.int mo_thrown, .ref mo_ascalar, .ref mo_acane, .ref mo_ais, .ref mo_astrandOf, .ref mo_aweight, .ref mo_aheight, .ref mo_achairOf, .ref mo_anoteMinute, .ref mo_anoteWho, .ref mo_anoteIs, .ref mo_atoldCane, .ref mo_anewScalar, .ref mo_anewCane, .ref mo_anewHeight, .ref mo_anewStrand, .ref mo_anewChair, .ref mo_anewWeight, .int mo_taped, .int z11, .int mo_fault, .int mo_slot, .int mo_rules, .int mo_entries, .int mo_deep, .int mo_counted, .int mo_opened, .int mo_words, .ref mo_atape, .ref mo_asort, .ref mo_anumber, .ref mo_aclauses, .ref mo_asumAt, .ref mo_atestAt, .ref mo_aendAt, .ref mo_aopen, .ref mo_aasked, .ref mo_astack, .ref mo_amust, .ref mo_apast, .ref mo_apastOf, .int mo_pastMany, .int mo_pastAt, .int mo_takesBack, .ref mo_acanRise, .ref mo_afirstHas, .ref mo_asecondHas, .ref mo_alay, .ref mo_ashows, .ref mo_aimages, .ref mo_aisMade, .int mo_imageAt, .int mo_goesBack])), (mo_atape, hcY k 400 mo_rtape)]) H := hP
          have hD : va_D A ([(mo, .inr (7, [.int mo_thrown, .ref mo_ascalar, .ref mo_acane, .ref mo_ais, .ref mo_astrandOf, .ref mo_aweight, .ref mo_aheight, .ref mo_achairOf, .ref mo_anoteMinute, .ref mo_anoteWho, .ref mo_anoteIs, .ref mo_atoldCane, .ref mo_anewScalar, .ref mo_anewCane, .ref mo_anewHeight, .ref mo_anewStrand, .ref mo_anewChair, .ref mo_anewWeight, .int mo_taped, .int z11, .int mo_fault, .int mo_slot, .int mo_rules, .int mo_entries, .int mo_deep, .int mo_counted, .int mo_opened, .int mo_words, .ref mo_atape, .ref mo_asort, .ref mo_anumber, .ref mo_aclauses, .ref mo_asumAt, .ref mo_atestAt, .ref mo_aendAt, .ref mo_aopen, .ref mo_aasked, .ref mo_astack, .ref mo_amust, .ref mo_apast, .ref mo_apastOf, .int mo_pastMany, .int mo_pastAt, .int mo_takesBack, .ref mo_acanRise, .ref mo_afirstHas, .ref mo_asecondHas, .ref mo_alay, .ref mo_ashows, .ref mo_aimages, .ref mo_aisMade, .int mo_imageAt, .int mo_goesBack])), (mo_atape, hcY k 400 mo_rtape)]) := hD
          refine lv_iload_n hx hb dX9_goesOn_74 rfl (lv_at hl 0 rfl) ?_
          exact hc_endZ hx hb hr hlocks rfl (z11, mo_fault) ⟨iv_lit (by decide) (by decide), (show iv (0) (402) z11 from ⟨by omega, by omega⟩), (show iv (0) (4000) mo_fault from ⟨by omega, by omega⟩), (by (try dsimp only); have q9 : (0 : Int32).toInt = 0 := (by decide); omega)⟩ hP hD hS dX9_goesOn_75
        · have fc10 := cx_ge_f (a := w3.toInt) (b := mo_taped.toInt) rfl rfl c10
          refine lv_iconst (v := 1) hx hb dX9_goesOn_58 (by decide) ?_
          refine lv_goto (tgt := 63) hx hb dX9_goesOn_59 (by decide) ?_
          refine lv_istore_n (lv' := [(1, .int 1), (0, .ref mo)]) hx hb dX9_goesOn_63 rfl hl (by decide) rfl (fun ls hl => ?_)
          refine lv_aload_n hx hb dX9_goesOn_64 rfl (lv_at hl 1 rfl) ?_
          refine lv_dup hx hb dX9_goesOn_65 rfl ?_
          refine va_get (D := D) (ci := 7) (v := .int w3) (C := RX9) (T := TX9) (N := 53) hx hb hts in9 hown hG.1 hP 0 rfl rfl 19 (by decide) (hts (.fieldLink RX9 164 "ChairCaneModel" "p" "I") (by decide +kernel)) (fun _ h9 => h9) rfl dX9_goesOn_66 ?_
          refine lv_iconst (v := 1) hx hb dX9_goesOn_69 (by decide) ?_
          refine lv_iadd hx hb dX9_goesOn_70 ?_
          refine lv_topi (fun z12 ez12 => ?_)
          have tz12 : z12.toInt = w3.toInt + 1 := ai_add rfl (by decide) ez12 (by omega) (by omega)
          refine va_put (D := D) (ci := 7) (v := .int z12) (C := RX9) (T := TX9) (N := 53) hx hb hts in9 tyX9 tyX9_ok nmX9 hown hG.1 hP hD hS 0 rfl rfl 19 (by decide) (hts (.fieldLink RX9 164 "ChairCaneModel" "p" "I") (by decide +kernel)) (fun _ h9 => h9) rfl (tyX9_ok 19 (by decide)) rfl rfl (Nat.le_of_ble_eq_true rfl) dX9_goesOn_71 (fun H locs hP hD hS => ?_)
          have hP : va_P D vwCl ([(mo, .inr (7, [.int mo_thrown, .ref mo_ascalar, .ref mo_acane, .ref mo_ais, .ref mo_astrandOf, .ref mo_aweight, .ref mo_aheight, .ref mo_achairOf, .ref mo_anoteMinute, .ref mo_anoteWho, .ref mo_anoteIs, .ref mo_atoldCane, .ref mo_anewScalar, .ref mo_anewCane, .ref mo_anewHeight, .ref mo_anewStrand, .ref mo_anewChair, .ref mo_anewWeight, .int mo_taped, .int z12, .int mo_fault, .int mo_slot, .int mo_rules, .int mo_entries, .int mo_deep, .int mo_counted, .int mo_opened, .int mo_words, .ref mo_atape, .ref mo_asort, .ref mo_anumber, .ref mo_aclauses, .ref mo_asumAt, .ref mo_atestAt, .ref mo_aendAt, .ref mo_aopen, .ref mo_aasked, .ref mo_astack, .ref mo_amust, .ref mo_apast, .ref mo_apastOf, .int mo_pastMany, .int mo_pastAt, .int mo_takesBack, .ref mo_acanRise, .ref mo_afirstHas, .ref mo_asecondHas, .ref mo_alay, .ref mo_ashows, .ref mo_aimages, .ref mo_aisMade, .int mo_imageAt, .int mo_goesBack])), (mo_atape, hcY k 400 mo_rtape)]) H := hP
          have hD : va_D A ([(mo, .inr (7, [.int mo_thrown, .ref mo_ascalar, .ref mo_acane, .ref mo_ais, .ref mo_astrandOf, .ref mo_aweight, .ref mo_aheight, .ref mo_achairOf, .ref mo_anoteMinute, .ref mo_anoteWho, .ref mo_anoteIs, .ref mo_atoldCane, .ref mo_anewScalar, .ref mo_anewCane, .ref mo_anewHeight, .ref mo_anewStrand, .ref mo_anewChair, .ref mo_anewWeight, .int mo_taped, .int z12, .int mo_fault, .int mo_slot, .int mo_rules, .int mo_entries, .int mo_deep, .int mo_counted, .int mo_opened, .int mo_words, .ref mo_atape, .ref mo_asort, .ref mo_anumber, .ref mo_aclauses, .ref mo_asumAt, .ref mo_atestAt, .ref mo_aendAt, .ref mo_aopen, .ref mo_aasked, .ref mo_astack, .ref mo_amust, .ref mo_apast, .ref mo_apastOf, .int mo_pastMany, .int mo_pastAt, .int mo_takesBack, .ref mo_acanRise, .ref mo_afirstHas, .ref mo_asecondHas, .ref mo_alay, .ref mo_ashows, .ref mo_aimages, .ref mo_aisMade, .int mo_imageAt, .int mo_goesBack])), (mo_atape, hcY k 400 mo_rtape)]) := hD
          refine lv_iload_n hx hb dX9_goesOn_74 rfl (lv_at hl 0 rfl) ?_
          exact hc_endZ hx hb hr hlocks rfl (z12, mo_fault) ⟨iv_lit (by decide) (by decide), (show iv (0) (402) z12 from ⟨by omega, by omega⟩), (show iv (0) (4000) mo_fault from ⟨by omega, by omega⟩), (by (try dsimp only); have q9 : (1 : Int32).toInt = 1 := (by decide); omega)⟩ hP hD hS dX9_goesOn_75
    · have fc7 := cx_ge_f (a := w3.toInt) (b := mo_taped.toInt) rfl rfl c7
      refine lv_aload_n hx hb dX9_goesOn_22 rfl (lv_at hl 0 rfl) ?_
      refine hc_Vi (As := []) (rest := []) (n := 0) (wr := []) hx hb hml hown hts hG hA hP hD hS hl.1 [0, 1] [] (i_X9_sign l D k _ mo mo_thrown mo_ascalar mo_acane mo_ais mo_astrandOf mo_aweight mo_aheight mo_achairOf mo_anoteMinute mo_anoteWho mo_anoteIs mo_atoldCane mo_anewScalar mo_anewCane mo_anewHeight mo_anewStrand mo_anewChair mo_anewWeight mo_taped w3 mo_fault mo_slot mo_rules mo_entries mo_deep mo_counted mo_opened mo_words mo_atape mo_asort mo_anumber mo_aclauses mo_asumAt mo_atestAt mo_aendAt mo_aopen mo_aasked mo_astack mo_amust mo_apast mo_apastOf mo_pastMany mo_pastAt mo_takesBack mo_acanRise mo_afirstHas mo_asecondHas mo_alay mo_ashows mo_aimages mo_aisMade mo_imageAt mo_goesBack mo_rtape ⟨by omega, by omega⟩ ⟨by omega, by omega⟩ ⟨by omega, by omega⟩ ⟨by omega, by omega⟩ ⟨by omega, by omega⟩ ⟨by omega, by omega⟩ ⟨by omega, by omega⟩ ⟨by omega, by omega⟩ ⟨by omega, by omega⟩ ⟨by omega, by omega⟩ ⟨by omega, by omega⟩ ⟨by omega, by omega⟩ ⟨by omega, by omega⟩ ⟨by omega, by omega⟩) (ci := 7) (q0 := 0) rfl rfl gX9_goesOn_X9_sign rfl ⟨rfl, rfl, Nat.le_of_ble_eq_true rfl, Nat.le_of_ble_eq_true rfl⟩ (by decide +kernel) rfl rfl ⟨by decide, by decide, by decide⟩ ⟨rfl, rfl, Nat.le_of_ble_eq_true rfl, Nat.le_of_ble_eq_true rfl, Nat.le_of_ble_eq_true rfl⟩ dX9_goesOn_23 (fun r14 u13 H locs hw hP hD hS => ?_)
      have hP : va_P D vwCl ([(mo, .inr (7, [.int mo_thrown, .ref mo_ascalar, .ref mo_acane, .ref mo_ais, .ref mo_astrandOf, .ref mo_aweight, .ref mo_aheight, .ref mo_achairOf, .ref mo_anoteMinute, .ref mo_anoteWho, .ref mo_anoteIs, .ref mo_atoldCane, .ref mo_anewScalar, .ref mo_anewCane, .ref mo_anewHeight, .ref mo_anewStrand, .ref mo_anewChair, .ref mo_anewWeight, .int mo_taped, .int w3, .int mo_fault, .int mo_slot, .int mo_rules, .int mo_entries, .int mo_deep, .int mo_counted, .int mo_opened, .int mo_words, .ref mo_atape, .ref mo_asort, .ref mo_anumber, .ref mo_aclauses, .ref mo_asumAt, .ref mo_atestAt, .ref mo_aendAt, .ref mo_aopen, .ref mo_aasked, .ref mo_astack, .ref mo_amust, .ref mo_apast, .ref mo_apastOf, .int mo_pastMany, .int mo_pastAt, .int mo_takesBack, .ref mo_acanRise, .ref mo_afirstHas, .ref mo_asecondHas, .ref mo_alay, .ref mo_ashows, .ref mo_aimages, .ref mo_aisMade, .int mo_imageAt, .int mo_goesBack])), (mo_atape, hcY k 400 mo_rtape)]) H := hP
      have hD : va_D A ([(mo, .inr (7, [.int mo_thrown, .ref mo_ascalar, .ref mo_acane, .ref mo_ais, .ref mo_astrandOf, .ref mo_aweight, .ref mo_aheight, .ref mo_achairOf, .ref mo_anoteMinute, .ref mo_anoteWho, .ref mo_anoteIs, .ref mo_atoldCane, .ref mo_anewScalar, .ref mo_anewCane, .ref mo_anewHeight, .ref mo_anewStrand, .ref mo_anewChair, .ref mo_anewWeight, .int mo_taped, .int w3, .int mo_fault, .int mo_slot, .int mo_rules, .int mo_entries, .int mo_deep, .int mo_counted, .int mo_opened, .int mo_words, .ref mo_atape, .ref mo_asort, .ref mo_anumber, .ref mo_aclauses, .ref mo_asumAt, .ref mo_atestAt, .ref mo_aendAt, .ref mo_aopen, .ref mo_aasked, .ref mo_astack, .ref mo_amust, .ref mo_apast, .ref mo_apastOf, .int mo_pastMany, .int mo_pastAt, .int mo_takesBack, .ref mo_acanRise, .ref mo_afirstHas, .ref mo_asecondHas, .ref mo_alay, .ref mo_ashows, .ref mo_aimages, .ref mo_aisMade, .int mo_imageAt, .int mo_goesBack])), (mo_atape, hcY k 400 mo_rtape)]) := hD
      obtain ⟨br14, rel15⟩ := hw
      have br14 : iv (-1) (255) r14 := br14
      have br14_l := br14.1
      have br14_u := br14.2
      refine lv_bipush (v := 59) hx hb dX9_goesOn_26 (by decide) ?_
      refine lv_icmp_eq (tgt := 40) hx hb dX9_goesOn_28 (by decide) (fun c16 => ?_) (fun c16 => ?_)
      · have fc16 := cx_eq_t (a := r14.toInt) (b := 59) rfl (by decide) c16
        refine lv_aload_n hx hb dX9_goesOn_40 rfl (lv_at hl 0 rfl) ?_
        refine va_get (D := D) (ci := 7) (v := .int mo_fault) (C := RX9) (T := TX9) (N := 53) hx hb hts in9 hown hG.1 hP 0 rfl rfl 20 (by decide) (hts (.fieldLink RX9 161 "ChairCaneModel" "fault" "I") (by decide +kernel)) (fun _ h9 => h9) rfl dX9_goesOn_41 ?_
        refine lv_if_ne (tgt := 62) hx hb dX9_goesOn_44 (by decide) (fun c17 => ?_) (fun c17 => ?_)
        · have fc17 := cx_ne_t (a := mo_fault.toInt) (b := 0) rfl (by decide) c17
          refine lv_iconst (v := 0) hx hb dX9_goesOn_62 (by decide) ?_
          refine lv_istore_n (lv' := [(1, .int 0), (0, .ref mo)]) hx hb dX9_goesOn_63 rfl hl (by decide) rfl (fun ls hl => ?_)
          refine lv_aload_n hx hb dX9_goesOn_64 rfl (lv_at hl 1 rfl) ?_
          refine lv_dup hx hb dX9_goesOn_65 rfl ?_
          refine va_get (D := D) (ci := 7) (v := .int w3) (C := RX9) (T := TX9) (N := 53) hx hb hts in9 hown hG.1 hP 0 rfl rfl 19 (by decide) (hts (.fieldLink RX9 164 "ChairCaneModel" "p" "I") (by decide +kernel)) (fun _ h9 => h9) rfl dX9_goesOn_66 ?_
          refine lv_iconst (v := 1) hx hb dX9_goesOn_69 (by decide) ?_
          refine lv_iadd hx hb dX9_goesOn_70 ?_
          refine lv_topi (fun z18 ez18 => ?_)
          have tz18 : z18.toInt = w3.toInt + 1 := ai_add rfl (by decide) ez18 (by omega) (by omega)
          refine va_put (D := D) (ci := 7) (v := .int z18) (C := RX9) (T := TX9) (N := 53) hx hb hts in9 tyX9 tyX9_ok nmX9 hown hG.1 hP hD hS 0 rfl rfl 19 (by decide) (hts (.fieldLink RX9 164 "ChairCaneModel" "p" "I") (by decide +kernel)) (fun _ h9 => h9) rfl (tyX9_ok 19 (by decide)) rfl rfl (Nat.le_of_ble_eq_true rfl) dX9_goesOn_71 (fun H locs hP hD hS => ?_)
          have hP : va_P D vwCl ([(mo, .inr (7, [.int mo_thrown, .ref mo_ascalar, .ref mo_acane, .ref mo_ais, .ref mo_astrandOf, .ref mo_aweight, .ref mo_aheight, .ref mo_achairOf, .ref mo_anoteMinute, .ref mo_anoteWho, .ref mo_anoteIs, .ref mo_atoldCane, .ref mo_anewScalar, .ref mo_anewCane, .ref mo_anewHeight, .ref mo_anewStrand, .ref mo_anewChair, .ref mo_anewWeight, .int mo_taped, .int z18, .int mo_fault, .int mo_slot, .int mo_rules, .int mo_entries, .int mo_deep, .int mo_counted, .int mo_opened, .int mo_words, .ref mo_atape, .ref mo_asort, .ref mo_anumber, .ref mo_aclauses, .ref mo_asumAt, .ref mo_atestAt, .ref mo_aendAt, .ref mo_aopen, .ref mo_aasked, .ref mo_astack, .ref mo_amust, .ref mo_apast, .ref mo_apastOf, .int mo_pastMany, .int mo_pastAt, .int mo_takesBack, .ref mo_acanRise, .ref mo_afirstHas, .ref mo_asecondHas, .ref mo_alay, .ref mo_ashows, .ref mo_aimages, .ref mo_aisMade, .int mo_imageAt, .int mo_goesBack])), (mo_atape, hcY k 400 mo_rtape)]) H := hP
          have hD : va_D A ([(mo, .inr (7, [.int mo_thrown, .ref mo_ascalar, .ref mo_acane, .ref mo_ais, .ref mo_astrandOf, .ref mo_aweight, .ref mo_aheight, .ref mo_achairOf, .ref mo_anoteMinute, .ref mo_anoteWho, .ref mo_anoteIs, .ref mo_atoldCane, .ref mo_anewScalar, .ref mo_anewCane, .ref mo_anewHeight, .ref mo_anewStrand, .ref mo_anewChair, .ref mo_anewWeight, .int mo_taped, .int z18, .int mo_fault, .int mo_slot, .int mo_rules, .int mo_entries, .int mo_deep, .int mo_counted, .int mo_opened, .int mo_words, .ref mo_atape, .ref mo_asort, .ref mo_anumber, .ref mo_aclauses, .ref mo_asumAt, .ref mo_atestAt, .ref mo_aendAt, .ref mo_aopen, .ref mo_aasked, .ref mo_astack, .ref mo_amust, .ref mo_apast, .ref mo_apastOf, .int mo_pastMany, .int mo_pastAt, .int mo_takesBack, .ref mo_acanRise, .ref mo_afirstHas, .ref mo_asecondHas, .ref mo_alay, .ref mo_ashows, .ref mo_aimages, .ref mo_aisMade, .int mo_imageAt, .int mo_goesBack])), (mo_atape, hcY k 400 mo_rtape)]) := hD
          refine lv_iload_n hx hb dX9_goesOn_74 rfl (lv_at hl 0 rfl) ?_
          exact hc_endZ hx hb hr hlocks rfl (z18, mo_fault) ⟨iv_lit (by decide) (by decide), (show iv (0) (402) z18 from ⟨by omega, by omega⟩), (show iv (0) (4000) mo_fault from ⟨by omega, by omega⟩), (by (try dsimp only); have q9 : (0 : Int32).toInt = 0 := (by decide); omega)⟩ hP hD hS dX9_goesOn_75
        · have fc17 := cx_ne_f (a := mo_fault.toInt) (b := 0) rfl (by decide) c17
          refine lv_aload_n hx hb dX9_goesOn_47 rfl (lv_at hl 0 rfl) ?_
          refine va_get (D := D) (ci := 7) (v := .int w3) (C := RX9) (T := TX9) (N := 53) hx hb hts in9 hown hG.1 hP 0 rfl rfl 19 (by decide) (hts (.fieldLink RX9 164 "ChairCaneModel" "p" "I") (by decide +kernel)) (fun _ h9 => h9) rfl dX9_goesOn_48 ?_
          refine lv_aload_n hx hb dX9_goesOn_51 rfl (lv_at hl 0 rfl) ?_
          refine va_get (D := D) (ci := 7) (v := .int mo_taped) (C := RX9) (T := TX9) (N := 53) hx hb hts in9 hown hG.1 hP 0 rfl rfl 18 (by decide) (hts (.fieldLink RX9 135 "ChairCaneModel" "taped" "I") (by decide +kernel)) (fun _ h9 => h9) rfl dX9_goesOn_52 ?_
          refine lv_icmp_ge (tgt := 62) hx hb dX9_goesOn_55 (by decide) (fun c19 => ?_) (fun c19 => ?_)
          · have fc19 := cx_ge_t (a := w3.toInt) (b := mo_taped.toInt) rfl rfl c19
            refine lv_iconst (v := 0) hx hb dX9_goesOn_62 (by decide) ?_
            refine lv_istore_n (lv' := [(1, .int 0), (0, .ref mo)]) hx hb dX9_goesOn_63 rfl hl (by decide) rfl (fun ls hl => ?_)
            refine lv_aload_n hx hb dX9_goesOn_64 rfl (lv_at hl 1 rfl) ?_
            refine lv_dup hx hb dX9_goesOn_65 rfl ?_
            refine va_get (D := D) (ci := 7) (v := .int w3) (C := RX9) (T := TX9) (N := 53) hx hb hts in9 hown hG.1 hP 0 rfl rfl 19 (by decide) (hts (.fieldLink RX9 164 "ChairCaneModel" "p" "I") (by decide +kernel)) (fun _ h9 => h9) rfl dX9_goesOn_66 ?_
            refine lv_iconst (v := 1) hx hb dX9_goesOn_69 (by decide) ?_
            refine lv_iadd hx hb dX9_goesOn_70 ?_
            refine lv_topi (fun z20 ez20 => ?_)
            have tz20 : z20.toInt = w3.toInt + 1 := ai_add rfl (by decide) ez20 (by omega) (by omega)
            refine va_put (D := D) (ci := 7) (v := .int z20) (C := RX9) (T := TX9) (N := 53) hx hb hts in9 tyX9 tyX9_ok nmX9 hown hG.1 hP hD hS 0 rfl rfl 19 (by decide) (hts (.fieldLink RX9 164 "ChairCaneModel" "p" "I") (by decide +kernel)) (fun _ h9 => h9) rfl (tyX9_ok 19 (by decide)) rfl rfl (Nat.le_of_ble_eq_true rfl) dX9_goesOn_71 (fun H locs hP hD hS => ?_)
            have hP : va_P D vwCl ([(mo, .inr (7, [.int mo_thrown, .ref mo_ascalar, .ref mo_acane, .ref mo_ais, .ref mo_astrandOf, .ref mo_aweight, .ref mo_aheight, .ref mo_achairOf, .ref mo_anoteMinute, .ref mo_anoteWho, .ref mo_anoteIs, .ref mo_atoldCane, .ref mo_anewScalar, .ref mo_anewCane, .ref mo_anewHeight, .ref mo_anewStrand, .ref mo_anewChair, .ref mo_anewWeight, .int mo_taped, .int z20, .int mo_fault, .int mo_slot, .int mo_rules, .int mo_entries, .int mo_deep, .int mo_counted, .int mo_opened, .int mo_words, .ref mo_atape, .ref mo_asort, .ref mo_anumber, .ref mo_aclauses, .ref mo_asumAt, .ref mo_atestAt, .ref mo_aendAt, .ref mo_aopen, .ref mo_aasked, .ref mo_astack, .ref mo_amust, .ref mo_apast, .ref mo_apastOf, .int mo_pastMany, .int mo_pastAt, .int mo_takesBack, .ref mo_acanRise, .ref mo_afirstHas, .ref mo_asecondHas, .ref mo_alay, .ref mo_ashows, .ref mo_aimages, .ref mo_aisMade, .int mo_imageAt, .int mo_goesBack])), (mo_atape, hcY k 400 mo_rtape)]) H := hP
            have hD : va_D A ([(mo, .inr (7, [.int mo_thrown, .ref mo_ascalar, .ref mo_acane, .ref mo_ais, .ref mo_astrandOf, .ref mo_aweight, .ref mo_aheight, .ref mo_achairOf, .ref mo_anoteMinute, .ref mo_anoteWho, .ref mo_anoteIs, .ref mo_atoldCane, .ref mo_anewScalar, .ref mo_anewCane, .ref mo_anewHeight, .ref mo_anewStrand, .ref mo_anewChair, .ref mo_anewWeight, .int mo_taped, .int z20, .int mo_fault, .int mo_slot, .int mo_rules, .int mo_entries, .int mo_deep, .int mo_counted, .int mo_opened, .int mo_words, .ref mo_atape, .ref mo_asort, .ref mo_anumber, .ref mo_aclauses, .ref mo_asumAt, .ref mo_atestAt, .ref mo_aendAt, .ref mo_aopen, .ref mo_aasked, .ref mo_astack, .ref mo_amust, .ref mo_apast, .ref mo_apastOf, .int mo_pastMany, .int mo_pastAt, .int mo_takesBack, .ref mo_acanRise, .ref mo_afirstHas, .ref mo_asecondHas, .ref mo_alay, .ref mo_ashows, .ref mo_aimages, .ref mo_aisMade, .int mo_imageAt, .int mo_goesBack])), (mo_atape, hcY k 400 mo_rtape)]) := hD
            refine lv_iload_n hx hb dX9_goesOn_74 rfl (lv_at hl 0 rfl) ?_
            exact hc_endZ hx hb hr hlocks rfl (z20, mo_fault) ⟨iv_lit (by decide) (by decide), (show iv (0) (402) z20 from ⟨by omega, by omega⟩), (show iv (0) (4000) mo_fault from ⟨by omega, by omega⟩), (by (try dsimp only); have q9 : (0 : Int32).toInt = 0 := (by decide); omega)⟩ hP hD hS dX9_goesOn_75
          · have fc19 := cx_ge_f (a := w3.toInt) (b := mo_taped.toInt) rfl rfl c19
            refine lv_iconst (v := 1) hx hb dX9_goesOn_58 (by decide) ?_
            refine lv_goto (tgt := 63) hx hb dX9_goesOn_59 (by decide) ?_
            refine lv_istore_n (lv' := [(1, .int 1), (0, .ref mo)]) hx hb dX9_goesOn_63 rfl hl (by decide) rfl (fun ls hl => ?_)
            refine lv_aload_n hx hb dX9_goesOn_64 rfl (lv_at hl 1 rfl) ?_
            refine lv_dup hx hb dX9_goesOn_65 rfl ?_
            refine va_get (D := D) (ci := 7) (v := .int w3) (C := RX9) (T := TX9) (N := 53) hx hb hts in9 hown hG.1 hP 0 rfl rfl 19 (by decide) (hts (.fieldLink RX9 164 "ChairCaneModel" "p" "I") (by decide +kernel)) (fun _ h9 => h9) rfl dX9_goesOn_66 ?_
            refine lv_iconst (v := 1) hx hb dX9_goesOn_69 (by decide) ?_
            refine lv_iadd hx hb dX9_goesOn_70 ?_
            refine lv_topi (fun z21 ez21 => ?_)
            have tz21 : z21.toInt = w3.toInt + 1 := ai_add rfl (by decide) ez21 (by omega) (by omega)
            refine va_put (D := D) (ci := 7) (v := .int z21) (C := RX9) (T := TX9) (N := 53) hx hb hts in9 tyX9 tyX9_ok nmX9 hown hG.1 hP hD hS 0 rfl rfl 19 (by decide) (hts (.fieldLink RX9 164 "ChairCaneModel" "p" "I") (by decide +kernel)) (fun _ h9 => h9) rfl (tyX9_ok 19 (by decide)) rfl rfl (Nat.le_of_ble_eq_true rfl) dX9_goesOn_71 (fun H locs hP hD hS => ?_)
            have hP : va_P D vwCl ([(mo, .inr (7, [.int mo_thrown, .ref mo_ascalar, .ref mo_acane, .ref mo_ais, .ref mo_astrandOf, .ref mo_aweight, .ref mo_aheight, .ref mo_achairOf, .ref mo_anoteMinute, .ref mo_anoteWho, .ref mo_anoteIs, .ref mo_atoldCane, .ref mo_anewScalar, .ref mo_anewCane, .ref mo_anewHeight, .ref mo_anewStrand, .ref mo_anewChair, .ref mo_anewWeight, .int mo_taped, .int z21, .int mo_fault, .int mo_slot, .int mo_rules, .int mo_entries, .int mo_deep, .int mo_counted, .int mo_opened, .int mo_words, .ref mo_atape, .ref mo_asort, .ref mo_anumber, .ref mo_aclauses, .ref mo_asumAt, .ref mo_atestAt, .ref mo_aendAt, .ref mo_aopen, .ref mo_aasked, .ref mo_astack, .ref mo_amust, .ref mo_apast, .ref mo_apastOf, .int mo_pastMany, .int mo_pastAt, .int mo_takesBack, .ref mo_acanRise, .ref mo_afirstHas, .ref mo_asecondHas, .ref mo_alay, .ref mo_ashows, .ref mo_aimages, .ref mo_aisMade, .int mo_imageAt, .int mo_goesBack])), (mo_atape, hcY k 400 mo_rtape)]) H := hP
            have hD : va_D A ([(mo, .inr (7, [.int mo_thrown, .ref mo_ascalar, .ref mo_acane, .ref mo_ais, .ref mo_astrandOf, .ref mo_aweight, .ref mo_aheight, .ref mo_achairOf, .ref mo_anoteMinute, .ref mo_anoteWho, .ref mo_anoteIs, .ref mo_atoldCane, .ref mo_anewScalar, .ref mo_anewCane, .ref mo_anewHeight, .ref mo_anewStrand, .ref mo_anewChair, .ref mo_anewWeight, .int mo_taped, .int z21, .int mo_fault, .int mo_slot, .int mo_rules, .int mo_entries, .int mo_deep, .int mo_counted, .int mo_opened, .int mo_words, .ref mo_atape, .ref mo_asort, .ref mo_anumber, .ref mo_aclauses, .ref mo_asumAt, .ref mo_atestAt, .ref mo_aendAt, .ref mo_aopen, .ref mo_aasked, .ref mo_astack, .ref mo_amust, .ref mo_apast, .ref mo_apastOf, .int mo_pastMany, .int mo_pastAt, .int mo_takesBack, .ref mo_acanRise, .ref mo_afirstHas, .ref mo_asecondHas, .ref mo_alay, .ref mo_ashows, .ref mo_aimages, .ref mo_aisMade, .int mo_imageAt, .int mo_goesBack])), (mo_atape, hcY k 400 mo_rtape)]) := hD
            refine lv_iload_n hx hb dX9_goesOn_74 rfl (lv_at hl 0 rfl) ?_
            exact hc_endZ hx hb hr hlocks rfl (z21, mo_fault) ⟨iv_lit (by decide) (by decide), (show iv (0) (402) z21 from ⟨by omega, by omega⟩), (show iv (0) (4000) mo_fault from ⟨by omega, by omega⟩), (by (try dsimp only); have q9 : (1 : Int32).toInt = 1 := (by decide); omega)⟩ hP hD hS dX9_goesOn_75
      · have fc16 := cx_eq_f (a := r14.toInt) (b := 59) rfl (by decide) c16
        refine lv_aload_n hx hb dX9_goesOn_31 rfl (lv_at hl 0 rfl) ?_
        refine lv_iconst (v := 0) hx hb dX9_goesOn_32 (by decide) ?_
        refine lv_aload_n hx hb dX9_goesOn_33 rfl (lv_at hl 0 rfl) ?_
        refine va_get (D := D) (ci := 7) (v := .int w3) (C := RX9) (T := TX9) (N := 53) hx hb hts in9 hown hG.1 hP 0 rfl rfl 19 (by decide) (hts (.fieldLink RX9 164 "ChairCaneModel" "p" "I") (by decide +kernel)) (fun _ h9 => h9) rfl dX9_goesOn_34 ?_
        have ql22 : (0 : Int32).toInt = 0 := by decide
        refine hc_Vv (As := [.int 0, .int w3]) (rest := []) (n := 2) (wr := [(mo_atape, hcY k 400 mo_rtape)]) hx hb hml hown hts hG hA hP hD hS hl.1 [0] [1] (i_X9_fails l D k _ 0 w3 mo mo_thrown mo_ascalar mo_acane mo_ais mo_astrandOf mo_aweight mo_aheight mo_achairOf mo_anoteMinute mo_anoteWho mo_anoteIs mo_atoldCane mo_anewScalar mo_anewCane mo_anewHeight mo_anewStrand mo_anewChair mo_anewWeight mo_taped w3 mo_fault mo_slot mo_rules mo_entries mo_deep mo_counted mo_opened mo_words mo_atape mo_asort mo_anumber mo_aclauses mo_asumAt mo_atestAt mo_aendAt mo_aopen mo_aasked mo_astack mo_amust mo_apast mo_apastOf mo_pastMany mo_pastAt mo_takesBack mo_acanRise mo_afirstHas mo_asecondHas mo_alay mo_ashows mo_aimages mo_aisMade mo_imageAt mo_goesBack (iv_lit (by decide) (by decide)) ⟨by omega, by omega⟩ ⟨by omega, by omega⟩ ⟨by omega, by omega⟩ ⟨by omega, by omega⟩ ⟨by omega, by omega⟩ ⟨by omega, by omega⟩ ⟨by omega, by omega⟩ ⟨by omega, by omega⟩ ⟨by omega, by omega⟩ ⟨by omega, by omega⟩ ⟨by omega, by omega⟩ ⟨by omega, by omega⟩ ⟨by omega, by omega⟩ ⟨by omega, by omega⟩ ⟨by omega, by omega⟩) (ci := 7) (q0 := 0) rfl rfl gX9_goesOn_X9_fails rfl ⟨rfl, rfl, Nat.le_of_ble_eq_true rfl, Nat.le_of_ble_eq_true rfl⟩ (by decide +kernel) rfl rfl ⟨by decide, by decide, by decide⟩ ⟨rfl, rfl, Nat.le_of_ble_eq_true rfl, Nat.le_of_ble_eq_true rfl, Nat.le_of_ble_eq_true rfl⟩ dX9_goesOn_37 (fun u23 H locs hw hP hD hS => ?_)
        obtain ⟨w25, rfl⟩ : ∃ z, z = u23 := ⟨_, rfl⟩
        have hP : va_P D vwCl ([(mo_atape, hcY k 400 mo_rtape), (mo, .inr (7, [.int mo_thrown, .ref mo_ascalar, .ref mo_acane, .ref mo_ais, .ref mo_astrandOf, .ref mo_aweight, .ref mo_aheight, .ref mo_achairOf, .ref mo_anoteMinute, .ref mo_anoteWho, .ref mo_anoteIs, .ref mo_atoldCane, .ref mo_anewScalar, .ref mo_anewCane, .ref mo_anewHeight, .ref mo_anewStrand, .ref mo_anewChair, .ref mo_anewWeight, .int mo_taped, .int w3, .int w25, .int mo_slot, .int mo_rules, .int mo_entries, .int mo_deep, .int mo_counted, .int mo_opened, .int mo_words, .ref mo_atape, .ref mo_asort, .ref mo_anumber, .ref mo_aclauses, .ref mo_asumAt, .ref mo_atestAt, .ref mo_aendAt, .ref mo_aopen, .ref mo_aasked, .ref mo_astack, .ref mo_amust, .ref mo_apast, .ref mo_apastOf, .int mo_pastMany, .int mo_pastAt, .int mo_takesBack, .ref mo_acanRise, .ref mo_afirstHas, .ref mo_asecondHas, .ref mo_alay, .ref mo_ashows, .ref mo_aimages, .ref mo_aisMade, .int mo_imageAt, .int mo_goesBack]))]) H := hP
        have hD : va_D A ([(mo_atape, hcY k 400 mo_rtape), (mo, .inr (7, [.int mo_thrown, .ref mo_ascalar, .ref mo_acane, .ref mo_ais, .ref mo_astrandOf, .ref mo_aweight, .ref mo_aheight, .ref mo_achairOf, .ref mo_anoteMinute, .ref mo_anoteWho, .ref mo_anoteIs, .ref mo_atoldCane, .ref mo_anewScalar, .ref mo_anewCane, .ref mo_anewHeight, .ref mo_anewStrand, .ref mo_anewChair, .ref mo_anewWeight, .int mo_taped, .int w3, .int w25, .int mo_slot, .int mo_rules, .int mo_entries, .int mo_deep, .int mo_counted, .int mo_opened, .int mo_words, .ref mo_atape, .ref mo_asort, .ref mo_anumber, .ref mo_aclauses, .ref mo_asumAt, .ref mo_atestAt, .ref mo_aendAt, .ref mo_aopen, .ref mo_aasked, .ref mo_astack, .ref mo_amust, .ref mo_apast, .ref mo_apastOf, .int mo_pastMany, .int mo_pastAt, .int mo_takesBack, .ref mo_acanRise, .ref mo_afirstHas, .ref mo_asecondHas, .ref mo_alay, .ref mo_ashows, .ref mo_aimages, .ref mo_aisMade, .int mo_imageAt, .int mo_goesBack]))]) := hD
        have ql27 : (0 : Int32).toInt = 0 := by decide
        obtain ⟨bw25, rel26⟩ := hw
        have bw25 : iv (0) (4000) w25 := bw25
        have bw25_l := bw25.1
        have bw25_u := bw25.2
        try dsimp only at rel26
        refine lv_aload_n hx hb dX9_goesOn_40 rfl (lv_at hl 0 rfl) ?_
        refine va_get (D := D) (ci := 7) (v := .int w25) (C := RX9) (T := TX9) (N := 53) hx hb hts in9 hown hG.1 hP 1 rfl rfl 20 (by decide) (hts (.fieldLink RX9 161 "ChairCaneModel" "fault" "I") (by decide +kernel)) (fun _ h9 => h9) rfl dX9_goesOn_41 ?_
        refine lv_if_ne (tgt := 62) hx hb dX9_goesOn_44 (by decide) (fun c28 => ?_) (fun c28 => ?_)
        · have fc28 := cx_ne_t (a := w25.toInt) (b := 0) rfl (by decide) c28
          refine lv_iconst (v := 0) hx hb dX9_goesOn_62 (by decide) ?_
          refine lv_istore_n (lv' := [(1, .int 0), (0, .ref mo)]) hx hb dX9_goesOn_63 rfl hl (by decide) rfl (fun ls hl => ?_)
          refine lv_aload_n hx hb dX9_goesOn_64 rfl (lv_at hl 1 rfl) ?_
          refine lv_dup hx hb dX9_goesOn_65 rfl ?_
          refine va_get (D := D) (ci := 7) (v := .int w3) (C := RX9) (T := TX9) (N := 53) hx hb hts in9 hown hG.1 hP 1 rfl rfl 19 (by decide) (hts (.fieldLink RX9 164 "ChairCaneModel" "p" "I") (by decide +kernel)) (fun _ h9 => h9) rfl dX9_goesOn_66 ?_
          refine lv_iconst (v := 1) hx hb dX9_goesOn_69 (by decide) ?_
          refine lv_iadd hx hb dX9_goesOn_70 ?_
          refine lv_topi (fun z29 ez29 => ?_)
          have tz29 : z29.toInt = w3.toInt + 1 := ai_add rfl (by decide) ez29 (by omega) (by omega)
          refine va_put (D := D) (ci := 7) (v := .int z29) (C := RX9) (T := TX9) (N := 53) hx hb hts in9 tyX9 tyX9_ok nmX9 hown hG.1 hP hD hS 1 rfl rfl 19 (by decide) (hts (.fieldLink RX9 164 "ChairCaneModel" "p" "I") (by decide +kernel)) (fun _ h9 => h9) rfl (tyX9_ok 19 (by decide)) rfl rfl (Nat.le_of_ble_eq_true rfl) dX9_goesOn_71 (fun H locs hP hD hS => ?_)
          have hP : va_P D vwCl ([(mo_atape, hcY k 400 mo_rtape), (mo, .inr (7, [.int mo_thrown, .ref mo_ascalar, .ref mo_acane, .ref mo_ais, .ref mo_astrandOf, .ref mo_aweight, .ref mo_aheight, .ref mo_achairOf, .ref mo_anoteMinute, .ref mo_anoteWho, .ref mo_anoteIs, .ref mo_atoldCane, .ref mo_anewScalar, .ref mo_anewCane, .ref mo_anewHeight, .ref mo_anewStrand, .ref mo_anewChair, .ref mo_anewWeight, .int mo_taped, .int z29, .int w25, .int mo_slot, .int mo_rules, .int mo_entries, .int mo_deep, .int mo_counted, .int mo_opened, .int mo_words, .ref mo_atape, .ref mo_asort, .ref mo_anumber, .ref mo_aclauses, .ref mo_asumAt, .ref mo_atestAt, .ref mo_aendAt, .ref mo_aopen, .ref mo_aasked, .ref mo_astack, .ref mo_amust, .ref mo_apast, .ref mo_apastOf, .int mo_pastMany, .int mo_pastAt, .int mo_takesBack, .ref mo_acanRise, .ref mo_afirstHas, .ref mo_asecondHas, .ref mo_alay, .ref mo_ashows, .ref mo_aimages, .ref mo_aisMade, .int mo_imageAt, .int mo_goesBack]))]) H := hP
          have hD : va_D A ([(mo_atape, hcY k 400 mo_rtape), (mo, .inr (7, [.int mo_thrown, .ref mo_ascalar, .ref mo_acane, .ref mo_ais, .ref mo_astrandOf, .ref mo_aweight, .ref mo_aheight, .ref mo_achairOf, .ref mo_anoteMinute, .ref mo_anoteWho, .ref mo_anoteIs, .ref mo_atoldCane, .ref mo_anewScalar, .ref mo_anewCane, .ref mo_anewHeight, .ref mo_anewStrand, .ref mo_anewChair, .ref mo_anewWeight, .int mo_taped, .int z29, .int w25, .int mo_slot, .int mo_rules, .int mo_entries, .int mo_deep, .int mo_counted, .int mo_opened, .int mo_words, .ref mo_atape, .ref mo_asort, .ref mo_anumber, .ref mo_aclauses, .ref mo_asumAt, .ref mo_atestAt, .ref mo_aendAt, .ref mo_aopen, .ref mo_aasked, .ref mo_astack, .ref mo_amust, .ref mo_apast, .ref mo_apastOf, .int mo_pastMany, .int mo_pastAt, .int mo_takesBack, .ref mo_acanRise, .ref mo_afirstHas, .ref mo_asecondHas, .ref mo_alay, .ref mo_ashows, .ref mo_aimages, .ref mo_aisMade, .int mo_imageAt, .int mo_goesBack]))]) := hD
          refine lv_iload_n hx hb dX9_goesOn_74 rfl (lv_at hl 0 rfl) ?_
          exact hc_endZ hx hb hr hlocks rfl (z29, w25) ⟨iv_lit (by decide) (by decide), (show iv (0) (402) z29 from ⟨by omega, by omega⟩), (show iv (0) (4000) w25 from ⟨by omega, by omega⟩), (by (try dsimp only); have q9 : (0 : Int32).toInt = 0 := (by decide); omega)⟩ (hP.sub [1, 0] rfl) (hD.sub [1, 0] (by decide) rfl) hS dX9_goesOn_75
        · have fc28 := cx_ne_f (a := w25.toInt) (b := 0) rfl (by decide) c28
          refine lv_aload_n hx hb dX9_goesOn_47 rfl (lv_at hl 0 rfl) ?_
          refine va_get (D := D) (ci := 7) (v := .int w3) (C := RX9) (T := TX9) (N := 53) hx hb hts in9 hown hG.1 hP 1 rfl rfl 19 (by decide) (hts (.fieldLink RX9 164 "ChairCaneModel" "p" "I") (by decide +kernel)) (fun _ h9 => h9) rfl dX9_goesOn_48 ?_
          refine lv_aload_n hx hb dX9_goesOn_51 rfl (lv_at hl 0 rfl) ?_
          refine va_get (D := D) (ci := 7) (v := .int mo_taped) (C := RX9) (T := TX9) (N := 53) hx hb hts in9 hown hG.1 hP 1 rfl rfl 18 (by decide) (hts (.fieldLink RX9 135 "ChairCaneModel" "taped" "I") (by decide +kernel)) (fun _ h9 => h9) rfl dX9_goesOn_52 ?_
          refine lv_icmp_ge (tgt := 62) hx hb dX9_goesOn_55 (by decide) (fun c30 => ?_) (fun c30 => ?_)
          · have fc30 := cx_ge_t (a := w3.toInt) (b := mo_taped.toInt) rfl rfl c30
            refine lv_iconst (v := 0) hx hb dX9_goesOn_62 (by decide) ?_
            refine lv_istore_n (lv' := [(1, .int 0), (0, .ref mo)]) hx hb dX9_goesOn_63 rfl hl (by decide) rfl (fun ls hl => ?_)
            refine lv_aload_n hx hb dX9_goesOn_64 rfl (lv_at hl 1 rfl) ?_
            refine lv_dup hx hb dX9_goesOn_65 rfl ?_
            refine va_get (D := D) (ci := 7) (v := .int w3) (C := RX9) (T := TX9) (N := 53) hx hb hts in9 hown hG.1 hP 1 rfl rfl 19 (by decide) (hts (.fieldLink RX9 164 "ChairCaneModel" "p" "I") (by decide +kernel)) (fun _ h9 => h9) rfl dX9_goesOn_66 ?_
            refine lv_iconst (v := 1) hx hb dX9_goesOn_69 (by decide) ?_
            refine lv_iadd hx hb dX9_goesOn_70 ?_
            refine lv_topi (fun z31 ez31 => ?_)
            have tz31 : z31.toInt = w3.toInt + 1 := ai_add rfl (by decide) ez31 (by omega) (by omega)
            refine va_put (D := D) (ci := 7) (v := .int z31) (C := RX9) (T := TX9) (N := 53) hx hb hts in9 tyX9 tyX9_ok nmX9 hown hG.1 hP hD hS 1 rfl rfl 19 (by decide) (hts (.fieldLink RX9 164 "ChairCaneModel" "p" "I") (by decide +kernel)) (fun _ h9 => h9) rfl (tyX9_ok 19 (by decide)) rfl rfl (Nat.le_of_ble_eq_true rfl) dX9_goesOn_71 (fun H locs hP hD hS => ?_)
            have hP : va_P D vwCl ([(mo_atape, hcY k 400 mo_rtape), (mo, .inr (7, [.int mo_thrown, .ref mo_ascalar, .ref mo_acane, .ref mo_ais, .ref mo_astrandOf, .ref mo_aweight, .ref mo_aheight, .ref mo_achairOf, .ref mo_anoteMinute, .ref mo_anoteWho, .ref mo_anoteIs, .ref mo_atoldCane, .ref mo_anewScalar, .ref mo_anewCane, .ref mo_anewHeight, .ref mo_anewStrand, .ref mo_anewChair, .ref mo_anewWeight, .int mo_taped, .int z31, .int w25, .int mo_slot, .int mo_rules, .int mo_entries, .int mo_deep, .int mo_counted, .int mo_opened, .int mo_words, .ref mo_atape, .ref mo_asort, .ref mo_anumber, .ref mo_aclauses, .ref mo_asumAt, .ref mo_atestAt, .ref mo_aendAt, .ref mo_aopen, .ref mo_aasked, .ref mo_astack, .ref mo_amust, .ref mo_apast, .ref mo_apastOf, .int mo_pastMany, .int mo_pastAt, .int mo_takesBack, .ref mo_acanRise, .ref mo_afirstHas, .ref mo_asecondHas, .ref mo_alay, .ref mo_ashows, .ref mo_aimages, .ref mo_aisMade, .int mo_imageAt, .int mo_goesBack]))]) H := hP
            have hD : va_D A ([(mo_atape, hcY k 400 mo_rtape), (mo, .inr (7, [.int mo_thrown, .ref mo_ascalar, .ref mo_acane, .ref mo_ais, .ref mo_astrandOf, .ref mo_aweight, .ref mo_aheight, .ref mo_achairOf, .ref mo_anoteMinute, .ref mo_anoteWho, .ref mo_anoteIs, .ref mo_atoldCane, .ref mo_anewScalar, .ref mo_anewCane, .ref mo_anewHeight, .ref mo_anewStrand, .ref mo_anewChair, .ref mo_anewWeight, .int mo_taped, .int z31, .int w25, .int mo_slot, .int mo_rules, .int mo_entries, .int mo_deep, .int mo_counted, .int mo_opened, .int mo_words, .ref mo_atape, .ref mo_asort, .ref mo_anumber, .ref mo_aclauses, .ref mo_asumAt, .ref mo_atestAt, .ref mo_aendAt, .ref mo_aopen, .ref mo_aasked, .ref mo_astack, .ref mo_amust, .ref mo_apast, .ref mo_apastOf, .int mo_pastMany, .int mo_pastAt, .int mo_takesBack, .ref mo_acanRise, .ref mo_afirstHas, .ref mo_asecondHas, .ref mo_alay, .ref mo_ashows, .ref mo_aimages, .ref mo_aisMade, .int mo_imageAt, .int mo_goesBack]))]) := hD
            refine lv_iload_n hx hb dX9_goesOn_74 rfl (lv_at hl 0 rfl) ?_
            exact hc_endZ hx hb hr hlocks rfl (z31, w25) ⟨iv_lit (by decide) (by decide), (show iv (0) (402) z31 from ⟨by omega, by omega⟩), (show iv (0) (4000) w25 from ⟨by omega, by omega⟩), (by (try dsimp only); have q9 : (0 : Int32).toInt = 0 := (by decide); omega)⟩ (hP.sub [1, 0] rfl) (hD.sub [1, 0] (by decide) rfl) hS dX9_goesOn_75
          · have fc30 := cx_ge_f (a := w3.toInt) (b := mo_taped.toInt) rfl rfl c30
            refine lv_iconst (v := 1) hx hb dX9_goesOn_58 (by decide) ?_
            refine lv_goto (tgt := 63) hx hb dX9_goesOn_59 (by decide) ?_
            refine lv_istore_n (lv' := [(1, .int 1), (0, .ref mo)]) hx hb dX9_goesOn_63 rfl hl (by decide) rfl (fun ls hl => ?_)
            refine lv_aload_n hx hb dX9_goesOn_64 rfl (lv_at hl 1 rfl) ?_
            refine lv_dup hx hb dX9_goesOn_65 rfl ?_
            refine va_get (D := D) (ci := 7) (v := .int w3) (C := RX9) (T := TX9) (N := 53) hx hb hts in9 hown hG.1 hP 1 rfl rfl 19 (by decide) (hts (.fieldLink RX9 164 "ChairCaneModel" "p" "I") (by decide +kernel)) (fun _ h9 => h9) rfl dX9_goesOn_66 ?_
            refine lv_iconst (v := 1) hx hb dX9_goesOn_69 (by decide) ?_
            refine lv_iadd hx hb dX9_goesOn_70 ?_
            refine lv_topi (fun z32 ez32 => ?_)
            have tz32 : z32.toInt = w3.toInt + 1 := ai_add rfl (by decide) ez32 (by omega) (by omega)
            refine va_put (D := D) (ci := 7) (v := .int z32) (C := RX9) (T := TX9) (N := 53) hx hb hts in9 tyX9 tyX9_ok nmX9 hown hG.1 hP hD hS 1 rfl rfl 19 (by decide) (hts (.fieldLink RX9 164 "ChairCaneModel" "p" "I") (by decide +kernel)) (fun _ h9 => h9) rfl (tyX9_ok 19 (by decide)) rfl rfl (Nat.le_of_ble_eq_true rfl) dX9_goesOn_71 (fun H locs hP hD hS => ?_)
            have hP : va_P D vwCl ([(mo_atape, hcY k 400 mo_rtape), (mo, .inr (7, [.int mo_thrown, .ref mo_ascalar, .ref mo_acane, .ref mo_ais, .ref mo_astrandOf, .ref mo_aweight, .ref mo_aheight, .ref mo_achairOf, .ref mo_anoteMinute, .ref mo_anoteWho, .ref mo_anoteIs, .ref mo_atoldCane, .ref mo_anewScalar, .ref mo_anewCane, .ref mo_anewHeight, .ref mo_anewStrand, .ref mo_anewChair, .ref mo_anewWeight, .int mo_taped, .int z32, .int w25, .int mo_slot, .int mo_rules, .int mo_entries, .int mo_deep, .int mo_counted, .int mo_opened, .int mo_words, .ref mo_atape, .ref mo_asort, .ref mo_anumber, .ref mo_aclauses, .ref mo_asumAt, .ref mo_atestAt, .ref mo_aendAt, .ref mo_aopen, .ref mo_aasked, .ref mo_astack, .ref mo_amust, .ref mo_apast, .ref mo_apastOf, .int mo_pastMany, .int mo_pastAt, .int mo_takesBack, .ref mo_acanRise, .ref mo_afirstHas, .ref mo_asecondHas, .ref mo_alay, .ref mo_ashows, .ref mo_aimages, .ref mo_aisMade, .int mo_imageAt, .int mo_goesBack]))]) H := hP
            have hD : va_D A ([(mo_atape, hcY k 400 mo_rtape), (mo, .inr (7, [.int mo_thrown, .ref mo_ascalar, .ref mo_acane, .ref mo_ais, .ref mo_astrandOf, .ref mo_aweight, .ref mo_aheight, .ref mo_achairOf, .ref mo_anoteMinute, .ref mo_anoteWho, .ref mo_anoteIs, .ref mo_atoldCane, .ref mo_anewScalar, .ref mo_anewCane, .ref mo_anewHeight, .ref mo_anewStrand, .ref mo_anewChair, .ref mo_anewWeight, .int mo_taped, .int z32, .int w25, .int mo_slot, .int mo_rules, .int mo_entries, .int mo_deep, .int mo_counted, .int mo_opened, .int mo_words, .ref mo_atape, .ref mo_asort, .ref mo_anumber, .ref mo_aclauses, .ref mo_asumAt, .ref mo_atestAt, .ref mo_aendAt, .ref mo_aopen, .ref mo_aasked, .ref mo_astack, .ref mo_amust, .ref mo_apast, .ref mo_apastOf, .int mo_pastMany, .int mo_pastAt, .int mo_takesBack, .ref mo_acanRise, .ref mo_afirstHas, .ref mo_asecondHas, .ref mo_alay, .ref mo_ashows, .ref mo_aimages, .ref mo_aisMade, .int mo_imageAt, .int mo_goesBack]))]) := hD
            refine lv_iload_n hx hb dX9_goesOn_74 rfl (lv_at hl 0 rfl) ?_
            exact hc_endZ hx hb hr hlocks rfl (z32, w25) ⟨iv_lit (by decide) (by decide), (show iv (0) (402) z32 from ⟨by omega, by omega⟩), (show iv (0) (4000) w25 from ⟨by omega, by omega⟩), (by (try dsimp only); have q9 : (1 : Int32).toInt = 1 := (by decide); omega)⟩ (hP.sub [1, 0] rfl) (hD.sub [1, 0] (by decide) rfl) hS dX9_goesOn_75
set_option maxHeartbeats 4000000 in
set_option maxRecDepth 100000 in
theorem i_X9_starts (l : Launch) (D : va_G) (k : Nat → ClassId) (sz : Nat) (mo : Nat) (mo_thrown : Int32) (mo_ascalar : Nat) (mo_acane : Nat) (mo_ais : Nat) (mo_astrandOf : Nat) (mo_aweight : Nat) (mo_aheight : Nat) (mo_achairOf : Nat) (mo_anoteMinute : Nat) (mo_anoteWho : Nat) (mo_anoteIs : Nat) (mo_atoldCane : Nat) (mo_anewScalar : Nat) (mo_anewCane : Nat) (mo_anewHeight : Nat) (mo_anewStrand : Nat) (mo_anewChair : Nat) (mo_anewWeight : Nat) (mo_taped : Int32) (mo_p : Int32) (mo_fault : Int32) (mo_slot : Int32) (mo_rules : Int32) (mo_entries : Int32) (mo_deep : Int32) (mo_counted : Int32) (mo_opened : Int32) (mo_words : Int32) (mo_atape : Nat) (mo_asort : Nat) (mo_anumber : Nat) (mo_aclauses : Nat) (mo_asumAt : Nat) (mo_atestAt : Nat) (mo_aendAt : Nat) (mo_aopen : Nat) (mo_aasked : Nat) (mo_astack : Nat) (mo_amust : Nat) (mo_apast : Nat) (mo_apastOf : Nat) (mo_pastMany : Int32) (mo_pastAt : Int32) (mo_takesBack : Int32) (mo_acanRise : Nat) (mo_afirstHas : Nat) (mo_asecondHas : Nat) (mo_alay : Nat) (mo_ashows : Nat) (mo_aimages : Nat) (mo_aisMade : Nat) (mo_imageAt : Int32) (mo_goesBack : Int32) (h_mo_taped : iv (0) (400) mo_taped) (h_mo_p : iv (0) (402) mo_p) (h_mo_fault : iv (0) (4000) mo_fault) (h_mo_slot : iv (0) (5) mo_slot) (h_mo_rules : iv (0) (6) mo_rules) (h_mo_entries : iv (0) (300) mo_entries) (h_mo_counted : iv (0) (70) mo_counted) (h_mo_opened : iv (0) (402) mo_opened) (h_mo_words : iv (11) (11) mo_words) (h_mo_pastMany : iv (0) (20) mo_pastMany) (h_mo_pastAt : iv (0) (260) mo_pastAt) (h_mo_takesBack : iv (0) (1) mo_takesBack) (h_mo_imageAt : iv (0) (2000) mo_imageAt) (h_mo_goesBack : iv (0) (1) mo_goesBack) : CtV l yX9_starts wsX9_starts (rmK 1 0 0) [.ref mo] D k sz ([(mo, .inr (7, [.int mo_thrown, .ref mo_ascalar, .ref mo_acane, .ref mo_ais, .ref mo_astrandOf, .ref mo_aweight, .ref mo_aheight, .ref mo_achairOf, .ref mo_anoteMinute, .ref mo_anoteWho, .ref mo_anoteIs, .ref mo_atoldCane, .ref mo_anewScalar, .ref mo_anewCane, .ref mo_anewHeight, .ref mo_anewStrand, .ref mo_anewChair, .ref mo_anewWeight, .int mo_taped, .int mo_p, .int mo_fault, .int mo_slot, .int mo_rules, .int mo_entries, .int mo_deep, .int mo_counted, .int mo_opened, .int mo_words, .ref mo_atape, .ref mo_asort, .ref mo_anumber, .ref mo_aclauses, .ref mo_asumAt, .ref mo_atestAt, .ref mo_aendAt, .ref mo_aopen, .ref mo_aasked, .ref mo_astack, .ref mo_amust, .ref mo_apast, .ref mo_apastOf, .int mo_pastMany, .int mo_pastAt, .int mo_takesBack, .ref mo_acanRise, .ref mo_afirstHas, .ref mo_asecondHas, .ref mo_alay, .ref mo_ashows, .ref mo_aimages, .ref mo_aisMade, .int mo_imageAt, .int mo_goesBack]))]) (fun u : (Int32) × (Int32) × (Int32) × (Int32) × (Int32) => iv (0) (402) (u.1) ∧ iv (0) (4000) (u.2.1) ∧ iv (0) (300) (u.2.2.1) ∧ iv (0) (70) (u.2.2.2.2) ∧ ((u.1).toInt = 0 ∧ (u.2.1).toInt = 0 ∧ (u.2.2.1).toInt = 0 ∧ (u.2.2.2.2).toInt = 0)) (fun u : (Int32) × (Int32) × (Int32) × (Int32) × (Int32) => [(mo, .inr (7, [.int mo_thrown, .ref mo_ascalar, .ref mo_acane, .ref mo_ais, .ref mo_astrandOf, .ref mo_aweight, .ref mo_aheight, .ref mo_achairOf, .ref mo_anoteMinute, .ref mo_anoteWho, .ref mo_anoteIs, .ref mo_atoldCane, .ref mo_anewScalar, .ref mo_anewCane, .ref mo_anewHeight, .ref mo_anewStrand, .ref mo_anewChair, .ref mo_anewWeight, .int mo_taped, .int (u.1), .int (u.2.1), .int mo_slot, .int mo_rules, .int (u.2.2.1), .int (u.2.2.2.1), .int (u.2.2.2.2), .int mo_opened, .int mo_words, .ref mo_atape, .ref mo_asort, .ref mo_anumber, .ref mo_aclauses, .ref mo_asumAt, .ref mo_atestAt, .ref mo_aendAt, .ref mo_aopen, .ref mo_aasked, .ref mo_astack, .ref mo_amust, .ref mo_apast, .ref mo_apastOf, .int mo_pastMany, .int mo_pastAt, .int mo_takesBack, .ref mo_acanRise, .ref mo_afirstHas, .ref mo_asecondHas, .ref mo_alay, .ref mo_ashows, .ref mo_aimages, .ref mo_aisMade, .int mo_imageAt, .int mo_goesBack]))]) 0 0 := by
  have h_mo_taped_l := h_mo_taped.1
  have h_mo_taped_u := h_mo_taped.2
  have h_mo_p_l := h_mo_p.1
  have h_mo_p_u := h_mo_p.2
  have h_mo_fault_l := h_mo_fault.1
  have h_mo_fault_u := h_mo_fault.2
  have h_mo_slot_l := h_mo_slot.1
  have h_mo_slot_u := h_mo_slot.2
  have h_mo_rules_l := h_mo_rules.1
  have h_mo_rules_u := h_mo_rules.2
  have h_mo_entries_l := h_mo_entries.1
  have h_mo_entries_u := h_mo_entries.2
  have h_mo_counted_l := h_mo_counted.1
  have h_mo_counted_u := h_mo_counted.2
  have h_mo_opened_l := h_mo_opened.1
  have h_mo_opened_u := h_mo_opened.2
  have h_mo_words_l := h_mo_words.1
  have h_mo_words_u := h_mo_words.2
  have h_mo_pastMany_l := h_mo_pastMany.1
  have h_mo_pastMany_u := h_mo_pastMany.2
  have h_mo_pastAt_l := h_mo_pastAt.1
  have h_mo_pastAt_u := h_mo_pastAt.2
  have h_mo_takesBack_l := h_mo_takesBack.1
  have h_mo_takesBack_u := h_mo_takesBack.2
  have h_mo_imageAt_l := h_mo_imageAt.1
  have h_mo_imageAt_u := h_mo_imageAt.2
  have h_mo_goesBack_l := h_mo_goesBack.1
  have h_mo_goesBack_u := h_mo_goesBack.2
  refine CtV.mk (cc := cX9_starts) (maxL := 1) (ret := none) (by decide) rfl (Nat.le_of_ble_eq_true rfl) ?_
  intro p e s m below meth c A ls E hP hD hS hl
  obtain ⟨hx, hb, hr, hml, hown, hts, hlocks, hin, hG, hA⟩ := E
  have hown : s.vm.findClass RX9 = some m.cls := hown
  have in9 : ∀ w ∈ u_ws RX9 TX9 53, w ∈ wsX9_starts := fun _ h => List.mem_cons_of_mem _ (List.mem_append_right _ h)
  have hl : lv_has ls 1 [(0, .ref mo)] := hl
  refine lv_aload_n hx hb dX9_starts_0 rfl (lv_at hl 0 rfl) ?_
  refine lv_iconst (v := 0) hx hb dX9_starts_1 (by decide) ?_
  refine va_put (D := D) (ci := 7) (v := .int 0) (C := RX9) (T := TX9) (N := 53) hx hb hts in9 tyX9 tyX9_ok nmX9 hown hG.1 hP hD hS 0 rfl rfl 19 (by decide) (hts (.fieldLink RX9 164 "ChairCaneModel" "p" "I") (by decide +kernel)) (fun _ h9 => h9) rfl (tyX9_ok 19 (by decide)) rfl rfl (Nat.le_of_ble_eq_true rfl) dX9_starts_2 (fun H locs hP hD hS => ?_)
  have hP : va_P D vwCl ([(mo, .inr (7, [.int mo_thrown, .ref mo_ascalar, .ref mo_acane, .ref mo_ais, .ref mo_astrandOf, .ref mo_aweight, .ref mo_aheight, .ref mo_achairOf, .ref mo_anoteMinute, .ref mo_anoteWho, .ref mo_anoteIs, .ref mo_atoldCane, .ref mo_anewScalar, .ref mo_anewCane, .ref mo_anewHeight, .ref mo_anewStrand, .ref mo_anewChair, .ref mo_anewWeight, .int mo_taped, .int 0, .int mo_fault, .int mo_slot, .int mo_rules, .int mo_entries, .int mo_deep, .int mo_counted, .int mo_opened, .int mo_words, .ref mo_atape, .ref mo_asort, .ref mo_anumber, .ref mo_aclauses, .ref mo_asumAt, .ref mo_atestAt, .ref mo_aendAt, .ref mo_aopen, .ref mo_aasked, .ref mo_astack, .ref mo_amust, .ref mo_apast, .ref mo_apastOf, .int mo_pastMany, .int mo_pastAt, .int mo_takesBack, .ref mo_acanRise, .ref mo_afirstHas, .ref mo_asecondHas, .ref mo_alay, .ref mo_ashows, .ref mo_aimages, .ref mo_aisMade, .int mo_imageAt, .int mo_goesBack]))]) H := hP
  have hD : va_D A ([(mo, .inr (7, [.int mo_thrown, .ref mo_ascalar, .ref mo_acane, .ref mo_ais, .ref mo_astrandOf, .ref mo_aweight, .ref mo_aheight, .ref mo_achairOf, .ref mo_anoteMinute, .ref mo_anoteWho, .ref mo_anoteIs, .ref mo_atoldCane, .ref mo_anewScalar, .ref mo_anewCane, .ref mo_anewHeight, .ref mo_anewStrand, .ref mo_anewChair, .ref mo_anewWeight, .int mo_taped, .int 0, .int mo_fault, .int mo_slot, .int mo_rules, .int mo_entries, .int mo_deep, .int mo_counted, .int mo_opened, .int mo_words, .ref mo_atape, .ref mo_asort, .ref mo_anumber, .ref mo_aclauses, .ref mo_asumAt, .ref mo_atestAt, .ref mo_aendAt, .ref mo_aopen, .ref mo_aasked, .ref mo_astack, .ref mo_amust, .ref mo_apast, .ref mo_apastOf, .int mo_pastMany, .int mo_pastAt, .int mo_takesBack, .ref mo_acanRise, .ref mo_afirstHas, .ref mo_asecondHas, .ref mo_alay, .ref mo_ashows, .ref mo_aimages, .ref mo_aisMade, .int mo_imageAt, .int mo_goesBack]))]) := hD
  refine lv_aload_n hx hb dX9_starts_5 rfl (lv_at hl 0 rfl) ?_
  refine lv_iconst (v := 0) hx hb dX9_starts_6 (by decide) ?_
  refine va_put (D := D) (ci := 7) (v := .int 0) (C := RX9) (T := TX9) (N := 53) hx hb hts in9 tyX9 tyX9_ok nmX9 hown hG.1 hP hD hS 0 rfl rfl 20 (by decide) (hts (.fieldLink RX9 161 "ChairCaneModel" "fault" "I") (by decide +kernel)) (fun _ h9 => h9) rfl (tyX9_ok 20 (by decide)) rfl rfl (Nat.le_of_ble_eq_true rfl) dX9_starts_7 (fun H locs hP hD hS => ?_)
  have hP : va_P D vwCl ([(mo, .inr (7, [.int mo_thrown, .ref mo_ascalar, .ref mo_acane, .ref mo_ais, .ref mo_astrandOf, .ref mo_aweight, .ref mo_aheight, .ref mo_achairOf, .ref mo_anoteMinute, .ref mo_anoteWho, .ref mo_anoteIs, .ref mo_atoldCane, .ref mo_anewScalar, .ref mo_anewCane, .ref mo_anewHeight, .ref mo_anewStrand, .ref mo_anewChair, .ref mo_anewWeight, .int mo_taped, .int 0, .int 0, .int mo_slot, .int mo_rules, .int mo_entries, .int mo_deep, .int mo_counted, .int mo_opened, .int mo_words, .ref mo_atape, .ref mo_asort, .ref mo_anumber, .ref mo_aclauses, .ref mo_asumAt, .ref mo_atestAt, .ref mo_aendAt, .ref mo_aopen, .ref mo_aasked, .ref mo_astack, .ref mo_amust, .ref mo_apast, .ref mo_apastOf, .int mo_pastMany, .int mo_pastAt, .int mo_takesBack, .ref mo_acanRise, .ref mo_afirstHas, .ref mo_asecondHas, .ref mo_alay, .ref mo_ashows, .ref mo_aimages, .ref mo_aisMade, .int mo_imageAt, .int mo_goesBack]))]) H := hP
  have hD : va_D A ([(mo, .inr (7, [.int mo_thrown, .ref mo_ascalar, .ref mo_acane, .ref mo_ais, .ref mo_astrandOf, .ref mo_aweight, .ref mo_aheight, .ref mo_achairOf, .ref mo_anoteMinute, .ref mo_anoteWho, .ref mo_anoteIs, .ref mo_atoldCane, .ref mo_anewScalar, .ref mo_anewCane, .ref mo_anewHeight, .ref mo_anewStrand, .ref mo_anewChair, .ref mo_anewWeight, .int mo_taped, .int 0, .int 0, .int mo_slot, .int mo_rules, .int mo_entries, .int mo_deep, .int mo_counted, .int mo_opened, .int mo_words, .ref mo_atape, .ref mo_asort, .ref mo_anumber, .ref mo_aclauses, .ref mo_asumAt, .ref mo_atestAt, .ref mo_aendAt, .ref mo_aopen, .ref mo_aasked, .ref mo_astack, .ref mo_amust, .ref mo_apast, .ref mo_apastOf, .int mo_pastMany, .int mo_pastAt, .int mo_takesBack, .ref mo_acanRise, .ref mo_afirstHas, .ref mo_asecondHas, .ref mo_alay, .ref mo_ashows, .ref mo_aimages, .ref mo_aisMade, .int mo_imageAt, .int mo_goesBack]))]) := hD
  refine lv_aload_n hx hb dX9_starts_10 rfl (lv_at hl 0 rfl) ?_
  refine lv_iconst (v := 0) hx hb dX9_starts_11 (by decide) ?_
  refine va_put (D := D) (ci := 7) (v := .int 0) (C := RX9) (T := TX9) (N := 53) hx hb hts in9 tyX9 tyX9_ok nmX9 hown hG.1 hP hD hS 0 rfl rfl 23 (by decide) (hts (.fieldLink RX9 194 "ChairCaneModel" "entries" "I") (by decide +kernel)) (fun _ h9 => h9) rfl (tyX9_ok 23 (by decide)) rfl rfl (Nat.le_of_ble_eq_true rfl) dX9_starts_12 (fun H locs hP hD hS => ?_)
  have hP : va_P D vwCl ([(mo, .inr (7, [.int mo_thrown, .ref mo_ascalar, .ref mo_acane, .ref mo_ais, .ref mo_astrandOf, .ref mo_aweight, .ref mo_aheight, .ref mo_achairOf, .ref mo_anoteMinute, .ref mo_anoteWho, .ref mo_anoteIs, .ref mo_atoldCane, .ref mo_anewScalar, .ref mo_anewCane, .ref mo_anewHeight, .ref mo_anewStrand, .ref mo_anewChair, .ref mo_anewWeight, .int mo_taped, .int 0, .int 0, .int mo_slot, .int mo_rules, .int 0, .int mo_deep, .int mo_counted, .int mo_opened, .int mo_words, .ref mo_atape, .ref mo_asort, .ref mo_anumber, .ref mo_aclauses, .ref mo_asumAt, .ref mo_atestAt, .ref mo_aendAt, .ref mo_aopen, .ref mo_aasked, .ref mo_astack, .ref mo_amust, .ref mo_apast, .ref mo_apastOf, .int mo_pastMany, .int mo_pastAt, .int mo_takesBack, .ref mo_acanRise, .ref mo_afirstHas, .ref mo_asecondHas, .ref mo_alay, .ref mo_ashows, .ref mo_aimages, .ref mo_aisMade, .int mo_imageAt, .int mo_goesBack]))]) H := hP
  have hD : va_D A ([(mo, .inr (7, [.int mo_thrown, .ref mo_ascalar, .ref mo_acane, .ref mo_ais, .ref mo_astrandOf, .ref mo_aweight, .ref mo_aheight, .ref mo_achairOf, .ref mo_anoteMinute, .ref mo_anoteWho, .ref mo_anoteIs, .ref mo_atoldCane, .ref mo_anewScalar, .ref mo_anewCane, .ref mo_anewHeight, .ref mo_anewStrand, .ref mo_anewChair, .ref mo_anewWeight, .int mo_taped, .int 0, .int 0, .int mo_slot, .int mo_rules, .int 0, .int mo_deep, .int mo_counted, .int mo_opened, .int mo_words, .ref mo_atape, .ref mo_asort, .ref mo_anumber, .ref mo_aclauses, .ref mo_asumAt, .ref mo_atestAt, .ref mo_aendAt, .ref mo_aopen, .ref mo_aasked, .ref mo_astack, .ref mo_amust, .ref mo_apast, .ref mo_apastOf, .int mo_pastMany, .int mo_pastAt, .int mo_takesBack, .ref mo_acanRise, .ref mo_afirstHas, .ref mo_asecondHas, .ref mo_alay, .ref mo_ashows, .ref mo_aimages, .ref mo_aisMade, .int mo_imageAt, .int mo_goesBack]))]) := hD
  refine lv_aload_n hx hb dX9_starts_15 rfl (lv_at hl 0 rfl) ?_
  refine lv_iconst (v := 0) hx hb dX9_starts_16 (by decide) ?_
  refine va_put (D := D) (ci := 7) (v := .int 0) (C := RX9) (T := TX9) (N := 53) hx hb hts in9 tyX9 tyX9_ok nmX9 hown hG.1 hP hD hS 0 rfl rfl 24 (by decide) (hts (.fieldLink RX9 235 "ChairCaneModel" "deep" "I") (by decide +kernel)) (fun _ h9 => h9) rfl (tyX9_ok 24 (by decide)) rfl rfl (Nat.le_of_ble_eq_true rfl) dX9_starts_17 (fun H locs hP hD hS => ?_)
  have hP : va_P D vwCl ([(mo, .inr (7, [.int mo_thrown, .ref mo_ascalar, .ref mo_acane, .ref mo_ais, .ref mo_astrandOf, .ref mo_aweight, .ref mo_aheight, .ref mo_achairOf, .ref mo_anoteMinute, .ref mo_anoteWho, .ref mo_anoteIs, .ref mo_atoldCane, .ref mo_anewScalar, .ref mo_anewCane, .ref mo_anewHeight, .ref mo_anewStrand, .ref mo_anewChair, .ref mo_anewWeight, .int mo_taped, .int 0, .int 0, .int mo_slot, .int mo_rules, .int 0, .int 0, .int mo_counted, .int mo_opened, .int mo_words, .ref mo_atape, .ref mo_asort, .ref mo_anumber, .ref mo_aclauses, .ref mo_asumAt, .ref mo_atestAt, .ref mo_aendAt, .ref mo_aopen, .ref mo_aasked, .ref mo_astack, .ref mo_amust, .ref mo_apast, .ref mo_apastOf, .int mo_pastMany, .int mo_pastAt, .int mo_takesBack, .ref mo_acanRise, .ref mo_afirstHas, .ref mo_asecondHas, .ref mo_alay, .ref mo_ashows, .ref mo_aimages, .ref mo_aisMade, .int mo_imageAt, .int mo_goesBack]))]) H := hP
  have hD : va_D A ([(mo, .inr (7, [.int mo_thrown, .ref mo_ascalar, .ref mo_acane, .ref mo_ais, .ref mo_astrandOf, .ref mo_aweight, .ref mo_aheight, .ref mo_achairOf, .ref mo_anoteMinute, .ref mo_anoteWho, .ref mo_anoteIs, .ref mo_atoldCane, .ref mo_anewScalar, .ref mo_anewCane, .ref mo_anewHeight, .ref mo_anewStrand, .ref mo_anewChair, .ref mo_anewWeight, .int mo_taped, .int 0, .int 0, .int mo_slot, .int mo_rules, .int 0, .int 0, .int mo_counted, .int mo_opened, .int mo_words, .ref mo_atape, .ref mo_asort, .ref mo_anumber, .ref mo_aclauses, .ref mo_asumAt, .ref mo_atestAt, .ref mo_aendAt, .ref mo_aopen, .ref mo_aasked, .ref mo_astack, .ref mo_amust, .ref mo_apast, .ref mo_apastOf, .int mo_pastMany, .int mo_pastAt, .int mo_takesBack, .ref mo_acanRise, .ref mo_afirstHas, .ref mo_asecondHas, .ref mo_alay, .ref mo_ashows, .ref mo_aimages, .ref mo_aisMade, .int mo_imageAt, .int mo_goesBack]))]) := hD
  refine lv_aload_n hx hb dX9_starts_20 rfl (lv_at hl 0 rfl) ?_
  refine lv_iconst (v := 0) hx hb dX9_starts_21 (by decide) ?_
  refine va_put (D := D) (ci := 7) (v := .int 0) (C := RX9) (T := TX9) (N := 53) hx hb hts in9 tyX9 tyX9_ok nmX9 hown hG.1 hP hD hS 0 rfl rfl 25 (by decide) (hts (.fieldLink RX9 197 "ChairCaneModel" "counted" "I") (by decide +kernel)) (fun _ h9 => h9) rfl (tyX9_ok 25 (by decide)) rfl rfl (Nat.le_of_ble_eq_true rfl) dX9_starts_22 (fun H locs hP hD hS => ?_)
  have hP : va_P D vwCl ([(mo, .inr (7, [.int mo_thrown, .ref mo_ascalar, .ref mo_acane, .ref mo_ais, .ref mo_astrandOf, .ref mo_aweight, .ref mo_aheight, .ref mo_achairOf, .ref mo_anoteMinute, .ref mo_anoteWho, .ref mo_anoteIs, .ref mo_atoldCane, .ref mo_anewScalar, .ref mo_anewCane, .ref mo_anewHeight, .ref mo_anewStrand, .ref mo_anewChair, .ref mo_anewWeight, .int mo_taped, .int 0, .int 0, .int mo_slot, .int mo_rules, .int 0, .int 0, .int 0, .int mo_opened, .int mo_words, .ref mo_atape, .ref mo_asort, .ref mo_anumber, .ref mo_aclauses, .ref mo_asumAt, .ref mo_atestAt, .ref mo_aendAt, .ref mo_aopen, .ref mo_aasked, .ref mo_astack, .ref mo_amust, .ref mo_apast, .ref mo_apastOf, .int mo_pastMany, .int mo_pastAt, .int mo_takesBack, .ref mo_acanRise, .ref mo_afirstHas, .ref mo_asecondHas, .ref mo_alay, .ref mo_ashows, .ref mo_aimages, .ref mo_aisMade, .int mo_imageAt, .int mo_goesBack]))]) H := hP
  have hD : va_D A ([(mo, .inr (7, [.int mo_thrown, .ref mo_ascalar, .ref mo_acane, .ref mo_ais, .ref mo_astrandOf, .ref mo_aweight, .ref mo_aheight, .ref mo_achairOf, .ref mo_anoteMinute, .ref mo_anoteWho, .ref mo_anoteIs, .ref mo_atoldCane, .ref mo_anewScalar, .ref mo_anewCane, .ref mo_anewHeight, .ref mo_anewStrand, .ref mo_anewChair, .ref mo_anewWeight, .int mo_taped, .int 0, .int 0, .int mo_slot, .int mo_rules, .int 0, .int 0, .int 0, .int mo_opened, .int mo_words, .ref mo_atape, .ref mo_asort, .ref mo_anumber, .ref mo_aclauses, .ref mo_asumAt, .ref mo_atestAt, .ref mo_aendAt, .ref mo_aopen, .ref mo_aasked, .ref mo_astack, .ref mo_amust, .ref mo_apast, .ref mo_apastOf, .int mo_pastMany, .int mo_pastAt, .int mo_takesBack, .ref mo_acanRise, .ref mo_afirstHas, .ref mo_asecondHas, .ref mo_alay, .ref mo_ashows, .ref mo_aimages, .ref mo_aisMade, .int mo_imageAt, .int mo_goesBack]))]) := hD
  exact hc_endV hx hb hr hlocks (0, 0, 0, 0, 0) ⟨(show iv (0) (402) 0 from iv_lit (by decide) (by decide)), (show iv (0) (4000) 0 from iv_lit (by decide) (by decide)), (show iv (0) (300) 0 from iv_lit (by decide) (by decide)), (show iv (0) (70) 0 from iv_lit (by decide) (by decide)), (by (try dsimp only); exact ⟨by decide, by decide, by decide, by decide⟩)⟩ hP hD hS dX9_starts_25
set_option maxHeartbeats 4000000 in
set_option maxRecDepth 100000 in
theorem i_X9_amount (l : Launch) (D : va_G) (k : Nat → ClassId) (sz : Nat) (x1 : Int32) (x2 : Int32) (mo : Nat) (mo_thrown : Int32) (mo_ascalar : Nat) (mo_acane : Nat) (mo_ais : Nat) (mo_astrandOf : Nat) (mo_aweight : Nat) (mo_aheight : Nat) (mo_achairOf : Nat) (mo_anoteMinute : Nat) (mo_anoteWho : Nat) (mo_anoteIs : Nat) (mo_atoldCane : Nat) (mo_anewScalar : Nat) (mo_anewCane : Nat) (mo_anewHeight : Nat) (mo_anewStrand : Nat) (mo_anewChair : Nat) (mo_anewWeight : Nat) (mo_taped : Int32) (mo_p : Int32) (mo_fault : Int32) (mo_slot : Int32) (mo_rules : Int32) (mo_entries : Int32) (mo_deep : Int32) (mo_counted : Int32) (mo_opened : Int32) (mo_words : Int32) (mo_atape : Nat) (mo_asort : Nat) (mo_anumber : Nat) (mo_aclauses : Nat) (mo_asumAt : Nat) (mo_atestAt : Nat) (mo_aendAt : Nat) (mo_aopen : Nat) (mo_aasked : Nat) (mo_astack : Nat) (mo_amust : Nat) (mo_apast : Nat) (mo_apastOf : Nat) (mo_pastMany : Int32) (mo_pastAt : Int32) (mo_takesBack : Int32) (mo_acanRise : Nat) (mo_afirstHas : Nat) (mo_asecondHas : Nat) (mo_alay : Nat) (mo_ashows : Nat) (mo_aimages : Nat) (mo_aisMade : Nat) (mo_imageAt : Int32) (mo_goesBack : Int32) (mo_rtape : Nat → Int32) (h_mo_taped : iv (0) (400) mo_taped) (h_mo_p : iv (0) (402) mo_p) (h_mo_fault : iv (0) (4000) mo_fault) (h_mo_slot : iv (0) (5) mo_slot) (h_mo_rules : iv (0) (6) mo_rules) (h_mo_entries : iv (0) (300) mo_entries) (h_mo_counted : iv (0) (70) mo_counted) (h_mo_opened : iv (0) (402) mo_opened) (h_mo_words : iv (11) (11) mo_words) (h_mo_pastMany : iv (0) (20) mo_pastMany) (h_mo_pastAt : iv (0) (260) mo_pastAt) (h_mo_takesBack : iv (0) (1) mo_takesBack) (h_mo_imageAt : iv (0) (2000) mo_imageAt) (h_mo_goesBack : iv (0) (1) mo_goesBack) (hr_p : mo_p.toInt ≤ mo_taped.toInt) : CtI l yX9_amount wsX9_amount (rmK 4 0 0) [.ref mo, .int x1, .int x2] D k sz ([(mo, .inr (7, [.int mo_thrown, .ref mo_ascalar, .ref mo_acane, .ref mo_ais, .ref mo_astrandOf, .ref mo_aweight, .ref mo_aheight, .ref mo_achairOf, .ref mo_anoteMinute, .ref mo_anoteWho, .ref mo_anoteIs, .ref mo_atoldCane, .ref mo_anewScalar, .ref mo_anewCane, .ref mo_anewHeight, .ref mo_anewStrand, .ref mo_anewChair, .ref mo_anewWeight, .int mo_taped, .int mo_p, .int mo_fault, .int mo_slot, .int mo_rules, .int mo_entries, .int mo_deep, .int mo_counted, .int mo_opened, .int mo_words, .ref mo_atape, .ref mo_asort, .ref mo_anumber, .ref mo_aclauses, .ref mo_asumAt, .ref mo_atestAt, .ref mo_aendAt, .ref mo_aopen, .ref mo_aasked, .ref mo_astack, .ref mo_amust, .ref mo_apast, .ref mo_apastOf, .int mo_pastMany, .int mo_pastAt, .int mo_takesBack, .ref mo_acanRise, .ref mo_afirstHas, .ref mo_asecondHas, .ref mo_alay, .ref mo_ashows, .ref mo_aimages, .ref mo_aisMade, .int mo_imageAt, .int mo_goesBack])), (mo_atape, hcY k 400 mo_rtape)]) (fun (r : Int32) (u : (Int32) × (Int32)) => iv (0) (402) (u.1) ∧ iv (0) (4000) (u.2) ∧ (mo_p.toInt ≤ (u.1).toInt ∧ (u.1).toInt ≤ mo_taped.toInt ∧ ((u.2).toInt ≠ 0 ∨ (mo_fault.toInt = 0 ∧ x1.toInt ≤ r.toInt ∧ r.toInt ≤ x2.toInt)))) (fun u : (Int32) × (Int32) => [(mo, .inr (7, [.int mo_thrown, .ref mo_ascalar, .ref mo_acane, .ref mo_ais, .ref mo_astrandOf, .ref mo_aweight, .ref mo_aheight, .ref mo_achairOf, .ref mo_anoteMinute, .ref mo_anoteWho, .ref mo_anoteIs, .ref mo_atoldCane, .ref mo_anewScalar, .ref mo_anewCane, .ref mo_anewHeight, .ref mo_anewStrand, .ref mo_anewChair, .ref mo_anewWeight, .int mo_taped, .int (u.1), .int (u.2), .int mo_slot, .int mo_rules, .int mo_entries, .int mo_deep, .int mo_counted, .int mo_opened, .int mo_words, .ref mo_atape, .ref mo_asort, .ref mo_anumber, .ref mo_aclauses, .ref mo_asumAt, .ref mo_atestAt, .ref mo_aendAt, .ref mo_aopen, .ref mo_aasked, .ref mo_astack, .ref mo_amust, .ref mo_apast, .ref mo_apastOf, .int mo_pastMany, .int mo_pastAt, .int mo_takesBack, .ref mo_acanRise, .ref mo_afirstHas, .ref mo_asecondHas, .ref mo_alay, .ref mo_ashows, .ref mo_aimages, .ref mo_aisMade, .int mo_imageAt, .int mo_goesBack])), (mo_atape, hcY k 400 mo_rtape)]) 0 0 := by
  have h_mo_taped_l := h_mo_taped.1
  have h_mo_taped_u := h_mo_taped.2
  have h_mo_p_l := h_mo_p.1
  have h_mo_p_u := h_mo_p.2
  have h_mo_fault_l := h_mo_fault.1
  have h_mo_fault_u := h_mo_fault.2
  have h_mo_slot_l := h_mo_slot.1
  have h_mo_slot_u := h_mo_slot.2
  have h_mo_rules_l := h_mo_rules.1
  have h_mo_rules_u := h_mo_rules.2
  have h_mo_entries_l := h_mo_entries.1
  have h_mo_entries_u := h_mo_entries.2
  have h_mo_counted_l := h_mo_counted.1
  have h_mo_counted_u := h_mo_counted.2
  have h_mo_opened_l := h_mo_opened.1
  have h_mo_opened_u := h_mo_opened.2
  have h_mo_words_l := h_mo_words.1
  have h_mo_words_u := h_mo_words.2
  have h_mo_pastMany_l := h_mo_pastMany.1
  have h_mo_pastMany_u := h_mo_pastMany.2
  have h_mo_pastAt_l := h_mo_pastAt.1
  have h_mo_pastAt_u := h_mo_pastAt.2
  have h_mo_takesBack_l := h_mo_takesBack.1
  have h_mo_takesBack_u := h_mo_takesBack.2
  have h_mo_imageAt_l := h_mo_imageAt.1
  have h_mo_imageAt_u := h_mo_imageAt.2
  have h_mo_goesBack_l := h_mo_goesBack.1
  have h_mo_goesBack_u := h_mo_goesBack.2
  refine CtI.mk (cc := cX9_amount) (maxL := 5) (ret := (some .int)) (by decide) rfl (Nat.le_of_ble_eq_true rfl) ?_
  intro p e s m below meth c A ls E hP hD hS hl
  obtain ⟨hx, hb, hr, hml, hown, hts, hlocks, hin, hG, hA⟩ := E
  have hown : s.vm.findClass RX9 = some m.cls := hown
  have in9 : ∀ w ∈ u_ws RX9 TX9 53, w ∈ wsX9_amount := fun _ h => List.mem_cons_of_mem _ (List.mem_append_right _ h)
  have hl : lv_has ls 5 [(0, .ref mo), (1, .int x1), (2, .int x2)] := hl
  refine lv_aload_n hx hb dX9_amount_0 rfl (lv_at hl 0 rfl) ?_
  refine hc_Vv (As := []) (rest := []) (n := 0) (wr := []) hx hb hml hown hts hG hA hP hD hS hl.1 [0, 1] [] (i_X9_blanks l D k _ mo mo_thrown mo_ascalar mo_acane mo_ais mo_astrandOf mo_aweight mo_aheight mo_achairOf mo_anoteMinute mo_anoteWho mo_anoteIs mo_atoldCane mo_anewScalar mo_anewCane mo_anewHeight mo_anewStrand mo_anewChair mo_anewWeight mo_taped mo_p mo_fault mo_slot mo_rules mo_entries mo_deep mo_counted mo_opened mo_words mo_atape mo_asort mo_anumber mo_aclauses mo_asumAt mo_atestAt mo_aendAt mo_aopen mo_aasked mo_astack mo_amust mo_apast mo_apastOf mo_pastMany mo_pastAt mo_takesBack mo_acanRise mo_afirstHas mo_asecondHas mo_alay mo_ashows mo_aimages mo_aisMade mo_imageAt mo_goesBack mo_rtape ⟨by omega, by omega⟩ ⟨by omega, by omega⟩ ⟨by omega, by omega⟩ ⟨by omega, by omega⟩ ⟨by omega, by omega⟩ ⟨by omega, by omega⟩ ⟨by omega, by omega⟩ ⟨by omega, by omega⟩ ⟨by omega, by omega⟩ ⟨by omega, by omega⟩ ⟨by omega, by omega⟩ ⟨by omega, by omega⟩ ⟨by omega, by omega⟩ ⟨by omega, by omega⟩) (ci := 7) (q0 := 0) rfl rfl gX9_amount_X9_blanks rfl ⟨rfl, rfl, Nat.le_of_ble_eq_true rfl, Nat.le_of_ble_eq_true rfl⟩ (by decide +kernel) rfl rfl ⟨by decide, by decide, by decide⟩ ⟨rfl, rfl, Nat.le_of_ble_eq_true rfl, Nat.le_of_ble_eq_true rfl, Nat.le_of_ble_eq_true rfl⟩ dX9_amount_1 (fun u1 H locs hw hP hD hS => ?_)
  obtain ⟨w3, rfl⟩ : ∃ z, z = u1 := ⟨_, rfl⟩
  have hP : va_P D vwCl ([(mo, .inr (7, [.int mo_thrown, .ref mo_ascalar, .ref mo_acane, .ref mo_ais, .ref mo_astrandOf, .ref mo_aweight, .ref mo_aheight, .ref mo_achairOf, .ref mo_anoteMinute, .ref mo_anoteWho, .ref mo_anoteIs, .ref mo_atoldCane, .ref mo_anewScalar, .ref mo_anewCane, .ref mo_anewHeight, .ref mo_anewStrand, .ref mo_anewChair, .ref mo_anewWeight, .int mo_taped, .int w3, .int mo_fault, .int mo_slot, .int mo_rules, .int mo_entries, .int mo_deep, .int mo_counted, .int mo_opened, .int mo_words, .ref mo_atape, .ref mo_asort, .ref mo_anumber, .ref mo_aclauses, .ref mo_asumAt, .ref mo_atestAt, .ref mo_aendAt, .ref mo_aopen, .ref mo_aasked, .ref mo_astack, .ref mo_amust, .ref mo_apast, .ref mo_apastOf, .int mo_pastMany, .int mo_pastAt, .int mo_takesBack, .ref mo_acanRise, .ref mo_afirstHas, .ref mo_asecondHas, .ref mo_alay, .ref mo_ashows, .ref mo_aimages, .ref mo_aisMade, .int mo_imageAt, .int mo_goesBack])), (mo_atape, hcY k 400 mo_rtape)]) H := hP
  have hD : va_D A ([(mo, .inr (7, [.int mo_thrown, .ref mo_ascalar, .ref mo_acane, .ref mo_ais, .ref mo_astrandOf, .ref mo_aweight, .ref mo_aheight, .ref mo_achairOf, .ref mo_anoteMinute, .ref mo_anoteWho, .ref mo_anoteIs, .ref mo_atoldCane, .ref mo_anewScalar, .ref mo_anewCane, .ref mo_anewHeight, .ref mo_anewStrand, .ref mo_anewChair, .ref mo_anewWeight, .int mo_taped, .int w3, .int mo_fault, .int mo_slot, .int mo_rules, .int mo_entries, .int mo_deep, .int mo_counted, .int mo_opened, .int mo_words, .ref mo_atape, .ref mo_asort, .ref mo_anumber, .ref mo_aclauses, .ref mo_asumAt, .ref mo_atestAt, .ref mo_aendAt, .ref mo_aopen, .ref mo_aasked, .ref mo_astack, .ref mo_amust, .ref mo_apast, .ref mo_apastOf, .int mo_pastMany, .int mo_pastAt, .int mo_takesBack, .ref mo_acanRise, .ref mo_afirstHas, .ref mo_asecondHas, .ref mo_alay, .ref mo_ashows, .ref mo_aimages, .ref mo_aisMade, .int mo_imageAt, .int mo_goesBack])), (mo_atape, hcY k 400 mo_rtape)]) := hD
  obtain ⟨bw3, rel4⟩ := hw
  have bw3 : iv (0) (402) w3 := bw3
  have bw3_l := bw3.1
  have bw3_u := bw3.2
  try dsimp only at rel4
  refine lv_aload_n hx hb dX9_amount_4 rfl (lv_at hl 0 rfl) ?_
  refine va_get (D := D) (ci := 7) (v := .int w3) (C := RX9) (T := TX9) (N := 53) hx hb hts in9 hown hG.1 hP 0 rfl rfl 19 (by decide) (hts (.fieldLink RX9 164 "ChairCaneModel" "p" "I") (by decide +kernel)) (fun _ h9 => h9) rfl dX9_amount_5 ?_
  refine lv_istore_n (lv' := [(3, .int w3), (0, .ref mo), (1, .int x1), (2, .int x2)]) hx hb dX9_amount_8 rfl hl (by decide) rfl (fun ls hl => ?_)
  refine lv_aload_n hx hb dX9_amount_9 rfl (lv_at hl 1 rfl) ?_
  refine va_get (D := D) (ci := 7) (v := .int mo_fault) (C := RX9) (T := TX9) (N := 53) hx hb hts in9 hown hG.1 hP 0 rfl rfl 20 (by decide) (hts (.fieldLink RX9 161 "ChairCaneModel" "fault" "I") (by decide +kernel)) (fun _ h9 => h9) rfl dX9_amount_10 ?_
  refine lv_if_ne (tgt := 25) hx hb dX9_amount_13 (by decide) (fun c5 => ?_) (fun c5 => ?_)
  · have fc5 := cx_ne_t (a := mo_fault.toInt) (b := 0) rfl (by decide) c5
    refine lv_iconst (v := 0) hx hb dX9_amount_25 (by decide) ?_
    refine lv_istore (lv' := [(4, .int 0), (3, .int w3), (0, .ref mo), (1, .int x1), (2, .int x2)]) hx hb dX9_amount_26 hl (by decide) rfl (fun ls hl => ?_)
    refine lv_aload_n hx hb dX9_amount_28 rfl (lv_at hl 2 rfl) ?_
    refine va_get (D := D) (ci := 7) (v := .int mo_fault) (C := RX9) (T := TX9) (N := 53) hx hb hts in9 hown hG.1 hP 0 rfl rfl 20 (by decide) (hts (.fieldLink RX9 161 "ChairCaneModel" "fault" "I") (by decide +kernel)) (fun _ h9 => h9) rfl dX9_amount_29 ?_
    refine lv_if_ne (tgt := 54) hx hb dX9_amount_32 (by decide) (fun _ => ?_) (fun h => absurd h (cd_ne_t (a := mo_fault.toInt) (b := 0) rfl (by decide) (by omega)))
    refine lv_iload hx hb dX9_amount_54 (lv_at hl 0 rfl) ?_
    exact hc_end hx hb hr hlocks (w3, mo_fault) ⟨(show iv (0) (402) w3 from ⟨by omega, by omega⟩), (show iv (0) (4000) mo_fault from ⟨by omega, by omega⟩), (by (try dsimp only); have q9 : (0 : Int32).toInt = 0 := (by decide); omega)⟩ hP hD hS dX9_amount_56
  · have fc5 := cx_ne_f (a := mo_fault.toInt) (b := 0) rfl (by decide) c5
    refine lv_aload_n hx hb dX9_amount_16 rfl (lv_at hl 1 rfl) ?_
    refine lv_ldc (v := 99999) hx hb hown (hts (.constant RX9 208 (99999)) (by decide +kernel)) dX9_amount_17 ?_
    have ql6 : (99999 : Int32).toInt = 99999 := by decide
    refine hc_Vi (As := [.int 99999]) (rest := []) (n := 1) (wr := []) hx hb hml hown hts hG hA hP hD hS hl.1 [0, 1] [] (i_X9_digits l D k _ 99999 mo mo_thrown mo_ascalar mo_acane mo_ais mo_astrandOf mo_aweight mo_aheight mo_achairOf mo_anoteMinute mo_anoteWho mo_anoteIs mo_atoldCane mo_anewScalar mo_anewCane mo_anewHeight mo_anewStrand mo_anewChair mo_anewWeight mo_taped w3 mo_fault mo_slot mo_rules mo_entries mo_deep mo_counted mo_opened mo_words mo_atape mo_asort mo_anumber mo_aclauses mo_asumAt mo_atestAt mo_aendAt mo_aopen mo_aasked mo_astack mo_amust mo_apast mo_apastOf mo_pastMany mo_pastAt mo_takesBack mo_acanRise mo_afirstHas mo_asecondHas mo_alay mo_ashows mo_aimages mo_aisMade mo_imageAt mo_goesBack mo_rtape ⟨by omega, by omega⟩ ⟨by omega, by omega⟩ ⟨by omega, by omega⟩ ⟨by omega, by omega⟩ ⟨by omega, by omega⟩ ⟨by omega, by omega⟩ ⟨by omega, by omega⟩ ⟨by omega, by omega⟩ ⟨by omega, by omega⟩ ⟨by omega, by omega⟩ ⟨by omega, by omega⟩ ⟨by omega, by omega⟩ ⟨by omega, by omega⟩ ⟨by omega, by omega⟩ (by omega)) (ci := 7) (q0 := 0) rfl rfl gX9_amount_X9_digits rfl ⟨rfl, rfl, Nat.le_of_ble_eq_true rfl, Nat.le_of_ble_eq_true rfl⟩ (by decide +kernel) rfl rfl ⟨by decide, by decide, by decide⟩ ⟨rfl, rfl, Nat.le_of_ble_eq_true rfl, Nat.le_of_ble_eq_true rfl, Nat.le_of_ble_eq_true rfl⟩ dX9_amount_19 (fun r8 u7 H locs hw hP hD hS => ?_)
    obtain ⟨w9, w10⟩ := u7
    have hP : va_P D vwCl ([(mo, .inr (7, [.int mo_thrown, .ref mo_ascalar, .ref mo_acane, .ref mo_ais, .ref mo_astrandOf, .ref mo_aweight, .ref mo_aheight, .ref mo_achairOf, .ref mo_anoteMinute, .ref mo_anoteWho, .ref mo_anoteIs, .ref mo_atoldCane, .ref mo_anewScalar, .ref mo_anewCane, .ref mo_anewHeight, .ref mo_anewStrand, .ref mo_anewChair, .ref mo_anewWeight, .int mo_taped, .int w9, .int w10, .int mo_slot, .int mo_rules, .int mo_entries, .int mo_deep, .int mo_counted, .int mo_opened, .int mo_words, .ref mo_atape, .ref mo_asort, .ref mo_anumber, .ref mo_aclauses, .ref mo_asumAt, .ref mo_atestAt, .ref mo_aendAt, .ref mo_aopen, .ref mo_aasked, .ref mo_astack, .ref mo_amust, .ref mo_apast, .ref mo_apastOf, .int mo_pastMany, .int mo_pastAt, .int mo_takesBack, .ref mo_acanRise, .ref mo_afirstHas, .ref mo_asecondHas, .ref mo_alay, .ref mo_ashows, .ref mo_aimages, .ref mo_aisMade, .int mo_imageAt, .int mo_goesBack])), (mo_atape, hcY k 400 mo_rtape)]) H := hP
    have hD : va_D A ([(mo, .inr (7, [.int mo_thrown, .ref mo_ascalar, .ref mo_acane, .ref mo_ais, .ref mo_astrandOf, .ref mo_aweight, .ref mo_aheight, .ref mo_achairOf, .ref mo_anoteMinute, .ref mo_anoteWho, .ref mo_anoteIs, .ref mo_atoldCane, .ref mo_anewScalar, .ref mo_anewCane, .ref mo_anewHeight, .ref mo_anewStrand, .ref mo_anewChair, .ref mo_anewWeight, .int mo_taped, .int w9, .int w10, .int mo_slot, .int mo_rules, .int mo_entries, .int mo_deep, .int mo_counted, .int mo_opened, .int mo_words, .ref mo_atape, .ref mo_asort, .ref mo_anumber, .ref mo_aclauses, .ref mo_asumAt, .ref mo_atestAt, .ref mo_aendAt, .ref mo_aopen, .ref mo_aasked, .ref mo_astack, .ref mo_amust, .ref mo_apast, .ref mo_apastOf, .int mo_pastMany, .int mo_pastAt, .int mo_takesBack, .ref mo_acanRise, .ref mo_afirstHas, .ref mo_asecondHas, .ref mo_alay, .ref mo_ashows, .ref mo_aimages, .ref mo_aisMade, .int mo_imageAt, .int mo_goesBack])), (mo_atape, hcY k 400 mo_rtape)]) := hD
    have ql12 : (99999 : Int32).toInt = 99999 := by decide
    obtain ⟨bw9, bw10, rel11⟩ := hw
    have bw9 : iv (0) (402) w9 := bw9
    have bw9_l := bw9.1
    have bw9_u := bw9.2
    have bw10 : iv (0) (4000) w10 := bw10
    have bw10_l := bw10.1
    have bw10_u := bw10.2
    try dsimp only at rel11
    refine lv_goto (tgt := 26) hx hb dX9_amount_22 (by decide) ?_
    refine lv_istore (lv' := [(4, .int r8), (3, .int w3), (0, .ref mo), (1, .int x1), (2, .int x2)]) hx hb dX9_amount_26 hl (by decide) rfl (fun ls hl => ?_)
    refine lv_aload_n hx hb dX9_amount_28 rfl (lv_at hl 2 rfl) ?_
    refine va_get (D := D) (ci := 7) (v := .int w10) (C := RX9) (T := TX9) (N := 53) hx hb hts in9 hown hG.1 hP 0 rfl rfl 20 (by decide) (hts (.fieldLink RX9 161 "ChairCaneModel" "fault" "I") (by decide +kernel)) (fun _ h9 => h9) rfl dX9_amount_29 ?_
    refine lv_if_ne (tgt := 54) hx hb dX9_amount_32 (by decide) (fun c13 => ?_) (fun c13 => ?_)
    · have fc13 := cx_ne_t (a := w10.toInt) (b := 0) rfl (by decide) c13
      refine lv_iload hx hb dX9_amount_54 (lv_at hl 0 rfl) ?_
      exact hc_end hx hb hr hlocks (w9, w10) ⟨(show iv (0) (402) w9 from ⟨by omega, by omega⟩), (show iv (0) (4000) w10 from ⟨by omega, by omega⟩), (by (try dsimp only); omega)⟩ hP hD hS dX9_amount_56
    · have fc13 := cx_ne_f (a := w10.toInt) (b := 0) rfl (by decide) c13
      refine lv_iload hx hb dX9_amount_35 (lv_at hl 0 rfl) ?_
      refine lv_i2l hx hb dX9_amount_37 rfl ?_
      refine lv_topl (fun y14 ey14 => ?_)
      have ty14 : y14.toInt = r8.toInt := ai_i2l rfl ey14
      refine lv_iload_n hx hb dX9_amount_38 rfl (lv_at hl 3 rfl) ?_
      refine lv_i2l hx hb dX9_amount_39 rfl ?_
      refine lv_topl (fun y15 ey15 => ?_)
      have ty15 : y15.toInt = x1.toInt := ai_i2l rfl ey15
      refine lv_iload_n hx hb dX9_amount_40 rfl (lv_at hl 4 rfl) ?_
      refine lv_i2l hx hb dX9_amount_41 rfl ?_
      refine lv_topl (fun y16 ey16 => ?_)
      have ty16 : y16.toInt = x2.toInt := ai_i2l rfl ey16
      refine hc_Si (As := [.long y14, .long y15, .long y16]) (rest := []) (n := 3) (wr := [(mo, .inr (7, [.int mo_thrown, .ref mo_ascalar, .ref mo_acane, .ref mo_ais, .ref mo_astrandOf, .ref mo_aweight, .ref mo_aheight, .ref mo_achairOf, .ref mo_anoteMinute, .ref mo_anoteWho, .ref mo_anoteIs, .ref mo_atoldCane, .ref mo_anewScalar, .ref mo_anewCane, .ref mo_anewHeight, .ref mo_anewStrand, .ref mo_anewChair, .ref mo_anewWeight, .int mo_taped, .int w9, .int w10, .int mo_slot, .int mo_rules, .int mo_entries, .int mo_deep, .int mo_counted, .int mo_opened, .int mo_words, .ref mo_atape, .ref mo_asort, .ref mo_anumber, .ref mo_aclauses, .ref mo_asumAt, .ref mo_atestAt, .ref mo_aendAt, .ref mo_aopen, .ref mo_aasked, .ref mo_astack, .ref mo_amust, .ref mo_apast, .ref mo_apastOf, .int mo_pastMany, .int mo_pastAt, .int mo_takesBack, .ref mo_acanRise, .ref mo_afirstHas, .ref mo_asecondHas, .ref mo_alay, .ref mo_ashows, .ref mo_aimages, .ref mo_aisMade, .int mo_imageAt, .int mo_goesBack])), (mo_atape, hcY k 400 mo_rtape)]) hx hb hml hown hts hG hA hP hD hS hl.1 [] [0, 1] (i_X9_in l D k _ y14 y15 y16 ) gX9_amount_X9_in rfl ⟨rfl, rfl, Nat.le_of_ble_eq_true rfl, Nat.le_of_ble_eq_true rfl⟩ (by decide +kernel) rfl rfl ⟨by decide, by decide, by decide⟩ ⟨rfl, rfl, Nat.le_of_ble_eq_true rfl, Nat.le_of_ble_eq_true rfl, Nat.le_of_ble_eq_true rfl⟩ dX9_amount_42 (fun r18 u17 H locs hw hP hD hS => ?_)
      have hP : va_P D vwCl ([(mo, .inr (7, [.int mo_thrown, .ref mo_ascalar, .ref mo_acane, .ref mo_ais, .ref mo_astrandOf, .ref mo_aweight, .ref mo_aheight, .ref mo_achairOf, .ref mo_anoteMinute, .ref mo_anoteWho, .ref mo_anoteIs, .ref mo_atoldCane, .ref mo_anewScalar, .ref mo_anewCane, .ref mo_anewHeight, .ref mo_anewStrand, .ref mo_anewChair, .ref mo_anewWeight, .int mo_taped, .int w9, .int w10, .int mo_slot, .int mo_rules, .int mo_entries, .int mo_deep, .int mo_counted, .int mo_opened, .int mo_words, .ref mo_atape, .ref mo_asort, .ref mo_anumber, .ref mo_aclauses, .ref mo_asumAt, .ref mo_atestAt, .ref mo_aendAt, .ref mo_aopen, .ref mo_aasked, .ref mo_astack, .ref mo_amust, .ref mo_apast, .ref mo_apastOf, .int mo_pastMany, .int mo_pastAt, .int mo_takesBack, .ref mo_acanRise, .ref mo_afirstHas, .ref mo_asecondHas, .ref mo_alay, .ref mo_ashows, .ref mo_aimages, .ref mo_aisMade, .int mo_imageAt, .int mo_goesBack])), (mo_atape, hcY k 400 mo_rtape)]) H := hP
      have hD : va_D A ([(mo, .inr (7, [.int mo_thrown, .ref mo_ascalar, .ref mo_acane, .ref mo_ais, .ref mo_astrandOf, .ref mo_aweight, .ref mo_aheight, .ref mo_achairOf, .ref mo_anoteMinute, .ref mo_anoteWho, .ref mo_anoteIs, .ref mo_atoldCane, .ref mo_anewScalar, .ref mo_anewCane, .ref mo_anewHeight, .ref mo_anewStrand, .ref mo_anewChair, .ref mo_anewWeight, .int mo_taped, .int w9, .int w10, .int mo_slot, .int mo_rules, .int mo_entries, .int mo_deep, .int mo_counted, .int mo_opened, .int mo_words, .ref mo_atape, .ref mo_asort, .ref mo_anumber, .ref mo_aclauses, .ref mo_asumAt, .ref mo_atestAt, .ref mo_aendAt, .ref mo_aopen, .ref mo_aasked, .ref mo_astack, .ref mo_amust, .ref mo_apast, .ref mo_apastOf, .int mo_pastMany, .int mo_pastAt, .int mo_takesBack, .ref mo_acanRise, .ref mo_afirstHas, .ref mo_asecondHas, .ref mo_alay, .ref mo_ashows, .ref mo_aimages, .ref mo_aisMade, .int mo_imageAt, .int mo_goesBack])), (mo_atape, hcY k 400 mo_rtape)]) := hD
      obtain ⟨br18, rel19⟩ := hw
      have br18 : iv (0) (1) r18 := br18
      have br18_l := br18.1
      have br18_u := br18.2
      refine lv_if_ne (tgt := 54) hx hb dX9_amount_45 (by decide) (fun c20 => ?_) (fun c20 => ?_)
      · have fc20 := cx_ne_t (a := r18.toInt) (b := 0) rfl (by decide) c20
        refine lv_iload hx hb dX9_amount_54 (lv_at hl 0 rfl) ?_
        exact hc_end hx hb hr hlocks (w9, w10) ⟨(show iv (0) (402) w9 from ⟨by omega, by omega⟩), (show iv (0) (4000) w10 from ⟨by omega, by omega⟩), (by (try dsimp only); omega)⟩ hP hD hS dX9_amount_56
      · have fc20 := cx_ne_f (a := r18.toInt) (b := 0) rfl (by decide) c20
        refine lv_aload_n hx hb dX9_amount_48 rfl (lv_at hl 2 rfl) ?_
        refine lv_iconst (v := 1) hx hb dX9_amount_49 (by decide) ?_
        refine lv_iload_n hx hb dX9_amount_50 rfl (lv_at hl 1 rfl) ?_
        have ql21 : (1 : Int32).toInt = 1 := by decide
        refine hc_Vv (As := [.int 1, .int w3]) (rest := []) (n := 2) (wr := [(mo_atape, hcY k 400 mo_rtape)]) hx hb hml hown hts hG hA hP hD hS hl.1 [0] [1] (i_X9_fails l D k _ 1 w3 mo mo_thrown mo_ascalar mo_acane mo_ais mo_astrandOf mo_aweight mo_aheight mo_achairOf mo_anoteMinute mo_anoteWho mo_anoteIs mo_atoldCane mo_anewScalar mo_anewCane mo_anewHeight mo_anewStrand mo_anewChair mo_anewWeight mo_taped w9 w10 mo_slot mo_rules mo_entries mo_deep mo_counted mo_opened mo_words mo_atape mo_asort mo_anumber mo_aclauses mo_asumAt mo_atestAt mo_aendAt mo_aopen mo_aasked mo_astack mo_amust mo_apast mo_apastOf mo_pastMany mo_pastAt mo_takesBack mo_acanRise mo_afirstHas mo_asecondHas mo_alay mo_ashows mo_aimages mo_aisMade mo_imageAt mo_goesBack (iv_lit (by decide) (by decide)) ⟨by omega, by omega⟩ ⟨by omega, by omega⟩ ⟨by omega, by omega⟩ ⟨by omega, by omega⟩ ⟨by omega, by omega⟩ ⟨by omega, by omega⟩ ⟨by omega, by omega⟩ ⟨by omega, by omega⟩ ⟨by omega, by omega⟩ ⟨by omega, by omega⟩ ⟨by omega, by omega⟩ ⟨by omega, by omega⟩ ⟨by omega, by omega⟩ ⟨by omega, by omega⟩ ⟨by omega, by omega⟩) (ci := 7) (q0 := 0) rfl rfl gX9_amount_X9_fails rfl ⟨rfl, rfl, Nat.le_of_ble_eq_true rfl, Nat.le_of_ble_eq_true rfl⟩ (by decide +kernel) rfl rfl ⟨by decide, by decide, by decide⟩ ⟨rfl, rfl, Nat.le_of_ble_eq_true rfl, Nat.le_of_ble_eq_true rfl, Nat.le_of_ble_eq_true rfl⟩ dX9_amount_51 (fun u22 H locs hw hP hD hS => ?_)
        obtain ⟨w24, rfl⟩ : ∃ z, z = u22 := ⟨_, rfl⟩
        have hP : va_P D vwCl ([(mo_atape, hcY k 400 mo_rtape), (mo, .inr (7, [.int mo_thrown, .ref mo_ascalar, .ref mo_acane, .ref mo_ais, .ref mo_astrandOf, .ref mo_aweight, .ref mo_aheight, .ref mo_achairOf, .ref mo_anoteMinute, .ref mo_anoteWho, .ref mo_anoteIs, .ref mo_atoldCane, .ref mo_anewScalar, .ref mo_anewCane, .ref mo_anewHeight, .ref mo_anewStrand, .ref mo_anewChair, .ref mo_anewWeight, .int mo_taped, .int w9, .int w24, .int mo_slot, .int mo_rules, .int mo_entries, .int mo_deep, .int mo_counted, .int mo_opened, .int mo_words, .ref mo_atape, .ref mo_asort, .ref mo_anumber, .ref mo_aclauses, .ref mo_asumAt, .ref mo_atestAt, .ref mo_aendAt, .ref mo_aopen, .ref mo_aasked, .ref mo_astack, .ref mo_amust, .ref mo_apast, .ref mo_apastOf, .int mo_pastMany, .int mo_pastAt, .int mo_takesBack, .ref mo_acanRise, .ref mo_afirstHas, .ref mo_asecondHas, .ref mo_alay, .ref mo_ashows, .ref mo_aimages, .ref mo_aisMade, .int mo_imageAt, .int mo_goesBack]))]) H := hP
        have hD : va_D A ([(mo_atape, hcY k 400 mo_rtape), (mo, .inr (7, [.int mo_thrown, .ref mo_ascalar, .ref mo_acane, .ref mo_ais, .ref mo_astrandOf, .ref mo_aweight, .ref mo_aheight, .ref mo_achairOf, .ref mo_anoteMinute, .ref mo_anoteWho, .ref mo_anoteIs, .ref mo_atoldCane, .ref mo_anewScalar, .ref mo_anewCane, .ref mo_anewHeight, .ref mo_anewStrand, .ref mo_anewChair, .ref mo_anewWeight, .int mo_taped, .int w9, .int w24, .int mo_slot, .int mo_rules, .int mo_entries, .int mo_deep, .int mo_counted, .int mo_opened, .int mo_words, .ref mo_atape, .ref mo_asort, .ref mo_anumber, .ref mo_aclauses, .ref mo_asumAt, .ref mo_atestAt, .ref mo_aendAt, .ref mo_aopen, .ref mo_aasked, .ref mo_astack, .ref mo_amust, .ref mo_apast, .ref mo_apastOf, .int mo_pastMany, .int mo_pastAt, .int mo_takesBack, .ref mo_acanRise, .ref mo_afirstHas, .ref mo_asecondHas, .ref mo_alay, .ref mo_ashows, .ref mo_aimages, .ref mo_aisMade, .int mo_imageAt, .int mo_goesBack]))]) := hD
        have ql26 : (1 : Int32).toInt = 1 := by decide
        obtain ⟨bw24, rel25⟩ := hw
        have bw24 : iv (0) (4000) w24 := bw24
        have bw24_l := bw24.1
        have bw24_u := bw24.2
        try dsimp only at rel25
        refine lv_iload hx hb dX9_amount_54 (lv_at hl 0 rfl) ?_
        exact hc_end hx hb hr hlocks (w9, w24) ⟨(show iv (0) (402) w9 from ⟨by omega, by omega⟩), (show iv (0) (4000) w24 from ⟨by omega, by omega⟩), (by (try dsimp only); omega)⟩ (hP.sub [1, 0] rfl) (hD.sub [1, 0] (by decide) rfl) hS dX9_amount_56
set_option maxHeartbeats 4000000 in
set_option maxRecDepth 100000 in
theorem i_X9_sitterPart (l : Launch) (D : va_G) (k : Nat → ClassId) (sz : Nat) (mo : Nat) (mo_thrown : Int32) (mo_ascalar : Nat) (mo_acane : Nat) (mo_ais : Nat) (mo_astrandOf : Nat) (mo_aweight : Nat) (mo_aheight : Nat) (mo_achairOf : Nat) (mo_anoteMinute : Nat) (mo_anoteWho : Nat) (mo_anoteIs : Nat) (mo_atoldCane : Nat) (mo_anewScalar : Nat) (mo_anewCane : Nat) (mo_anewHeight : Nat) (mo_anewStrand : Nat) (mo_anewChair : Nat) (mo_anewWeight : Nat) (mo_taped : Int32) (mo_p : Int32) (mo_fault : Int32) (mo_slot : Int32) (mo_rules : Int32) (mo_entries : Int32) (mo_deep : Int32) (mo_counted : Int32) (mo_opened : Int32) (mo_words : Int32) (mo_atape : Nat) (mo_asort : Nat) (mo_anumber : Nat) (mo_aclauses : Nat) (mo_asumAt : Nat) (mo_atestAt : Nat) (mo_aendAt : Nat) (mo_aopen : Nat) (mo_aasked : Nat) (mo_astack : Nat) (mo_amust : Nat) (mo_apast : Nat) (mo_apastOf : Nat) (mo_pastMany : Int32) (mo_pastAt : Int32) (mo_takesBack : Int32) (mo_acanRise : Nat) (mo_afirstHas : Nat) (mo_asecondHas : Nat) (mo_alay : Nat) (mo_ashows : Nat) (mo_aimages : Nat) (mo_aisMade : Nat) (mo_imageAt : Int32) (mo_goesBack : Int32) (mo_rnewCane : Nat → Int32) (mo_rnewHeight : Nat → Int32) (mo_rnewStrand : Nat → Int32) (mo_rnewChair : Nat → Int32) (mo_rnewWeight : Nat → Int32) (mo_rtape : Nat → Int32) (mo_n0 : Int32) (mo_n1 : Int32) (mo_n2 : Int32) (mo_n3 : Int32) (h_mo_taped : iv (0) (400) mo_taped) (h_mo_p : iv (0) (402) mo_p) (h_mo_fault : iv (0) (4000) mo_fault) (h_mo_slot : iv (0) (5) mo_slot) (h_mo_rules : iv (0) (6) mo_rules) (h_mo_entries : iv (0) (300) mo_entries) (h_mo_counted : iv (0) (70) mo_counted) (h_mo_opened : iv (0) (402) mo_opened) (h_mo_words : iv (11) (11) mo_words) (h_mo_pastMany : iv (0) (20) mo_pastMany) (h_mo_pastAt : iv (0) (260) mo_pastAt) (h_mo_takesBack : iv (0) (1) mo_takesBack) (h_mo_imageAt : iv (0) (2000) mo_imageAt) (h_mo_goesBack : iv (0) (1) mo_goesBack) (h_mo_rnewChair : rowIn (0) (7) mo_rnewChair) (h_mo_rnewWeight : rowIn (0) (20) mo_rnewWeight) (h_mo_n0 : iv (0) (1) mo_n0) (h_mo_n1 : iv (0) (4) mo_n1) (h_mo_n2 : iv (0) (8) mo_n2) (h_mo_n3 : iv (0) (8) mo_n3) (hr_p : mo_p.toInt ≤ mo_taped.toInt) (hr_f : mo_fault.toInt = 0) (hh_NHall : NHall mo_fault mo_n2 mo_n3 mo_rnewStrand mo_rnewChair mo_rnewWeight) : CtV l yX9_sitterPart wsX9_sitterPart (rmK 5 0 0) [.ref mo] D k sz ([(mo, .inr (7, [.int mo_thrown, .ref mo_ascalar, .ref mo_acane, .ref mo_ais, .ref mo_astrandOf, .ref mo_aweight, .ref mo_aheight, .ref mo_achairOf, .ref mo_anoteMinute, .ref mo_anoteWho, .ref mo_anoteIs, .ref mo_atoldCane, .ref mo_anewScalar, .ref mo_anewCane, .ref mo_anewHeight, .ref mo_anewStrand, .ref mo_anewChair, .ref mo_anewWeight, .int mo_taped, .int mo_p, .int mo_fault, .int mo_slot, .int mo_rules, .int mo_entries, .int mo_deep, .int mo_counted, .int mo_opened, .int mo_words, .ref mo_atape, .ref mo_asort, .ref mo_anumber, .ref mo_aclauses, .ref mo_asumAt, .ref mo_atestAt, .ref mo_aendAt, .ref mo_aopen, .ref mo_aasked, .ref mo_astack, .ref mo_amust, .ref mo_apast, .ref mo_apastOf, .int mo_pastMany, .int mo_pastAt, .int mo_takesBack, .ref mo_acanRise, .ref mo_afirstHas, .ref mo_asecondHas, .ref mo_alay, .ref mo_ashows, .ref mo_aimages, .ref mo_aisMade, .int mo_imageAt, .int mo_goesBack])), (mo_anewCane, hcI k 4 mo_rnewCane), (mo_anewHeight, hcI k 8 mo_rnewHeight), (mo_anewStrand, hcI k 8 mo_rnewStrand), (mo_anewChair, hcI k 8 mo_rnewChair), (mo_anewWeight, hcI k 8 mo_rnewWeight), (mo_atape, hcY k 400 mo_rtape), (mo_anewScalar, hcI k 4 (sc4 mo_n0 mo_n1 mo_n2 mo_n3))]) (fun u : (Int32) × (Int32) × (Nat → Int32) × (Nat → Int32) × (Int32) => iv (0) (402) (u.1) ∧ iv (0) (4000) (u.2.1) ∧ rowIn (0) (7) (u.2.2.1) ∧ rowIn (0) (20) (u.2.2.2.1) ∧ iv (0) (8) (u.2.2.2.2) ∧ (mo_p.toInt ≤ (u.1).toInt ∧ (u.1).toInt ≤ mo_taped.toInt ∧ ((u.2.1).toInt ≠ 0 ∨ mo_fault.toInt = 0)) ∧ (NHall (u.2.1) mo_n2 (u.2.2.2.2) mo_rnewStrand (u.2.2.1) (u.2.2.2.1))) (fun u : (Int32) × (Int32) × (Nat → Int32) × (Nat → Int32) × (Int32) => [(mo, .inr (7, [.int mo_thrown, .ref mo_ascalar, .ref mo_acane, .ref mo_ais, .ref mo_astrandOf, .ref mo_aweight, .ref mo_aheight, .ref mo_achairOf, .ref mo_anoteMinute, .ref mo_anoteWho, .ref mo_anoteIs, .ref mo_atoldCane, .ref mo_anewScalar, .ref mo_anewCane, .ref mo_anewHeight, .ref mo_anewStrand, .ref mo_anewChair, .ref mo_anewWeight, .int mo_taped, .int (u.1), .int (u.2.1), .int mo_slot, .int mo_rules, .int mo_entries, .int mo_deep, .int mo_counted, .int mo_opened, .int mo_words, .ref mo_atape, .ref mo_asort, .ref mo_anumber, .ref mo_aclauses, .ref mo_asumAt, .ref mo_atestAt, .ref mo_aendAt, .ref mo_aopen, .ref mo_aasked, .ref mo_astack, .ref mo_amust, .ref mo_apast, .ref mo_apastOf, .int mo_pastMany, .int mo_pastAt, .int mo_takesBack, .ref mo_acanRise, .ref mo_afirstHas, .ref mo_asecondHas, .ref mo_alay, .ref mo_ashows, .ref mo_aimages, .ref mo_aisMade, .int mo_imageAt, .int mo_goesBack])), (mo_anewCane, hcI k 4 mo_rnewCane), (mo_anewHeight, hcI k 8 mo_rnewHeight), (mo_anewStrand, hcI k 8 mo_rnewStrand), (mo_anewChair, hcI k 8 (u.2.2.1)), (mo_anewWeight, hcI k 8 (u.2.2.2.1)), (mo_atape, hcY k 400 mo_rtape), (mo_anewScalar, hcI k 4 (sc4 mo_n0 mo_n1 mo_n2 (u.2.2.2.2)))]) 0 0 := by
  have h_mo_taped_l := h_mo_taped.1
  have h_mo_taped_u := h_mo_taped.2
  have h_mo_p_l := h_mo_p.1
  have h_mo_p_u := h_mo_p.2
  have h_mo_fault_l := h_mo_fault.1
  have h_mo_fault_u := h_mo_fault.2
  have h_mo_slot_l := h_mo_slot.1
  have h_mo_slot_u := h_mo_slot.2
  have h_mo_rules_l := h_mo_rules.1
  have h_mo_rules_u := h_mo_rules.2
  have h_mo_entries_l := h_mo_entries.1
  have h_mo_entries_u := h_mo_entries.2
  have h_mo_counted_l := h_mo_counted.1
  have h_mo_counted_u := h_mo_counted.2
  have h_mo_opened_l := h_mo_opened.1
  have h_mo_opened_u := h_mo_opened.2
  have h_mo_words_l := h_mo_words.1
  have h_mo_words_u := h_mo_words.2
  have h_mo_pastMany_l := h_mo_pastMany.1
  have h_mo_pastMany_u := h_mo_pastMany.2
  have h_mo_pastAt_l := h_mo_pastAt.1
  have h_mo_pastAt_u := h_mo_pastAt.2
  have h_mo_takesBack_l := h_mo_takesBack.1
  have h_mo_takesBack_u := h_mo_takesBack.2
  have h_mo_imageAt_l := h_mo_imageAt.1
  have h_mo_imageAt_u := h_mo_imageAt.2
  have h_mo_goesBack_l := h_mo_goesBack.1
  have h_mo_goesBack_u := h_mo_goesBack.2
  have h_mo_n0_l := h_mo_n0.1
  have h_mo_n0_u := h_mo_n0.2
  have h_mo_n1_l := h_mo_n1.1
  have h_mo_n1_u := h_mo_n1.2
  have h_mo_n2_l := h_mo_n2.1
  have h_mo_n2_u := h_mo_n2.2
  have h_mo_n3_l := h_mo_n3.1
  have h_mo_n3_u := h_mo_n3.2
  refine CtV.mk (cc := cX9_sitterPart) (maxL := 5) (ret := none) (by decide) rfl (Nat.le_of_ble_eq_true rfl) ?_
  intro p e s m below meth c A ls E hP hD hS hl
  obtain ⟨hx, hb, hr, hml, hown, hts, hlocks, hin, hG, hA⟩ := E
  have hown : s.vm.findClass RX9 = some m.cls := hown
  have in9 : ∀ w ∈ u_ws RX9 TX9 53, w ∈ wsX9_sitterPart := fun _ h => List.mem_cons_of_mem _ (List.mem_append_right _ h)
  have hl : lv_has ls 5 [(0, .ref mo)] := hl
  refine lv_aload_n hx hb dX9_sitterPart_0 rfl (lv_at hl 0 rfl) ?_
  refine hc_Vv (As := []) (rest := []) (n := 0) (wr := [(mo_anewCane, hcI k 4 mo_rnewCane), (mo_anewHeight, hcI k 8 mo_rnewHeight), (mo_anewStrand, hcI k 8 mo_rnewStrand), (mo_anewChair, hcI k 8 mo_rnewChair), (mo_anewWeight, hcI k 8 mo_rnewWeight), (mo_anewScalar, hcI k 4 (sc4 mo_n0 mo_n1 mo_n2 mo_n3))]) hx hb hml hown hts hG hA hP hD hS hl.1 [0, 6] [1, 2, 3, 4, 5, 7] (i_X9_blanks l D k _ mo mo_thrown mo_ascalar mo_acane mo_ais mo_astrandOf mo_aweight mo_aheight mo_achairOf mo_anoteMinute mo_anoteWho mo_anoteIs mo_atoldCane mo_anewScalar mo_anewCane mo_anewHeight mo_anewStrand mo_anewChair mo_anewWeight mo_taped mo_p mo_fault mo_slot mo_rules mo_entries mo_deep mo_counted mo_opened mo_words mo_atape mo_asort mo_anumber mo_aclauses mo_asumAt mo_atestAt mo_aendAt mo_aopen mo_aasked mo_astack mo_amust mo_apast mo_apastOf mo_pastMany mo_pastAt mo_takesBack mo_acanRise mo_afirstHas mo_asecondHas mo_alay mo_ashows mo_aimages mo_aisMade mo_imageAt mo_goesBack mo_rtape ⟨by omega, by omega⟩ ⟨by omega, by omega⟩ ⟨by omega, by omega⟩ ⟨by omega, by omega⟩ ⟨by omega, by omega⟩ ⟨by omega, by omega⟩ ⟨by omega, by omega⟩ ⟨by omega, by omega⟩ ⟨by omega, by omega⟩ ⟨by omega, by omega⟩ ⟨by omega, by omega⟩ ⟨by omega, by omega⟩ ⟨by omega, by omega⟩ ⟨by omega, by omega⟩) (ci := 7) (q0 := 0) rfl rfl gX9_sitterPart_X9_blanks rfl ⟨rfl, rfl, Nat.le_of_ble_eq_true rfl, Nat.le_of_ble_eq_true rfl⟩ (by decide +kernel) rfl rfl ⟨by decide, by decide, by decide⟩ ⟨rfl, rfl, Nat.le_of_ble_eq_true rfl, Nat.le_of_ble_eq_true rfl, Nat.le_of_ble_eq_true rfl⟩ dX9_sitterPart_1 (fun u1 H locs hw hP hD hS => ?_)
  obtain ⟨w3, rfl⟩ : ∃ z, z = u1 := ⟨_, rfl⟩
  have hP : va_P D vwCl ([(mo_anewCane, hcI k 4 mo_rnewCane), (mo_anewHeight, hcI k 8 mo_rnewHeight), (mo_anewStrand, hcI k 8 mo_rnewStrand), (mo_anewChair, hcI k 8 mo_rnewChair), (mo_anewWeight, hcI k 8 mo_rnewWeight), (mo_anewScalar, hcI k 4 (sc4 mo_n0 mo_n1 mo_n2 mo_n3)), (mo, .inr (7, [.int mo_thrown, .ref mo_ascalar, .ref mo_acane, .ref mo_ais, .ref mo_astrandOf, .ref mo_aweight, .ref mo_aheight, .ref mo_achairOf, .ref mo_anoteMinute, .ref mo_anoteWho, .ref mo_anoteIs, .ref mo_atoldCane, .ref mo_anewScalar, .ref mo_anewCane, .ref mo_anewHeight, .ref mo_anewStrand, .ref mo_anewChair, .ref mo_anewWeight, .int mo_taped, .int w3, .int mo_fault, .int mo_slot, .int mo_rules, .int mo_entries, .int mo_deep, .int mo_counted, .int mo_opened, .int mo_words, .ref mo_atape, .ref mo_asort, .ref mo_anumber, .ref mo_aclauses, .ref mo_asumAt, .ref mo_atestAt, .ref mo_aendAt, .ref mo_aopen, .ref mo_aasked, .ref mo_astack, .ref mo_amust, .ref mo_apast, .ref mo_apastOf, .int mo_pastMany, .int mo_pastAt, .int mo_takesBack, .ref mo_acanRise, .ref mo_afirstHas, .ref mo_asecondHas, .ref mo_alay, .ref mo_ashows, .ref mo_aimages, .ref mo_aisMade, .int mo_imageAt, .int mo_goesBack])), (mo_atape, hcY k 400 mo_rtape)]) H := hP
  have hD : va_D A ([(mo_anewCane, hcI k 4 mo_rnewCane), (mo_anewHeight, hcI k 8 mo_rnewHeight), (mo_anewStrand, hcI k 8 mo_rnewStrand), (mo_anewChair, hcI k 8 mo_rnewChair), (mo_anewWeight, hcI k 8 mo_rnewWeight), (mo_anewScalar, hcI k 4 (sc4 mo_n0 mo_n1 mo_n2 mo_n3)), (mo, .inr (7, [.int mo_thrown, .ref mo_ascalar, .ref mo_acane, .ref mo_ais, .ref mo_astrandOf, .ref mo_aweight, .ref mo_aheight, .ref mo_achairOf, .ref mo_anoteMinute, .ref mo_anoteWho, .ref mo_anoteIs, .ref mo_atoldCane, .ref mo_anewScalar, .ref mo_anewCane, .ref mo_anewHeight, .ref mo_anewStrand, .ref mo_anewChair, .ref mo_anewWeight, .int mo_taped, .int w3, .int mo_fault, .int mo_slot, .int mo_rules, .int mo_entries, .int mo_deep, .int mo_counted, .int mo_opened, .int mo_words, .ref mo_atape, .ref mo_asort, .ref mo_anumber, .ref mo_aclauses, .ref mo_asumAt, .ref mo_atestAt, .ref mo_aendAt, .ref mo_aopen, .ref mo_aasked, .ref mo_astack, .ref mo_amust, .ref mo_apast, .ref mo_apastOf, .int mo_pastMany, .int mo_pastAt, .int mo_takesBack, .ref mo_acanRise, .ref mo_afirstHas, .ref mo_asecondHas, .ref mo_alay, .ref mo_ashows, .ref mo_aimages, .ref mo_aisMade, .int mo_imageAt, .int mo_goesBack])), (mo_atape, hcY k 400 mo_rtape)]) := hD
  obtain ⟨bw3, rel4⟩ := hw
  have bw3 : iv (0) (402) w3 := bw3
  have bw3_l := bw3.1
  have bw3_u := bw3.2
  try dsimp only at rel4
  refine lv_aload_n hx hb dX9_sitterPart_4 rfl (lv_at hl 0 rfl) ?_
  refine va_get (D := D) (ci := 7) (v := .int w3) (C := RX9) (T := TX9) (N := 53) hx hb hts in9 hown hG.1 hP 6 rfl rfl 19 (by decide) (hts (.fieldLink RX9 164 "ChairCaneModel" "p" "I") (by decide +kernel)) (fun _ h9 => h9) rfl dX9_sitterPart_5 ?_
  refine lv_istore_n (lv' := [(1, .int w3), (0, .ref mo)]) hx hb dX9_sitterPart_8 rfl hl (by decide) rfl (fun ls hl => ?_)
  refine lv_aload_n hx hb dX9_sitterPart_9 rfl (lv_at hl 1 rfl) ?_
  refine lv_iconst (v := 0) hx hb dX9_sitterPart_10 (by decide) ?_
  refine lv_aload_n hx hb dX9_sitterPart_11 rfl (lv_at hl 1 rfl) ?_
  refine va_get (D := D) (ci := 7) (v := .ref mo_anewScalar) (C := RX9) (T := TX9) (N := 53) hx hb hts in9 hown hG.1 hP 6 rfl rfl 12 (by decide) (hts (.fieldLink RX9 43 "ChairCaneModel" "newScalar" "[I") (by decide +kernel)) (fun _ h9 => h9) rfl dX9_sitterPart_12 ?_
  refine lv_iconst (v := 2) hx hb dX9_sitterPart_15 (by decide) ?_
  refine va_iald hx hb hG.1 hP 5 0 rfl rfl (by unfold vp_in; decide) dX9_sitterPart_16 ?_
  refine hc_is (z := mo_n2) (by rw [show Int32.toNatClampNeg 2 = 2 from by decide]; rfl) ?_
  refine lv_iconst (v := 1) hx hb dX9_sitterPart_17 (by decide) ?_
  refine lv_isub hx hb dX9_sitterPart_18 ?_
  refine lv_topi (fun z5 ez5 => ?_)
  have tz5 : z5.toInt = mo_n2.toInt - 1 := ai_sub rfl (by decide) ez5 (by omega) (by omega)
  have ql6 : (0 : Int32).toInt = 0 := by decide
  refine hc_Vi (As := [.int 0, .int z5]) (rest := []) (n := 2) (wr := [(mo_anewCane, hcI k 4 mo_rnewCane), (mo_anewHeight, hcI k 8 mo_rnewHeight), (mo_anewStrand, hcI k 8 mo_rnewStrand), (mo_anewChair, hcI k 8 mo_rnewChair), (mo_anewWeight, hcI k 8 mo_rnewWeight), (mo_anewScalar, hcI k 4 (sc4 mo_n0 mo_n1 mo_n2 mo_n3))]) hx hb hml hown hts hG hA hP hD hS hl.1 [6, 7] [0, 1, 2, 3, 4, 5] (i_X9_amount l D k _ 0 z5 mo mo_thrown mo_ascalar mo_acane mo_ais mo_astrandOf mo_aweight mo_aheight mo_achairOf mo_anoteMinute mo_anoteWho mo_anoteIs mo_atoldCane mo_anewScalar mo_anewCane mo_anewHeight mo_anewStrand mo_anewChair mo_anewWeight mo_taped w3 mo_fault mo_slot mo_rules mo_entries mo_deep mo_counted mo_opened mo_words mo_atape mo_asort mo_anumber mo_aclauses mo_asumAt mo_atestAt mo_aendAt mo_aopen mo_aasked mo_astack mo_amust mo_apast mo_apastOf mo_pastMany mo_pastAt mo_takesBack mo_acanRise mo_afirstHas mo_asecondHas mo_alay mo_ashows mo_aimages mo_aisMade mo_imageAt mo_goesBack mo_rtape ⟨by omega, by omega⟩ ⟨by omega, by omega⟩ ⟨by omega, by omega⟩ ⟨by omega, by omega⟩ ⟨by omega, by omega⟩ ⟨by omega, by omega⟩ ⟨by omega, by omega⟩ ⟨by omega, by omega⟩ ⟨by omega, by omega⟩ ⟨by omega, by omega⟩ ⟨by omega, by omega⟩ ⟨by omega, by omega⟩ ⟨by omega, by omega⟩ ⟨by omega, by omega⟩ (by omega)) (ci := 7) (q0 := 6) rfl rfl gX9_sitterPart_X9_amount rfl ⟨rfl, rfl, Nat.le_of_ble_eq_true rfl, Nat.le_of_ble_eq_true rfl⟩ (by decide +kernel) rfl rfl ⟨by decide, by decide, by decide⟩ ⟨rfl, rfl, Nat.le_of_ble_eq_true rfl, Nat.le_of_ble_eq_true rfl, Nat.le_of_ble_eq_true rfl⟩ dX9_sitterPart_19 (fun r8 u7 H locs hw hP hD hS => ?_)
  obtain ⟨w9, w10⟩ := u7
  have hP : va_P D vwCl ([(mo_anewCane, hcI k 4 mo_rnewCane), (mo_anewHeight, hcI k 8 mo_rnewHeight), (mo_anewStrand, hcI k 8 mo_rnewStrand), (mo_anewChair, hcI k 8 mo_rnewChair), (mo_anewWeight, hcI k 8 mo_rnewWeight), (mo_anewScalar, hcI k 4 (sc4 mo_n0 mo_n1 mo_n2 mo_n3)), (mo, .inr (7, [.int mo_thrown, .ref mo_ascalar, .ref mo_acane, .ref mo_ais, .ref mo_astrandOf, .ref mo_aweight, .ref mo_aheight, .ref mo_achairOf, .ref mo_anoteMinute, .ref mo_anoteWho, .ref mo_anoteIs, .ref mo_atoldCane, .ref mo_anewScalar, .ref mo_anewCane, .ref mo_anewHeight, .ref mo_anewStrand, .ref mo_anewChair, .ref mo_anewWeight, .int mo_taped, .int w9, .int w10, .int mo_slot, .int mo_rules, .int mo_entries, .int mo_deep, .int mo_counted, .int mo_opened, .int mo_words, .ref mo_atape, .ref mo_asort, .ref mo_anumber, .ref mo_aclauses, .ref mo_asumAt, .ref mo_atestAt, .ref mo_aendAt, .ref mo_aopen, .ref mo_aasked, .ref mo_astack, .ref mo_amust, .ref mo_apast, .ref mo_apastOf, .int mo_pastMany, .int mo_pastAt, .int mo_takesBack, .ref mo_acanRise, .ref mo_afirstHas, .ref mo_asecondHas, .ref mo_alay, .ref mo_ashows, .ref mo_aimages, .ref mo_aisMade, .int mo_imageAt, .int mo_goesBack])), (mo_atape, hcY k 400 mo_rtape)]) H := hP
  have hD : va_D A ([(mo_anewCane, hcI k 4 mo_rnewCane), (mo_anewHeight, hcI k 8 mo_rnewHeight), (mo_anewStrand, hcI k 8 mo_rnewStrand), (mo_anewChair, hcI k 8 mo_rnewChair), (mo_anewWeight, hcI k 8 mo_rnewWeight), (mo_anewScalar, hcI k 4 (sc4 mo_n0 mo_n1 mo_n2 mo_n3)), (mo, .inr (7, [.int mo_thrown, .ref mo_ascalar, .ref mo_acane, .ref mo_ais, .ref mo_astrandOf, .ref mo_aweight, .ref mo_aheight, .ref mo_achairOf, .ref mo_anoteMinute, .ref mo_anoteWho, .ref mo_anoteIs, .ref mo_atoldCane, .ref mo_anewScalar, .ref mo_anewCane, .ref mo_anewHeight, .ref mo_anewStrand, .ref mo_anewChair, .ref mo_anewWeight, .int mo_taped, .int w9, .int w10, .int mo_slot, .int mo_rules, .int mo_entries, .int mo_deep, .int mo_counted, .int mo_opened, .int mo_words, .ref mo_atape, .ref mo_asort, .ref mo_anumber, .ref mo_aclauses, .ref mo_asumAt, .ref mo_atestAt, .ref mo_aendAt, .ref mo_aopen, .ref mo_aasked, .ref mo_astack, .ref mo_amust, .ref mo_apast, .ref mo_apastOf, .int mo_pastMany, .int mo_pastAt, .int mo_takesBack, .ref mo_acanRise, .ref mo_afirstHas, .ref mo_asecondHas, .ref mo_alay, .ref mo_ashows, .ref mo_aimages, .ref mo_aisMade, .int mo_imageAt, .int mo_goesBack])), (mo_atape, hcY k 400 mo_rtape)]) := hD
  have ql12 : (0 : Int32).toInt = 0 := by decide
  obtain ⟨bw9, bw10, rel11⟩ := hw
  have bw9 : iv (0) (402) w9 := bw9
  have bw9_l := bw9.1
  have bw9_u := bw9.2
  have bw10 : iv (0) (4000) w10 := bw10
  have bw10_l := bw10.1
  have bw10_u := bw10.2
  try dsimp only at rel11
  have hh13 : NHall w10 mo_n2 mo_n3 mo_rnewStrand mo_rnewChair mo_rnewWeight := NHall.F hh_NHall (by omega)
  refine lv_istore_n (lv' := [(2, .int r8), (1, .int w3), (0, .ref mo)]) hx hb dX9_sitterPart_22 rfl hl (by decide) rfl (fun ls hl => ?_)
  refine lv_aload_n hx hb dX9_sitterPart_23 rfl (lv_at hl 2 rfl) ?_
  refine va_get (D := D) (ci := 7) (v := .ref mo_anewScalar) (C := RX9) (T := TX9) (N := 53) hx hb hts in9 hown hG.1 hP 6 rfl rfl 12 (by decide) (hts (.fieldLink RX9 43 "ChairCaneModel" "newScalar" "[I") (by decide +kernel)) (fun _ h9 => h9) rfl dX9_sitterPart_24 ?_
  refine lv_iconst (v := 3) hx hb dX9_sitterPart_27 (by decide) ?_
  refine va_iald hx hb hG.1 hP 5 0 rfl rfl (by unfold vp_in; decide) dX9_sitterPart_28 ?_
  refine hc_is (z := mo_n3) (by rw [show Int32.toNatClampNeg 3 = 3 from by decide]; rfl) ?_
  refine lv_istore_n (lv' := [(3, .int mo_n3), (2, .int r8), (1, .int w3), (0, .ref mo)]) hx hb dX9_sitterPart_29 rfl hl (by decide) rfl (fun ls hl => ?_)
  refine lv_iconst (v := 0) hx hb dX9_sitterPart_30 (by decide) ?_
  refine lv_istore (lv' := [(4, .int 0), (3, .int mo_n3), (2, .int r8), (1, .int w3), (0, .ref mo)]) hx hb dX9_sitterPart_31 hl (by decide) rfl (fun ls hl => ?_)
  have loop14 : ∀ (fu : Nat) (L4_14 : Int32) (K20_14mo : Int32), iv (0) (8) L4_14 → iv (0) (4000) K20_14mo → L4_14.toInt ≤ mo_n3.toInt → (K20_14mo.toInt = 0 → ∀ j : Nat, (j : Int) < L4_14.toInt → (mo_rnewChair j).toInt ≠ r8.toInt) → (K20_14mo.toInt = 0 → w10.toInt = 0) → NHall K20_14mo mo_n2 mo_n3 mo_rnewStrand mo_rnewChair mo_rnewWeight → 9 - L4_14.toInt < (fu : Int) → ∀ (H : Heap) (locs : List Loc) (ls : Array Slot), va_P D vwCl ([(mo_anewCane, hcI k 4 mo_rnewCane), (mo_anewHeight, hcI k 8 mo_rnewHeight), (mo_anewStrand, hcI k 8 mo_rnewStrand), (mo_anewChair, hcI k 8 mo_rnewChair), (mo_anewWeight, hcI k 8 mo_rnewWeight), (mo_anewScalar, hcI k 4 (sc4 mo_n0 mo_n1 mo_n2 mo_n3)), (mo, .inr (7, [.int mo_thrown, .ref mo_ascalar, .ref mo_acane, .ref mo_ais, .ref mo_astrandOf, .ref mo_aweight, .ref mo_aheight, .ref mo_achairOf, .ref mo_anoteMinute, .ref mo_anoteWho, .ref mo_anoteIs, .ref mo_atoldCane, .ref mo_anewScalar, .ref mo_anewCane, .ref mo_anewHeight, .ref mo_anewStrand, .ref mo_anewChair, .ref mo_anewWeight, .int mo_taped, .int w9, .int K20_14mo, .int mo_slot, .int mo_rules, .int mo_entries, .int mo_deep, .int mo_counted, .int mo_opened, .int mo_words, .ref mo_atape, .ref mo_asort, .ref mo_anumber, .ref mo_aclauses, .ref mo_asumAt, .ref mo_atestAt, .ref mo_aendAt, .ref mo_aopen, .ref mo_aasked, .ref mo_astack, .ref mo_amust, .ref mo_apast, .ref mo_apastOf, .int mo_pastMany, .int mo_pastAt, .int mo_takesBack, .ref mo_acanRise, .ref mo_afirstHas, .ref mo_asecondHas, .ref mo_alay, .ref mo_ashows, .ref mo_aimages, .ref mo_aisMade, .int mo_imageAt, .int mo_goesBack])), (mo_atape, hcY k 400 mo_rtape)]) H → va_D A ([(mo_anewCane, hcI k 4 mo_rnewCane), (mo_anewHeight, hcI k 8 mo_rnewHeight), (mo_anewStrand, hcI k 8 mo_rnewStrand), (mo_anewChair, hcI k 8 mo_rnewChair), (mo_anewWeight, hcI k 8 mo_rnewWeight), (mo_anewScalar, hcI k 4 (sc4 mo_n0 mo_n1 mo_n2 mo_n3)), (mo, .inr (7, [.int mo_thrown, .ref mo_ascalar, .ref mo_acane, .ref mo_ais, .ref mo_astrandOf, .ref mo_aweight, .ref mo_aheight, .ref mo_achairOf, .ref mo_anoteMinute, .ref mo_anoteWho, .ref mo_anoteIs, .ref mo_atoldCane, .ref mo_anewScalar, .ref mo_anewCane, .ref mo_anewHeight, .ref mo_anewStrand, .ref mo_anewChair, .ref mo_anewWeight, .int mo_taped, .int w9, .int K20_14mo, .int mo_slot, .int mo_rules, .int mo_entries, .int mo_deep, .int mo_counted, .int mo_opened, .int mo_words, .ref mo_atape, .ref mo_asort, .ref mo_anumber, .ref mo_aclauses, .ref mo_asumAt, .ref mo_atestAt, .ref mo_aendAt, .ref mo_aopen, .ref mo_aasked, .ref mo_astack, .ref mo_amust, .ref mo_apast, .ref mo_apastOf, .int mo_pastMany, .int mo_pastAt, .int mo_takesBack, .ref mo_acanRise, .ref mo_afirstHas, .ref mo_asecondHas, .ref mo_alay, .ref mo_ashows, .ref mo_aimages, .ref mo_aisMade, .int mo_imageAt, .int mo_goesBack])), (mo_atape, hcY k 400 mo_rtape)]) → va_S A s.heap H locs → lv_has ls 5 [(4, .int L4_14), (3, .int mo_n3), (2, .int r8), (1, .int w3), (0, .ref mo)] → W p l e (rmK 5 0 0) s m (List.toArray [.ref mo]) below meth c H locs 0 0 (MQ below (va_Qv (fun u : (Int32) × (Int32) × (Nat → Int32) × (Nat → Int32) × (Int32) => iv (0) (402) (u.1) ∧ iv (0) (4000) (u.2.1) ∧ rowIn (0) (7) (u.2.2.1) ∧ rowIn (0) (20) (u.2.2.2.1) ∧ iv (0) (8) (u.2.2.2.2) ∧ (mo_p.toInt ≤ (u.1).toInt ∧ (u.1).toInt ≤ mo_taped.toInt ∧ ((u.2.1).toInt ≠ 0 ∨ mo_fault.toInt = 0)) ∧ (NHall (u.2.1) mo_n2 (u.2.2.2.2) mo_rnewStrand (u.2.2.1) (u.2.2.2.1))) (hcB D (fun u : (Int32) × (Int32) × (Nat → Int32) × (Nat → Int32) × (Int32) => [(mo, .inr (7, [.int mo_thrown, .ref mo_ascalar, .ref mo_acane, .ref mo_ais, .ref mo_astrandOf, .ref mo_aweight, .ref mo_aheight, .ref mo_achairOf, .ref mo_anoteMinute, .ref mo_anoteWho, .ref mo_anoteIs, .ref mo_atoldCane, .ref mo_anewScalar, .ref mo_anewCane, .ref mo_anewHeight, .ref mo_anewStrand, .ref mo_anewChair, .ref mo_anewWeight, .int mo_taped, .int (u.1), .int (u.2.1), .int mo_slot, .int mo_rules, .int mo_entries, .int mo_deep, .int mo_counted, .int mo_opened, .int mo_words, .ref mo_atape, .ref mo_asort, .ref mo_anumber, .ref mo_aclauses, .ref mo_asumAt, .ref mo_atestAt, .ref mo_aendAt, .ref mo_aopen, .ref mo_aasked, .ref mo_astack, .ref mo_amust, .ref mo_apast, .ref mo_apastOf, .int mo_pastMany, .int mo_pastAt, .int mo_takesBack, .ref mo_acanRise, .ref mo_afirstHas, .ref mo_asecondHas, .ref mo_alay, .ref mo_ashows, .ref mo_aimages, .ref mo_aisMade, .int mo_imageAt, .int mo_goesBack])), (mo_anewCane, hcI k 4 mo_rnewCane), (mo_anewHeight, hcI k 8 mo_rnewHeight), (mo_anewStrand, hcI k 8 mo_rnewStrand), (mo_anewChair, hcI k 8 (u.2.2.1)), (mo_anewWeight, hcI k 8 (u.2.2.2.1)), (mo_atape, hcY k 400 mo_rtape), (mo_anewScalar, hcI k 4 (sc4 mo_n0 mo_n1 mo_n2 (u.2.2.2.2)))]) A) A) (List.toArray [.ref mo]) s 0 0 A) (F0 m 33 ls []) := by
    intro fu
    induction fu with
    | zero =>
      intro L4_14 K20_14mo bL4_14 bK20_14mo hI1_14 hp1_14 hp2_14 hh14_NHall hm
      have bL4_14_l := bL4_14.1
      have bL4_14_u := bL4_14.2
      have bK20_14mo_l := bK20_14mo.1
      have bK20_14mo_u := bK20_14mo.2
      exact absurd hm (by omega)
    | succ fu ih14 =>
      intro L4_14 K20_14mo bL4_14 bK20_14mo hI1_14 hp1_14 hp2_14 hh14_NHall hm H locs ls hP hD hS hl
      have bL4_14_l := bL4_14.1
      have bL4_14_u := bL4_14.2
      have bK20_14mo_l := bK20_14mo.1
      have bK20_14mo_u := bK20_14mo.2
      refine lv_iload hx hb dX9_sitterPart_33 (lv_at hl 0 rfl) ?_
      refine lv_iload_n hx hb dX9_sitterPart_35 rfl (lv_at hl 1 rfl) ?_
      refine lv_icmp_ge (tgt := 69) hx hb dX9_sitterPart_36 (by decide) (fun c15 => ?_) (fun c15 => ?_)
      · have fc15 := cx_ge_t (a := L4_14.toInt) (b := mo_n3.toInt) rfl rfl c15
        refine lv_aload_n hx hb dX9_sitterPart_69 rfl (lv_at hl 4 rfl) ?_
        refine lv_iconst (v := 1) hx hb dX9_sitterPart_70 (by decide) ?_
        refine lv_bipush (v := 20) hx hb dX9_sitterPart_71 (by decide) ?_
        have ql16 : (1 : Int32).toInt = 1 := by decide
        have ql17 : (20 : Int32).toInt = 20 := by decide
        refine hc_Vi (As := [.int 1, .int 20]) (rest := []) (n := 2) (wr := [(mo_anewCane, hcI k 4 mo_rnewCane), (mo_anewHeight, hcI k 8 mo_rnewHeight), (mo_anewStrand, hcI k 8 mo_rnewStrand), (mo_anewChair, hcI k 8 mo_rnewChair), (mo_anewWeight, hcI k 8 mo_rnewWeight), (mo_anewScalar, hcI k 4 (sc4 mo_n0 mo_n1 mo_n2 mo_n3))]) hx hb hml hown hts hG hA hP hD hS hl.1 [6, 7] [0, 1, 2, 3, 4, 5] (i_X9_amount l D k _ 1 20 mo mo_thrown mo_ascalar mo_acane mo_ais mo_astrandOf mo_aweight mo_aheight mo_achairOf mo_anoteMinute mo_anoteWho mo_anoteIs mo_atoldCane mo_anewScalar mo_anewCane mo_anewHeight mo_anewStrand mo_anewChair mo_anewWeight mo_taped w9 K20_14mo mo_slot mo_rules mo_entries mo_deep mo_counted mo_opened mo_words mo_atape mo_asort mo_anumber mo_aclauses mo_asumAt mo_atestAt mo_aendAt mo_aopen mo_aasked mo_astack mo_amust mo_apast mo_apastOf mo_pastMany mo_pastAt mo_takesBack mo_acanRise mo_afirstHas mo_asecondHas mo_alay mo_ashows mo_aimages mo_aisMade mo_imageAt mo_goesBack mo_rtape ⟨by omega, by omega⟩ ⟨by omega, by omega⟩ ⟨by omega, by omega⟩ ⟨by omega, by omega⟩ ⟨by omega, by omega⟩ ⟨by omega, by omega⟩ ⟨by omega, by omega⟩ ⟨by omega, by omega⟩ ⟨by omega, by omega⟩ ⟨by omega, by omega⟩ ⟨by omega, by omega⟩ ⟨by omega, by omega⟩ ⟨by omega, by omega⟩ ⟨by omega, by omega⟩ (by omega)) (ci := 7) (q0 := 6) rfl rfl gX9_sitterPart_X9_amount rfl ⟨rfl, rfl, Nat.le_of_ble_eq_true rfl, Nat.le_of_ble_eq_true rfl⟩ (by decide +kernel) rfl rfl ⟨by decide, by decide, by decide⟩ ⟨rfl, rfl, Nat.le_of_ble_eq_true rfl, Nat.le_of_ble_eq_true rfl, Nat.le_of_ble_eq_true rfl⟩ dX9_sitterPart_73 (fun r19 u18 H locs hw hP hD hS => ?_)
        obtain ⟨w20, w21⟩ := u18
        have hP : va_P D vwCl ([(mo_anewCane, hcI k 4 mo_rnewCane), (mo_anewHeight, hcI k 8 mo_rnewHeight), (mo_anewStrand, hcI k 8 mo_rnewStrand), (mo_anewChair, hcI k 8 mo_rnewChair), (mo_anewWeight, hcI k 8 mo_rnewWeight), (mo_anewScalar, hcI k 4 (sc4 mo_n0 mo_n1 mo_n2 mo_n3)), (mo, .inr (7, [.int mo_thrown, .ref mo_ascalar, .ref mo_acane, .ref mo_ais, .ref mo_astrandOf, .ref mo_aweight, .ref mo_aheight, .ref mo_achairOf, .ref mo_anoteMinute, .ref mo_anoteWho, .ref mo_anoteIs, .ref mo_atoldCane, .ref mo_anewScalar, .ref mo_anewCane, .ref mo_anewHeight, .ref mo_anewStrand, .ref mo_anewChair, .ref mo_anewWeight, .int mo_taped, .int w20, .int w21, .int mo_slot, .int mo_rules, .int mo_entries, .int mo_deep, .int mo_counted, .int mo_opened, .int mo_words, .ref mo_atape, .ref mo_asort, .ref mo_anumber, .ref mo_aclauses, .ref mo_asumAt, .ref mo_atestAt, .ref mo_aendAt, .ref mo_aopen, .ref mo_aasked, .ref mo_astack, .ref mo_amust, .ref mo_apast, .ref mo_apastOf, .int mo_pastMany, .int mo_pastAt, .int mo_takesBack, .ref mo_acanRise, .ref mo_afirstHas, .ref mo_asecondHas, .ref mo_alay, .ref mo_ashows, .ref mo_aimages, .ref mo_aisMade, .int mo_imageAt, .int mo_goesBack])), (mo_atape, hcY k 400 mo_rtape)]) H := hP
        have hD : va_D A ([(mo_anewCane, hcI k 4 mo_rnewCane), (mo_anewHeight, hcI k 8 mo_rnewHeight), (mo_anewStrand, hcI k 8 mo_rnewStrand), (mo_anewChair, hcI k 8 mo_rnewChair), (mo_anewWeight, hcI k 8 mo_rnewWeight), (mo_anewScalar, hcI k 4 (sc4 mo_n0 mo_n1 mo_n2 mo_n3)), (mo, .inr (7, [.int mo_thrown, .ref mo_ascalar, .ref mo_acane, .ref mo_ais, .ref mo_astrandOf, .ref mo_aweight, .ref mo_aheight, .ref mo_achairOf, .ref mo_anoteMinute, .ref mo_anoteWho, .ref mo_anoteIs, .ref mo_atoldCane, .ref mo_anewScalar, .ref mo_anewCane, .ref mo_anewHeight, .ref mo_anewStrand, .ref mo_anewChair, .ref mo_anewWeight, .int mo_taped, .int w20, .int w21, .int mo_slot, .int mo_rules, .int mo_entries, .int mo_deep, .int mo_counted, .int mo_opened, .int mo_words, .ref mo_atape, .ref mo_asort, .ref mo_anumber, .ref mo_aclauses, .ref mo_asumAt, .ref mo_atestAt, .ref mo_aendAt, .ref mo_aopen, .ref mo_aasked, .ref mo_astack, .ref mo_amust, .ref mo_apast, .ref mo_apastOf, .int mo_pastMany, .int mo_pastAt, .int mo_takesBack, .ref mo_acanRise, .ref mo_afirstHas, .ref mo_asecondHas, .ref mo_alay, .ref mo_ashows, .ref mo_aimages, .ref mo_aisMade, .int mo_imageAt, .int mo_goesBack])), (mo_atape, hcY k 400 mo_rtape)]) := hD
        have ql23 : (1 : Int32).toInt = 1 := by decide
        have ql24 : (20 : Int32).toInt = 20 := by decide
        obtain ⟨bw20, bw21, rel22⟩ := hw
        have bw20 : iv (0) (402) w20 := bw20
        have bw20_l := bw20.1
        have bw20_u := bw20.2
        have bw21 : iv (0) (4000) w21 := bw21
        have bw21_l := bw21.1
        have bw21_u := bw21.2
        try dsimp only at rel22
        have hh25 : NHall w21 mo_n2 mo_n3 mo_rnewStrand mo_rnewChair mo_rnewWeight := NHall.F hh14_NHall (by omega)
        refine lv_istore (lv' := [(4, .int r19), (3, .int mo_n3), (2, .int r8), (1, .int w3), (0, .ref mo)]) hx hb dX9_sitterPart_76 hl (by decide) rfl (fun ls hl => ?_)
        refine lv_aload_n hx hb dX9_sitterPart_78 rfl (lv_at hl 4 rfl) ?_
        refine va_get (D := D) (ci := 7) (v := .int w21) (C := RX9) (T := TX9) (N := 53) hx hb hts in9 hown hG.1 hP 6 rfl rfl 20 (by decide) (hts (.fieldLink RX9 161 "ChairCaneModel" "fault" "I") (by decide +kernel)) (fun _ h9 => h9) rfl dX9_sitterPart_79 ?_
        refine lv_if_ne (tgt := 110) hx hb dX9_sitterPart_82 (by decide) (fun c26 => ?_) (fun c26 => ?_)
        · have fc26 := cx_ne_t (a := w21.toInt) (b := 0) rfl (by decide) c26
          exact hc_endV hx hb hr hlocks (w20, w21, mo_rnewChair, mo_rnewWeight, mo_n3) ⟨(show iv (0) (402) w20 from ⟨by omega, by omega⟩), (show iv (0) (4000) w21 from ⟨by omega, by omega⟩), h_mo_rnewChair, h_mo_rnewWeight, (show iv (0) (8) mo_n3 from ⟨by omega, by omega⟩), (by (try dsimp only); omega), hh25⟩ (hP.sub [6, 0, 1, 2, 3, 4, 7, 5] rfl) (hD.sub [6, 0, 1, 2, 3, 4, 7, 5] (by decide) rfl) hS dX9_sitterPart_110
        · have fc26 := cx_ne_f (a := w21.toInt) (b := 0) rfl (by decide) c26
          have hn9 := hp1_14 (by omega)
          have hf9 := hp2_14 (by omega)
          have ht9 : ∀ j : Nat, (j : Int) < mo_n3.toInt → (mo_rnewChair j).toInt ≠ r8.toInt := fun j hj => hn9 j (by omega)
          have hroom := NHall.room hh_NHall (by omega) h_mo_rnewChair (by omega) (c := r8) ⟨by omega, by omega⟩ ht9
          refine lv_aload_n hx hb dX9_sitterPart_85 rfl (lv_at hl 4 rfl) ?_
          refine va_get (D := D) (ci := 7) (v := .ref mo_anewChair) (C := RX9) (T := TX9) (N := 53) hx hb hts in9 hown hG.1 hP 6 rfl rfl 16 (by decide) (hts (.fieldLink RX9 55 "ChairCaneModel" "newChair" "[I") (by decide +kernel)) (fun _ h9 => h9) rfl dX9_sitterPart_86 ?_
          refine lv_iload_n hx hb dX9_sitterPart_89 rfl (lv_at hl 1 rfl) ?_
          refine lv_iload_n hx hb dX9_sitterPart_90 rfl (lv_at hl 2 rfl) ?_
          refine va_iast hx hb hG.1 hP hD hS 3 0 rfl rfl (vp_in_iff.mpr ⟨by omega, by omega⟩) dX9_sitterPart_91 (fun H locs hP hD hS => ?_)
          obtain ⟨f27, ef27⟩ : ∃ f, f = upd mo_rnewChair (Int32.toNatClampNeg mo_n3) (r8) := ⟨_, rfl⟩
          rw [← ef27] at hP hD
          have h_f27 : rowIn (0) (7) f27 := by rw [ef27]; exact row_upd h_mo_rnewChair ⟨by omega, by omega⟩
          have hP : va_P D vwCl ([(mo_anewCane, hcI k 4 mo_rnewCane), (mo_anewHeight, hcI k 8 mo_rnewHeight), (mo_anewStrand, hcI k 8 mo_rnewStrand), (mo_anewChair, hcI k 8 f27), (mo_anewWeight, hcI k 8 mo_rnewWeight), (mo_anewScalar, hcI k 4 (sc4 mo_n0 mo_n1 mo_n2 mo_n3)), (mo, .inr (7, [.int mo_thrown, .ref mo_ascalar, .ref mo_acane, .ref mo_ais, .ref mo_astrandOf, .ref mo_aweight, .ref mo_aheight, .ref mo_achairOf, .ref mo_anoteMinute, .ref mo_anoteWho, .ref mo_anoteIs, .ref mo_atoldCane, .ref mo_anewScalar, .ref mo_anewCane, .ref mo_anewHeight, .ref mo_anewStrand, .ref mo_anewChair, .ref mo_anewWeight, .int mo_taped, .int w20, .int w21, .int mo_slot, .int mo_rules, .int mo_entries, .int mo_deep, .int mo_counted, .int mo_opened, .int mo_words, .ref mo_atape, .ref mo_asort, .ref mo_anumber, .ref mo_aclauses, .ref mo_asumAt, .ref mo_atestAt, .ref mo_aendAt, .ref mo_aopen, .ref mo_aasked, .ref mo_astack, .ref mo_amust, .ref mo_apast, .ref mo_apastOf, .int mo_pastMany, .int mo_pastAt, .int mo_takesBack, .ref mo_acanRise, .ref mo_afirstHas, .ref mo_asecondHas, .ref mo_alay, .ref mo_ashows, .ref mo_aimages, .ref mo_aisMade, .int mo_imageAt, .int mo_goesBack])), (mo_atape, hcY k 400 mo_rtape)]) H := hP
          have hD : va_D A ([(mo_anewCane, hcI k 4 mo_rnewCane), (mo_anewHeight, hcI k 8 mo_rnewHeight), (mo_anewStrand, hcI k 8 mo_rnewStrand), (mo_anewChair, hcI k 8 f27), (mo_anewWeight, hcI k 8 mo_rnewWeight), (mo_anewScalar, hcI k 4 (sc4 mo_n0 mo_n1 mo_n2 mo_n3)), (mo, .inr (7, [.int mo_thrown, .ref mo_ascalar, .ref mo_acane, .ref mo_ais, .ref mo_astrandOf, .ref mo_aweight, .ref mo_aheight, .ref mo_achairOf, .ref mo_anoteMinute, .ref mo_anoteWho, .ref mo_anoteIs, .ref mo_atoldCane, .ref mo_anewScalar, .ref mo_anewCane, .ref mo_anewHeight, .ref mo_anewStrand, .ref mo_anewChair, .ref mo_anewWeight, .int mo_taped, .int w20, .int w21, .int mo_slot, .int mo_rules, .int mo_entries, .int mo_deep, .int mo_counted, .int mo_opened, .int mo_words, .ref mo_atape, .ref mo_asort, .ref mo_anumber, .ref mo_aclauses, .ref mo_asumAt, .ref mo_atestAt, .ref mo_aendAt, .ref mo_aopen, .ref mo_aasked, .ref mo_astack, .ref mo_amust, .ref mo_apast, .ref mo_apastOf, .int mo_pastMany, .int mo_pastAt, .int mo_takesBack, .ref mo_acanRise, .ref mo_afirstHas, .ref mo_asecondHas, .ref mo_alay, .ref mo_ashows, .ref mo_aimages, .ref mo_aisMade, .int mo_imageAt, .int mo_goesBack])), (mo_atape, hcY k 400 mo_rtape)]) := hD
          refine lv_aload_n hx hb dX9_sitterPart_92 rfl (lv_at hl 4 rfl) ?_
          refine va_get (D := D) (ci := 7) (v := .ref mo_anewWeight) (C := RX9) (T := TX9) (N := 53) hx hb hts in9 hown hG.1 hP 6 rfl rfl 17 (by decide) (hts (.fieldLink RX9 58 "ChairCaneModel" "newWeight" "[I") (by decide +kernel)) (fun _ h9 => h9) rfl dX9_sitterPart_93 ?_
          refine lv_iload_n hx hb dX9_sitterPart_96 rfl (lv_at hl 1 rfl) ?_
          refine lv_iload hx hb dX9_sitterPart_97 (lv_at hl 0 rfl) ?_
          refine va_iast hx hb hG.1 hP hD hS 4 0 rfl rfl (vp_in_iff.mpr ⟨by omega, by omega⟩) dX9_sitterPart_99 (fun H locs hP hD hS => ?_)
          obtain ⟨f28, ef28⟩ : ∃ f, f = upd mo_rnewWeight (Int32.toNatClampNeg mo_n3) (r19) := ⟨_, rfl⟩
          rw [← ef28] at hP hD
          have h_f28 : rowIn (0) (20) f28 := by rw [ef28]; exact row_upd h_mo_rnewWeight ⟨by omega, by omega⟩
          have hP : va_P D vwCl ([(mo_anewCane, hcI k 4 mo_rnewCane), (mo_anewHeight, hcI k 8 mo_rnewHeight), (mo_anewStrand, hcI k 8 mo_rnewStrand), (mo_anewChair, hcI k 8 f27), (mo_anewWeight, hcI k 8 f28), (mo_anewScalar, hcI k 4 (sc4 mo_n0 mo_n1 mo_n2 mo_n3)), (mo, .inr (7, [.int mo_thrown, .ref mo_ascalar, .ref mo_acane, .ref mo_ais, .ref mo_astrandOf, .ref mo_aweight, .ref mo_aheight, .ref mo_achairOf, .ref mo_anoteMinute, .ref mo_anoteWho, .ref mo_anoteIs, .ref mo_atoldCane, .ref mo_anewScalar, .ref mo_anewCane, .ref mo_anewHeight, .ref mo_anewStrand, .ref mo_anewChair, .ref mo_anewWeight, .int mo_taped, .int w20, .int w21, .int mo_slot, .int mo_rules, .int mo_entries, .int mo_deep, .int mo_counted, .int mo_opened, .int mo_words, .ref mo_atape, .ref mo_asort, .ref mo_anumber, .ref mo_aclauses, .ref mo_asumAt, .ref mo_atestAt, .ref mo_aendAt, .ref mo_aopen, .ref mo_aasked, .ref mo_astack, .ref mo_amust, .ref mo_apast, .ref mo_apastOf, .int mo_pastMany, .int mo_pastAt, .int mo_takesBack, .ref mo_acanRise, .ref mo_afirstHas, .ref mo_asecondHas, .ref mo_alay, .ref mo_ashows, .ref mo_aimages, .ref mo_aisMade, .int mo_imageAt, .int mo_goesBack])), (mo_atape, hcY k 400 mo_rtape)]) H := hP
          have hD : va_D A ([(mo_anewCane, hcI k 4 mo_rnewCane), (mo_anewHeight, hcI k 8 mo_rnewHeight), (mo_anewStrand, hcI k 8 mo_rnewStrand), (mo_anewChair, hcI k 8 f27), (mo_anewWeight, hcI k 8 f28), (mo_anewScalar, hcI k 4 (sc4 mo_n0 mo_n1 mo_n2 mo_n3)), (mo, .inr (7, [.int mo_thrown, .ref mo_ascalar, .ref mo_acane, .ref mo_ais, .ref mo_astrandOf, .ref mo_aweight, .ref mo_aheight, .ref mo_achairOf, .ref mo_anoteMinute, .ref mo_anoteWho, .ref mo_anoteIs, .ref mo_atoldCane, .ref mo_anewScalar, .ref mo_anewCane, .ref mo_anewHeight, .ref mo_anewStrand, .ref mo_anewChair, .ref mo_anewWeight, .int mo_taped, .int w20, .int w21, .int mo_slot, .int mo_rules, .int mo_entries, .int mo_deep, .int mo_counted, .int mo_opened, .int mo_words, .ref mo_atape, .ref mo_asort, .ref mo_anumber, .ref mo_aclauses, .ref mo_asumAt, .ref mo_atestAt, .ref mo_aendAt, .ref mo_aopen, .ref mo_aasked, .ref mo_astack, .ref mo_amust, .ref mo_apast, .ref mo_apastOf, .int mo_pastMany, .int mo_pastAt, .int mo_takesBack, .ref mo_acanRise, .ref mo_afirstHas, .ref mo_asecondHas, .ref mo_alay, .ref mo_ashows, .ref mo_aimages, .ref mo_aisMade, .int mo_imageAt, .int mo_goesBack])), (mo_atape, hcY k 400 mo_rtape)]) := hD
          refine lv_aload_n hx hb dX9_sitterPart_100 rfl (lv_at hl 4 rfl) ?_
          refine va_get (D := D) (ci := 7) (v := .ref mo_anewScalar) (C := RX9) (T := TX9) (N := 53) hx hb hts in9 hown hG.1 hP 6 rfl rfl 12 (by decide) (hts (.fieldLink RX9 43 "ChairCaneModel" "newScalar" "[I") (by decide +kernel)) (fun _ h9 => h9) rfl dX9_sitterPart_101 ?_
          refine lv_iconst (v := 3) hx hb dX9_sitterPart_104 (by decide) ?_
          refine lv_dup2_11 hx hb dX9_sitterPart_105 rfl rfl ?_
          refine va_iald hx hb hG.1 hP 5 0 rfl rfl (by unfold vp_in; decide) dX9_sitterPart_106 ?_
          refine hc_is (z := mo_n3) (by rw [show Int32.toNatClampNeg 3 = 3 from by decide]; rfl) ?_
          refine lv_iconst (v := 1) hx hb dX9_sitterPart_107 (by decide) ?_
          refine lv_iadd hx hb dX9_sitterPart_108 ?_
          refine lv_topi (fun z29 ez29 => ?_)
          have tz29 : z29.toInt = mo_n3.toInt + 1 := ai_add rfl (by decide) ez29 (by omega) (by omega)
          refine va_iast hx hb hG.1 hP hD hS 5 0 rfl rfl (by unfold vp_in; decide) dX9_sitterPart_109 (fun H locs hP hD hS => ?_)
          rw [sc4_u3] at hP hD
          have hP : va_P D vwCl ([(mo_anewCane, hcI k 4 mo_rnewCane), (mo_anewHeight, hcI k 8 mo_rnewHeight), (mo_anewStrand, hcI k 8 mo_rnewStrand), (mo_anewChair, hcI k 8 f27), (mo_anewWeight, hcI k 8 f28), (mo_anewScalar, hcI k 4 (sc4 mo_n0 mo_n1 mo_n2 z29)), (mo, .inr (7, [.int mo_thrown, .ref mo_ascalar, .ref mo_acane, .ref mo_ais, .ref mo_astrandOf, .ref mo_aweight, .ref mo_aheight, .ref mo_achairOf, .ref mo_anoteMinute, .ref mo_anoteWho, .ref mo_anoteIs, .ref mo_atoldCane, .ref mo_anewScalar, .ref mo_anewCane, .ref mo_anewHeight, .ref mo_anewStrand, .ref mo_anewChair, .ref mo_anewWeight, .int mo_taped, .int w20, .int w21, .int mo_slot, .int mo_rules, .int mo_entries, .int mo_deep, .int mo_counted, .int mo_opened, .int mo_words, .ref mo_atape, .ref mo_asort, .ref mo_anumber, .ref mo_aclauses, .ref mo_asumAt, .ref mo_atestAt, .ref mo_aendAt, .ref mo_aopen, .ref mo_aasked, .ref mo_astack, .ref mo_amust, .ref mo_apast, .ref mo_apastOf, .int mo_pastMany, .int mo_pastAt, .int mo_takesBack, .ref mo_acanRise, .ref mo_afirstHas, .ref mo_asecondHas, .ref mo_alay, .ref mo_ashows, .ref mo_aimages, .ref mo_aisMade, .int mo_imageAt, .int mo_goesBack])), (mo_atape, hcY k 400 mo_rtape)]) H := hP
          have hD : va_D A ([(mo_anewCane, hcI k 4 mo_rnewCane), (mo_anewHeight, hcI k 8 mo_rnewHeight), (mo_anewStrand, hcI k 8 mo_rnewStrand), (mo_anewChair, hcI k 8 f27), (mo_anewWeight, hcI k 8 f28), (mo_anewScalar, hcI k 4 (sc4 mo_n0 mo_n1 mo_n2 z29)), (mo, .inr (7, [.int mo_thrown, .ref mo_ascalar, .ref mo_acane, .ref mo_ais, .ref mo_astrandOf, .ref mo_aweight, .ref mo_aheight, .ref mo_achairOf, .ref mo_anoteMinute, .ref mo_anoteWho, .ref mo_anoteIs, .ref mo_atoldCane, .ref mo_anewScalar, .ref mo_anewCane, .ref mo_anewHeight, .ref mo_anewStrand, .ref mo_anewChair, .ref mo_anewWeight, .int mo_taped, .int w20, .int w21, .int mo_slot, .int mo_rules, .int mo_entries, .int mo_deep, .int mo_counted, .int mo_opened, .int mo_words, .ref mo_atape, .ref mo_asort, .ref mo_anumber, .ref mo_aclauses, .ref mo_asumAt, .ref mo_atestAt, .ref mo_aendAt, .ref mo_aopen, .ref mo_aasked, .ref mo_astack, .ref mo_amust, .ref mo_apast, .ref mo_apastOf, .int mo_pastMany, .int mo_pastAt, .int mo_takesBack, .ref mo_acanRise, .ref mo_afirstHas, .ref mo_asecondHas, .ref mo_alay, .ref mo_ashows, .ref mo_aimages, .ref mo_aisMade, .int mo_imageAt, .int mo_goesBack])), (mo_atape, hcY k 400 mo_rtape)]) := hD
          have hh30 : NHall w21 mo_n2 z29 mo_rnewStrand f27 f28 := NHall.sit hh_NHall (by omega) (by omega) (by omega) (by omega) ht9 ef27 ef28 (by omega)
          exact hc_endV hx hb hr hlocks (w20, w21, f27, f28, z29) ⟨(show iv (0) (402) w20 from ⟨by omega, by omega⟩), (show iv (0) (4000) w21 from ⟨by omega, by omega⟩), h_f27, h_f28, (show iv (0) (8) z29 from ⟨by omega, by omega⟩), (by (try dsimp only); omega), hh30⟩ (hP.sub [6, 0, 1, 2, 3, 4, 7, 5] rfl) (hD.sub [6, 0, 1, 2, 3, 4, 7, 5] (by decide) rfl) hS dX9_sitterPart_110
      · have fc15 := cx_ge_f (a := L4_14.toInt) (b := mo_n3.toInt) rfl rfl c15
        refine lv_aload_n hx hb dX9_sitterPart_39 rfl (lv_at hl 4 rfl) ?_
        refine va_get (D := D) (ci := 7) (v := .int K20_14mo) (C := RX9) (T := TX9) (N := 53) hx hb hts in9 hown hG.1 hP 6 rfl rfl 20 (by decide) (hts (.fieldLink RX9 161 "ChairCaneModel" "fault" "I") (by decide +kernel)) (fun _ h9 => h9) rfl dX9_sitterPart_40 ?_
        refine lv_if_ne (tgt := 63) hx hb dX9_sitterPart_43 (by decide) (fun c31 => ?_) (fun c31 => ?_)
        · have fc31 := cx_ne_t (a := K20_14mo.toInt) (b := 0) rfl (by decide) c31
          obtain ⟨z32, ez32⟩ : ∃ z : Int32, z = L4_14 + 1 := ⟨_, rfl⟩
          have tz32 : z32.toInt = L4_14.toInt + (1) := ai_add rfl (by decide) ez32 (by omega) (by omega)
          refine lv_iinc (v := z32) (lv' := [(4, .int z32), (3, .int mo_n3), (2, .int r8), (1, .int w3), (0, .ref mo)]) hx hb dX9_sitterPart_63 hl (k := 0) rfl (by rw [ez32]; rfl) (by decide) rfl (fun ls hl => ?_)
          refine lv_goto (tgt := 33) hx hb dX9_sitterPart_66 (by decide) ?_
          exact ih14 z32 K20_14mo ⟨by omega, by omega⟩ ⟨by omega, by omega⟩ (by omega) (fun hq j hj => absurd hq (by omega)) (fun q => hp2_14 (by omega)) hh14_NHall (by omega) _ _ _ hP hD hS (lv_sub hl [0, 1, 2, 3, 4] rfl)
        · have fc31 := cx_ne_f (a := K20_14mo.toInt) (b := 0) rfl (by decide) c31
          refine lv_aload_n hx hb dX9_sitterPart_46 rfl (lv_at hl 4 rfl) ?_
          refine va_get (D := D) (ci := 7) (v := .ref mo_anewChair) (C := RX9) (T := TX9) (N := 53) hx hb hts in9 hown hG.1 hP 6 rfl rfl 16 (by decide) (hts (.fieldLink RX9 55 "ChairCaneModel" "newChair" "[I") (by decide +kernel)) (fun _ h9 => h9) rfl dX9_sitterPart_47 ?_
          refine lv_iload hx hb dX9_sitterPart_50 (lv_at hl 0 rfl) ?_
          refine va_iald hx hb hG.1 hP 3 0 rfl rfl (vp_in_iff.mpr ⟨by omega, by omega⟩) dX9_sitterPart_52 ?_
          refine lv_topi (fun z33 ez33 => ?_)
          have bz33 : iv (0) (7) z33 := by rw [ez33]; exact h_mo_rnewChair _
          have bz33_l := bz33.1
          have bz33_u := bz33.2
          refine lv_iload_n hx hb dX9_sitterPart_53 rfl (lv_at hl 2 rfl) ?_
          refine lv_icmp_ne (tgt := 63) hx hb dX9_sitterPart_54 (by decide) (fun c34 => ?_) (fun c34 => ?_)
          · have fc34 := cx_ne_t (a := z33.toInt) (b := r8.toInt) rfl rfl c34
            obtain ⟨z35, ez35⟩ : ∃ z : Int32, z = L4_14 + 1 := ⟨_, rfl⟩
            have tz35 : z35.toInt = L4_14.toInt + (1) := ai_add rfl (by decide) ez35 (by omega) (by omega)
            refine lv_iinc (v := z35) (lv' := [(4, .int z35), (3, .int mo_n3), (2, .int r8), (1, .int w3), (0, .ref mo)]) hx hb dX9_sitterPart_63 hl (k := 0) rfl (by rw [ez35]; rfl) (by decide) rfl (fun ls hl => ?_)
            refine lv_goto (tgt := 33) hx hb dX9_sitterPart_66 (by decide) ?_
            exact ih14 z35 K20_14mo ⟨by omega, by omega⟩ ⟨by omega, by omega⟩ (by omega) (fun hq j hj => by have ek := toNatClampNeg_toInt (x := L4_14) (by omega); by_cases hi : j = Int32.toNatClampNeg L4_14; rw [hi, ← ez33]; omega; exact hp1_14 (by omega) j (by omega)) (fun q => hp2_14 (by omega)) hh14_NHall (by omega) _ _ _ hP hD hS (lv_sub hl [0, 1, 2, 3, 4] rfl)
          · have fc34 := cx_ne_f (a := z33.toInt) (b := r8.toInt) rfl rfl c34
            refine lv_aload_n hx hb dX9_sitterPart_57 rfl (lv_at hl 4 rfl) ?_
            refine lv_iconst (v := 1) hx hb dX9_sitterPart_58 (by decide) ?_
            refine lv_iload_n hx hb dX9_sitterPart_59 rfl (lv_at hl 3 rfl) ?_
            have ql36 : (1 : Int32).toInt = 1 := by decide
            refine hc_Vv (As := [.int 1, .int w3]) (rest := []) (n := 2) (wr := [(mo_anewCane, hcI k 4 mo_rnewCane), (mo_anewHeight, hcI k 8 mo_rnewHeight), (mo_anewStrand, hcI k 8 mo_rnewStrand), (mo_anewChair, hcI k 8 mo_rnewChair), (mo_anewWeight, hcI k 8 mo_rnewWeight), (mo_anewScalar, hcI k 4 (sc4 mo_n0 mo_n1 mo_n2 mo_n3)), (mo_atape, hcY k 400 mo_rtape)]) hx hb hml hown hts hG hA hP hD hS hl.1 [6] [0, 1, 2, 3, 4, 5, 7] (i_X9_fails l D k _ 1 w3 mo mo_thrown mo_ascalar mo_acane mo_ais mo_astrandOf mo_aweight mo_aheight mo_achairOf mo_anoteMinute mo_anoteWho mo_anoteIs mo_atoldCane mo_anewScalar mo_anewCane mo_anewHeight mo_anewStrand mo_anewChair mo_anewWeight mo_taped w9 K20_14mo mo_slot mo_rules mo_entries mo_deep mo_counted mo_opened mo_words mo_atape mo_asort mo_anumber mo_aclauses mo_asumAt mo_atestAt mo_aendAt mo_aopen mo_aasked mo_astack mo_amust mo_apast mo_apastOf mo_pastMany mo_pastAt mo_takesBack mo_acanRise mo_afirstHas mo_asecondHas mo_alay mo_ashows mo_aimages mo_aisMade mo_imageAt mo_goesBack (iv_lit (by decide) (by decide)) ⟨by omega, by omega⟩ ⟨by omega, by omega⟩ ⟨by omega, by omega⟩ ⟨by omega, by omega⟩ ⟨by omega, by omega⟩ ⟨by omega, by omega⟩ ⟨by omega, by omega⟩ ⟨by omega, by omega⟩ ⟨by omega, by omega⟩ ⟨by omega, by omega⟩ ⟨by omega, by omega⟩ ⟨by omega, by omega⟩ ⟨by omega, by omega⟩ ⟨by omega, by omega⟩ ⟨by omega, by omega⟩) (ci := 7) (q0 := 6) rfl rfl gX9_sitterPart_X9_fails rfl ⟨rfl, rfl, Nat.le_of_ble_eq_true rfl, Nat.le_of_ble_eq_true rfl⟩ (by decide +kernel) rfl rfl ⟨by decide, by decide, by decide⟩ ⟨rfl, rfl, Nat.le_of_ble_eq_true rfl, Nat.le_of_ble_eq_true rfl, Nat.le_of_ble_eq_true rfl⟩ dX9_sitterPart_60 (fun u37 H locs hw hP hD hS => ?_)
            obtain ⟨w39, rfl⟩ : ∃ z, z = u37 := ⟨_, rfl⟩
            have hP : va_P D vwCl ([(mo_anewCane, hcI k 4 mo_rnewCane), (mo_anewHeight, hcI k 8 mo_rnewHeight), (mo_anewStrand, hcI k 8 mo_rnewStrand), (mo_anewChair, hcI k 8 mo_rnewChair), (mo_anewWeight, hcI k 8 mo_rnewWeight), (mo_anewScalar, hcI k 4 (sc4 mo_n0 mo_n1 mo_n2 mo_n3)), (mo_atape, hcY k 400 mo_rtape), (mo, .inr (7, [.int mo_thrown, .ref mo_ascalar, .ref mo_acane, .ref mo_ais, .ref mo_astrandOf, .ref mo_aweight, .ref mo_aheight, .ref mo_achairOf, .ref mo_anoteMinute, .ref mo_anoteWho, .ref mo_anoteIs, .ref mo_atoldCane, .ref mo_anewScalar, .ref mo_anewCane, .ref mo_anewHeight, .ref mo_anewStrand, .ref mo_anewChair, .ref mo_anewWeight, .int mo_taped, .int w9, .int w39, .int mo_slot, .int mo_rules, .int mo_entries, .int mo_deep, .int mo_counted, .int mo_opened, .int mo_words, .ref mo_atape, .ref mo_asort, .ref mo_anumber, .ref mo_aclauses, .ref mo_asumAt, .ref mo_atestAt, .ref mo_aendAt, .ref mo_aopen, .ref mo_aasked, .ref mo_astack, .ref mo_amust, .ref mo_apast, .ref mo_apastOf, .int mo_pastMany, .int mo_pastAt, .int mo_takesBack, .ref mo_acanRise, .ref mo_afirstHas, .ref mo_asecondHas, .ref mo_alay, .ref mo_ashows, .ref mo_aimages, .ref mo_aisMade, .int mo_imageAt, .int mo_goesBack]))]) H := hP
            have hD : va_D A ([(mo_anewCane, hcI k 4 mo_rnewCane), (mo_anewHeight, hcI k 8 mo_rnewHeight), (mo_anewStrand, hcI k 8 mo_rnewStrand), (mo_anewChair, hcI k 8 mo_rnewChair), (mo_anewWeight, hcI k 8 mo_rnewWeight), (mo_anewScalar, hcI k 4 (sc4 mo_n0 mo_n1 mo_n2 mo_n3)), (mo_atape, hcY k 400 mo_rtape), (mo, .inr (7, [.int mo_thrown, .ref mo_ascalar, .ref mo_acane, .ref mo_ais, .ref mo_astrandOf, .ref mo_aweight, .ref mo_aheight, .ref mo_achairOf, .ref mo_anoteMinute, .ref mo_anoteWho, .ref mo_anoteIs, .ref mo_atoldCane, .ref mo_anewScalar, .ref mo_anewCane, .ref mo_anewHeight, .ref mo_anewStrand, .ref mo_anewChair, .ref mo_anewWeight, .int mo_taped, .int w9, .int w39, .int mo_slot, .int mo_rules, .int mo_entries, .int mo_deep, .int mo_counted, .int mo_opened, .int mo_words, .ref mo_atape, .ref mo_asort, .ref mo_anumber, .ref mo_aclauses, .ref mo_asumAt, .ref mo_atestAt, .ref mo_aendAt, .ref mo_aopen, .ref mo_aasked, .ref mo_astack, .ref mo_amust, .ref mo_apast, .ref mo_apastOf, .int mo_pastMany, .int mo_pastAt, .int mo_takesBack, .ref mo_acanRise, .ref mo_afirstHas, .ref mo_asecondHas, .ref mo_alay, .ref mo_ashows, .ref mo_aimages, .ref mo_aisMade, .int mo_imageAt, .int mo_goesBack]))]) := hD
            have ql41 : (1 : Int32).toInt = 1 := by decide
            obtain ⟨bw39, rel40⟩ := hw
            have bw39 : iv (0) (4000) w39 := bw39
            have bw39_l := bw39.1
            have bw39_u := bw39.2
            try dsimp only at rel40
            have hh42 : NHall w39 mo_n2 mo_n3 mo_rnewStrand mo_rnewChair mo_rnewWeight := NHall.F hh14_NHall (by omega)
            obtain ⟨z43, ez43⟩ : ∃ z : Int32, z = L4_14 + 1 := ⟨_, rfl⟩
            have tz43 : z43.toInt = L4_14.toInt + (1) := ai_add rfl (by decide) ez43 (by omega) (by omega)
            refine lv_iinc (v := z43) (lv' := [(4, .int z43), (3, .int mo_n3), (2, .int r8), (1, .int w3), (0, .ref mo)]) hx hb dX9_sitterPart_63 hl (k := 0) rfl (by rw [ez43]; rfl) (by decide) rfl (fun ls hl => ?_)
            refine lv_goto (tgt := 33) hx hb dX9_sitterPart_66 (by decide) ?_
            exact ih14 z43 w39 ⟨by omega, by omega⟩ ⟨by omega, by omega⟩ (by omega) (fun hq j hj => absurd hq (by omega)) (fun q => hp2_14 (by omega)) hh42 (by omega) _ _ _ (hP.sub [0, 1, 2, 3, 4, 5, 7, 6] rfl) (hD.sub [0, 1, 2, 3, 4, 5, 7, 6] (by decide) rfl) hS (lv_sub hl [0, 1, 2, 3, 4] rfl)
  exact loop14 100 0 w10 (iv_lit (by decide) (by decide)) ⟨by omega, by omega⟩ (by have q0 : (0 : Int32).toInt = 0 := (by decide); omega) (fun _ j hj => by rw [sp0] at hj; omega) (fun q => q) hh13 (by have q0 : (0 : Int32).toInt = 0 := (by decide); omega) _ _ _ hP hD hS hl
set_option maxHeartbeats 4000000 in
set_option maxRecDepth 100000 in
theorem i_X9_hallPart (l : Launch) (D : va_G) (k : Nat → ClassId) (sz : Nat) (x1 : Int32) (mo : Nat) (mo_thrown : Int32) (mo_ascalar : Nat) (mo_acane : Nat) (mo_ais : Nat) (mo_astrandOf : Nat) (mo_aweight : Nat) (mo_aheight : Nat) (mo_achairOf : Nat) (mo_anoteMinute : Nat) (mo_anoteWho : Nat) (mo_anoteIs : Nat) (mo_atoldCane : Nat) (mo_anewScalar : Nat) (mo_anewCane : Nat) (mo_anewHeight : Nat) (mo_anewStrand : Nat) (mo_anewChair : Nat) (mo_anewWeight : Nat) (mo_taped : Int32) (mo_p : Int32) (mo_fault : Int32) (mo_slot : Int32) (mo_rules : Int32) (mo_entries : Int32) (mo_deep : Int32) (mo_counted : Int32) (mo_opened : Int32) (mo_words : Int32) (mo_atape : Nat) (mo_asort : Nat) (mo_anumber : Nat) (mo_aclauses : Nat) (mo_asumAt : Nat) (mo_atestAt : Nat) (mo_aendAt : Nat) (mo_aopen : Nat) (mo_aasked : Nat) (mo_astack : Nat) (mo_amust : Nat) (mo_apast : Nat) (mo_apastOf : Nat) (mo_pastMany : Int32) (mo_pastAt : Int32) (mo_takesBack : Int32) (mo_acanRise : Nat) (mo_afirstHas : Nat) (mo_asecondHas : Nat) (mo_alay : Nat) (mo_ashows : Nat) (mo_aimages : Nat) (mo_aisMade : Nat) (mo_imageAt : Int32) (mo_goesBack : Int32) (mo_rnewCane : Nat → Int32) (mo_rnewHeight : Nat → Int32) (mo_rnewStrand : Nat → Int32) (mo_rnewChair : Nat → Int32) (mo_rnewWeight : Nat → Int32) (mo_rtape : Nat → Int32) (mo_n0 : Int32) (mo_n1 : Int32) (mo_n2 : Int32) (mo_n3 : Int32) (h_x1 : iv (0) (3) x1) (h_mo_taped : iv (0) (400) mo_taped) (h_mo_p : iv (0) (402) mo_p) (h_mo_fault : iv (0) (4000) mo_fault) (h_mo_slot : iv (0) (5) mo_slot) (h_mo_rules : iv (0) (6) mo_rules) (h_mo_entries : iv (0) (300) mo_entries) (h_mo_counted : iv (0) (70) mo_counted) (h_mo_opened : iv (0) (402) mo_opened) (h_mo_words : iv (11) (11) mo_words) (h_mo_pastMany : iv (0) (20) mo_pastMany) (h_mo_pastAt : iv (0) (260) mo_pastAt) (h_mo_takesBack : iv (0) (1) mo_takesBack) (h_mo_imageAt : iv (0) (2000) mo_imageAt) (h_mo_goesBack : iv (0) (1) mo_goesBack) (h_mo_rnewChair : rowIn (0) (7) mo_rnewChair) (h_mo_rnewWeight : rowIn (0) (20) mo_rnewWeight) (h_mo_n0 : iv (0) (1) mo_n0) (h_mo_n1 : iv (0) (4) mo_n1) (h_mo_n2 : iv (0) (8) mo_n2) (h_mo_n3 : iv (0) (8) mo_n3) (hr_p : mo_p.toInt ≤ mo_taped.toInt) (hr_f : mo_fault.toInt = 0) (hr_1 : x1.toInt ≠ 1 ∨ mo_n1.toInt ≤ 3) (hr_2 : x1.toInt ≠ 2 ∨ mo_n2.toInt ≤ 7) (hh_NHall : NHall mo_fault mo_n2 mo_n3 mo_rnewStrand mo_rnewChair mo_rnewWeight) : CtV l yX9_hallPart wsX9_hallPart (rmK 6 0 0) [.ref mo, .int x1] D k sz ([(mo, .inr (7, [.int mo_thrown, .ref mo_ascalar, .ref mo_acane, .ref mo_ais, .ref mo_astrandOf, .ref mo_aweight, .ref mo_aheight, .ref mo_achairOf, .ref mo_anoteMinute, .ref mo_anoteWho, .ref mo_anoteIs, .ref mo_atoldCane, .ref mo_anewScalar, .ref mo_anewCane, .ref mo_anewHeight, .ref mo_anewStrand, .ref mo_anewChair, .ref mo_anewWeight, .int mo_taped, .int mo_p, .int mo_fault, .int mo_slot, .int mo_rules, .int mo_entries, .int mo_deep, .int mo_counted, .int mo_opened, .int mo_words, .ref mo_atape, .ref mo_asort, .ref mo_anumber, .ref mo_aclauses, .ref mo_asumAt, .ref mo_atestAt, .ref mo_aendAt, .ref mo_aopen, .ref mo_aasked, .ref mo_astack, .ref mo_amust, .ref mo_apast, .ref mo_apastOf, .int mo_pastMany, .int mo_pastAt, .int mo_takesBack, .ref mo_acanRise, .ref mo_afirstHas, .ref mo_asecondHas, .ref mo_alay, .ref mo_ashows, .ref mo_aimages, .ref mo_aisMade, .int mo_imageAt, .int mo_goesBack])), (mo_anewCane, hcI k 4 mo_rnewCane), (mo_anewHeight, hcI k 8 mo_rnewHeight), (mo_anewStrand, hcI k 8 mo_rnewStrand), (mo_anewChair, hcI k 8 mo_rnewChair), (mo_anewWeight, hcI k 8 mo_rnewWeight), (mo_atape, hcY k 400 mo_rtape), (mo_anewScalar, hcI k 4 (sc4 mo_n0 mo_n1 mo_n2 mo_n3))]) (fun u : (Int32) × (Int32) × (Int32) × (Nat → Int32) × (Int32) × (Nat → Int32) × (Nat → Int32) × (Int32) × (Nat → Int32) × (Nat → Int32) × (Int32) => iv (0) (1) (u.1) ∧ iv (0) (402) (u.2.1) ∧ iv (0) (4000) (u.2.2.1) ∧ iv (0) (4) (u.2.2.2.2.1) ∧ iv (0) (8) (u.2.2.2.2.2.2.2.1) ∧ rowIn (0) (7) (u.2.2.2.2.2.2.2.2.1) ∧ rowIn (0) (20) (u.2.2.2.2.2.2.2.2.2.1) ∧ iv (0) (8) (u.2.2.2.2.2.2.2.2.2.2) ∧ (mo_p.toInt ≤ (u.2.1).toInt ∧ (u.2.1).toInt ≤ mo_taped.toInt ∧ ((u.2.2.1).toInt ≠ 0 ∨ mo_fault.toInt = 0)) ∧ (NHall (u.2.2.1) (u.2.2.2.2.2.2.2.1) (u.2.2.2.2.2.2.2.2.2.2) (u.2.2.2.2.2.2.1) (u.2.2.2.2.2.2.2.2.1) (u.2.2.2.2.2.2.2.2.2.1))) (fun u : (Int32) × (Int32) × (Int32) × (Nat → Int32) × (Int32) × (Nat → Int32) × (Nat → Int32) × (Int32) × (Nat → Int32) × (Nat → Int32) × (Int32) => [(mo, .inr (7, [.int mo_thrown, .ref mo_ascalar, .ref mo_acane, .ref mo_ais, .ref mo_astrandOf, .ref mo_aweight, .ref mo_aheight, .ref mo_achairOf, .ref mo_anoteMinute, .ref mo_anoteWho, .ref mo_anoteIs, .ref mo_atoldCane, .ref mo_anewScalar, .ref mo_anewCane, .ref mo_anewHeight, .ref mo_anewStrand, .ref mo_anewChair, .ref mo_anewWeight, .int mo_taped, .int (u.2.1), .int (u.2.2.1), .int mo_slot, .int mo_rules, .int mo_entries, .int mo_deep, .int mo_counted, .int mo_opened, .int mo_words, .ref mo_atape, .ref mo_asort, .ref mo_anumber, .ref mo_aclauses, .ref mo_asumAt, .ref mo_atestAt, .ref mo_aendAt, .ref mo_aopen, .ref mo_aasked, .ref mo_astack, .ref mo_amust, .ref mo_apast, .ref mo_apastOf, .int mo_pastMany, .int mo_pastAt, .int mo_takesBack, .ref mo_acanRise, .ref mo_afirstHas, .ref mo_asecondHas, .ref mo_alay, .ref mo_ashows, .ref mo_aimages, .ref mo_aisMade, .int mo_imageAt, .int mo_goesBack])), (mo_anewCane, hcI k 4 (u.2.2.2.1)), (mo_anewHeight, hcI k 8 (u.2.2.2.2.2.1)), (mo_anewStrand, hcI k 8 (u.2.2.2.2.2.2.1)), (mo_anewChair, hcI k 8 (u.2.2.2.2.2.2.2.2.1)), (mo_anewWeight, hcI k 8 (u.2.2.2.2.2.2.2.2.2.1)), (mo_atape, hcY k 400 mo_rtape), (mo_anewScalar, hcI k 4 (sc4 (u.1) (u.2.2.2.2.1) (u.2.2.2.2.2.2.2.1) (u.2.2.2.2.2.2.2.2.2.2)))]) 0 0 := by
  have h_x1_l := h_x1.1
  have h_x1_u := h_x1.2
  have h_mo_taped_l := h_mo_taped.1
  have h_mo_taped_u := h_mo_taped.2
  have h_mo_p_l := h_mo_p.1
  have h_mo_p_u := h_mo_p.2
  have h_mo_fault_l := h_mo_fault.1
  have h_mo_fault_u := h_mo_fault.2
  have h_mo_slot_l := h_mo_slot.1
  have h_mo_slot_u := h_mo_slot.2
  have h_mo_rules_l := h_mo_rules.1
  have h_mo_rules_u := h_mo_rules.2
  have h_mo_entries_l := h_mo_entries.1
  have h_mo_entries_u := h_mo_entries.2
  have h_mo_counted_l := h_mo_counted.1
  have h_mo_counted_u := h_mo_counted.2
  have h_mo_opened_l := h_mo_opened.1
  have h_mo_opened_u := h_mo_opened.2
  have h_mo_words_l := h_mo_words.1
  have h_mo_words_u := h_mo_words.2
  have h_mo_pastMany_l := h_mo_pastMany.1
  have h_mo_pastMany_u := h_mo_pastMany.2
  have h_mo_pastAt_l := h_mo_pastAt.1
  have h_mo_pastAt_u := h_mo_pastAt.2
  have h_mo_takesBack_l := h_mo_takesBack.1
  have h_mo_takesBack_u := h_mo_takesBack.2
  have h_mo_imageAt_l := h_mo_imageAt.1
  have h_mo_imageAt_u := h_mo_imageAt.2
  have h_mo_goesBack_l := h_mo_goesBack.1
  have h_mo_goesBack_u := h_mo_goesBack.2
  have h_mo_n0_l := h_mo_n0.1
  have h_mo_n0_u := h_mo_n0.2
  have h_mo_n1_l := h_mo_n1.1
  have h_mo_n1_u := h_mo_n1.2
  have h_mo_n2_l := h_mo_n2.1
  have h_mo_n2_u := h_mo_n2.2
  have h_mo_n3_l := h_mo_n3.1
  have h_mo_n3_u := h_mo_n3.2
  refine CtV.mk (cc := cX9_hallPart) (maxL := 3) (ret := none) (by decide) rfl (Nat.le_of_ble_eq_true rfl) ?_
  intro p e s m below meth c A ls E hP hD hS hl
  obtain ⟨hx, hb, hr, hml, hown, hts, hlocks, hin, hG, hA⟩ := E
  have hown : s.vm.findClass RX9 = some m.cls := hown
  have in9 : ∀ w ∈ u_ws RX9 TX9 53, w ∈ wsX9_hallPart := fun _ h => List.mem_cons_of_mem _ (List.mem_append_right _ h)
  have hl : lv_has ls 3 [(0, .ref mo), (1, .int x1)] := hl
  refine lv_iload_n hx hb dX9_hallPart_0 rfl (lv_at hl 1 rfl) ?_
  rcases (show (x1.toInt = 0) ∨ (x1.toInt = 1) ∨ (x1.toInt = 2) ∨ (x1.toInt < 0 ∨ 2 < x1.toInt) from by omega) with s1 | s1 | s1 | s1
  · refine lv_tableIn (off := 27) (tgt := 28) hx hb dX9_hallPart_1 (by omega) (by omega) (by rw [s1]; rfl) (by decide) ?_
    refine lv_aload_n hx hb dX9_hallPart_28 rfl (lv_at hl 0 rfl) ?_
    refine va_get (D := D) (ci := 7) (v := .ref mo_anewScalar) (C := RX9) (T := TX9) (N := 53) hx hb hts in9 hown hG.1 hP 0 rfl rfl 12 (by decide) (hts (.fieldLink RX9 43 "ChairCaneModel" "newScalar" "[I") (by decide +kernel)) (fun _ h9 => h9) rfl dX9_hallPart_29 ?_
    refine lv_iconst (v := 0) hx hb dX9_hallPart_32 (by decide) ?_
    refine lv_iconst (v := 1) hx hb dX9_hallPart_33 (by decide) ?_
    refine va_iast hx hb hG.1 hP hD hS 7 0 rfl rfl (by unfold vp_in; decide) dX9_hallPart_34 (fun H locs hP hD hS => ?_)
    rw [sc4_u0] at hP hD
    have hP : va_P D vwCl ([(mo, .inr (7, [.int mo_thrown, .ref mo_ascalar, .ref mo_acane, .ref mo_ais, .ref mo_astrandOf, .ref mo_aweight, .ref mo_aheight, .ref mo_achairOf, .ref mo_anoteMinute, .ref mo_anoteWho, .ref mo_anoteIs, .ref mo_atoldCane, .ref mo_anewScalar, .ref mo_anewCane, .ref mo_anewHeight, .ref mo_anewStrand, .ref mo_anewChair, .ref mo_anewWeight, .int mo_taped, .int mo_p, .int mo_fault, .int mo_slot, .int mo_rules, .int mo_entries, .int mo_deep, .int mo_counted, .int mo_opened, .int mo_words, .ref mo_atape, .ref mo_asort, .ref mo_anumber, .ref mo_aclauses, .ref mo_asumAt, .ref mo_atestAt, .ref mo_aendAt, .ref mo_aopen, .ref mo_aasked, .ref mo_astack, .ref mo_amust, .ref mo_apast, .ref mo_apastOf, .int mo_pastMany, .int mo_pastAt, .int mo_takesBack, .ref mo_acanRise, .ref mo_afirstHas, .ref mo_asecondHas, .ref mo_alay, .ref mo_ashows, .ref mo_aimages, .ref mo_aisMade, .int mo_imageAt, .int mo_goesBack])), (mo_anewCane, hcI k 4 mo_rnewCane), (mo_anewHeight, hcI k 8 mo_rnewHeight), (mo_anewStrand, hcI k 8 mo_rnewStrand), (mo_anewChair, hcI k 8 mo_rnewChair), (mo_anewWeight, hcI k 8 mo_rnewWeight), (mo_atape, hcY k 400 mo_rtape), (mo_anewScalar, hcI k 4 (sc4 1 mo_n1 mo_n2 mo_n3))]) H := hP
    have hD : va_D A ([(mo, .inr (7, [.int mo_thrown, .ref mo_ascalar, .ref mo_acane, .ref mo_ais, .ref mo_astrandOf, .ref mo_aweight, .ref mo_aheight, .ref mo_achairOf, .ref mo_anoteMinute, .ref mo_anoteWho, .ref mo_anoteIs, .ref mo_atoldCane, .ref mo_anewScalar, .ref mo_anewCane, .ref mo_anewHeight, .ref mo_anewStrand, .ref mo_anewChair, .ref mo_anewWeight, .int mo_taped, .int mo_p, .int mo_fault, .int mo_slot, .int mo_rules, .int mo_entries, .int mo_deep, .int mo_counted, .int mo_opened, .int mo_words, .ref mo_atape, .ref mo_asort, .ref mo_anumber, .ref mo_aclauses, .ref mo_asumAt, .ref mo_atestAt, .ref mo_aendAt, .ref mo_aopen, .ref mo_aasked, .ref mo_astack, .ref mo_amust, .ref mo_apast, .ref mo_apastOf, .int mo_pastMany, .int mo_pastAt, .int mo_takesBack, .ref mo_acanRise, .ref mo_afirstHas, .ref mo_asecondHas, .ref mo_alay, .ref mo_ashows, .ref mo_aimages, .ref mo_aisMade, .int mo_imageAt, .int mo_goesBack])), (mo_anewCane, hcI k 4 mo_rnewCane), (mo_anewHeight, hcI k 8 mo_rnewHeight), (mo_anewStrand, hcI k 8 mo_rnewStrand), (mo_anewChair, hcI k 8 mo_rnewChair), (mo_anewWeight, hcI k 8 mo_rnewWeight), (mo_atape, hcY k 400 mo_rtape), (mo_anewScalar, hcI k 4 (sc4 1 mo_n1 mo_n2 mo_n3))]) := hD
    refine lv_goto (tgt := 125) hx hb dX9_hallPart_35 (by decide) ?_
    exact hc_endV hx hb hr hlocks (1, mo_p, mo_fault, mo_rnewCane, mo_n1, mo_rnewHeight, mo_rnewStrand, mo_n2, mo_rnewChair, mo_rnewWeight, mo_n3) ⟨(show iv (0) (1) 1 from iv_lit (by decide) (by decide)), (show iv (0) (402) mo_p from ⟨by omega, by omega⟩), (show iv (0) (4000) mo_fault from ⟨by omega, by omega⟩), (show iv (0) (4) mo_n1 from ⟨by omega, by omega⟩), (show iv (0) (8) mo_n2 from ⟨by omega, by omega⟩), h_mo_rnewChair, h_mo_rnewWeight, (show iv (0) (8) mo_n3 from ⟨by omega, by omega⟩), (by (try dsimp only); omega), hh_NHall⟩ hP hD hS dX9_hallPart_125
  · refine lv_tableIn (off := 37) (tgt := 38) hx hb dX9_hallPart_1 (by omega) (by omega) (by rw [s1]; rfl) (by decide) ?_
    refine lv_aload_n hx hb dX9_hallPart_38 rfl (lv_at hl 0 rfl) ?_
    refine va_get (D := D) (ci := 7) (v := .ref mo_anewCane) (C := RX9) (T := TX9) (N := 53) hx hb hts in9 hown hG.1 hP 0 rfl rfl 13 (by decide) (hts (.fieldLink RX9 46 "ChairCaneModel" "newCane" "[I") (by decide +kernel)) (fun _ h9 => h9) rfl dX9_hallPart_39 ?_
    refine lv_aload_n hx hb dX9_hallPart_42 rfl (lv_at hl 0 rfl) ?_
    refine va_get (D := D) (ci := 7) (v := .ref mo_anewScalar) (C := RX9) (T := TX9) (N := 53) hx hb hts in9 hown hG.1 hP 0 rfl rfl 12 (by decide) (hts (.fieldLink RX9 43 "ChairCaneModel" "newScalar" "[I") (by decide +kernel)) (fun _ h9 => h9) rfl dX9_hallPart_43 ?_
    refine lv_iconst (v := 1) hx hb dX9_hallPart_46 (by decide) ?_
    refine va_iald hx hb hG.1 hP 7 0 rfl rfl (by unfold vp_in; decide) dX9_hallPart_47 ?_
    refine hc_is (z := mo_n1) (by rw [show Int32.toNatClampNeg 1 = 1 from by decide]; rfl) ?_
    refine lv_aload_n hx hb dX9_hallPart_48 rfl (lv_at hl 0 rfl) ?_
    refine lv_iconst (v := 0) hx hb dX9_hallPart_49 (by decide) ?_
    refine lv_bipush (v := 99) hx hb dX9_hallPart_50 (by decide) ?_
    have ql2 : (0 : Int32).toInt = 0 := by decide
    have ql3 : (99 : Int32).toInt = 99 := by decide
    refine hc_Vi (As := [.int 0, .int 99]) (rest := [.int mo_n1, .ref mo_anewCane]) (n := 2) (wr := [(mo_anewCane, hcI k 4 mo_rnewCane), (mo_anewHeight, hcI k 8 mo_rnewHeight), (mo_anewStrand, hcI k 8 mo_rnewStrand), (mo_anewChair, hcI k 8 mo_rnewChair), (mo_anewWeight, hcI k 8 mo_rnewWeight), (mo_anewScalar, hcI k 4 (sc4 mo_n0 mo_n1 mo_n2 mo_n3))]) hx hb hml hown hts hG hA hP hD hS hl.1 [0, 6] [1, 2, 3, 4, 5, 7] (i_X9_amount l D k _ 0 99 mo mo_thrown mo_ascalar mo_acane mo_ais mo_astrandOf mo_aweight mo_aheight mo_achairOf mo_anoteMinute mo_anoteWho mo_anoteIs mo_atoldCane mo_anewScalar mo_anewCane mo_anewHeight mo_anewStrand mo_anewChair mo_anewWeight mo_taped mo_p mo_fault mo_slot mo_rules mo_entries mo_deep mo_counted mo_opened mo_words mo_atape mo_asort mo_anumber mo_aclauses mo_asumAt mo_atestAt mo_aendAt mo_aopen mo_aasked mo_astack mo_amust mo_apast mo_apastOf mo_pastMany mo_pastAt mo_takesBack mo_acanRise mo_afirstHas mo_asecondHas mo_alay mo_ashows mo_aimages mo_aisMade mo_imageAt mo_goesBack mo_rtape ⟨by omega, by omega⟩ ⟨by omega, by omega⟩ ⟨by omega, by omega⟩ ⟨by omega, by omega⟩ ⟨by omega, by omega⟩ ⟨by omega, by omega⟩ ⟨by omega, by omega⟩ ⟨by omega, by omega⟩ ⟨by omega, by omega⟩ ⟨by omega, by omega⟩ ⟨by omega, by omega⟩ ⟨by omega, by omega⟩ ⟨by omega, by omega⟩ ⟨by omega, by omega⟩ (by omega)) (ci := 7) (q0 := 0) rfl rfl gX9_hallPart_X9_amount rfl ⟨rfl, rfl, Nat.le_of_ble_eq_true rfl, Nat.le_of_ble_eq_true rfl⟩ (by decide +kernel) rfl rfl ⟨by decide, by decide, by decide⟩ ⟨rfl, rfl, Nat.le_of_ble_eq_true rfl, Nat.le_of_ble_eq_true rfl, Nat.le_of_ble_eq_true rfl⟩ dX9_hallPart_52 (fun r5 u4 H locs hw hP hD hS => ?_)
    obtain ⟨w6, w7⟩ := u4
    have hP : va_P D vwCl ([(mo_anewCane, hcI k 4 mo_rnewCane), (mo_anewHeight, hcI k 8 mo_rnewHeight), (mo_anewStrand, hcI k 8 mo_rnewStrand), (mo_anewChair, hcI k 8 mo_rnewChair), (mo_anewWeight, hcI k 8 mo_rnewWeight), (mo_anewScalar, hcI k 4 (sc4 mo_n0 mo_n1 mo_n2 mo_n3)), (mo, .inr (7, [.int mo_thrown, .ref mo_ascalar, .ref mo_acane, .ref mo_ais, .ref mo_astrandOf, .ref mo_aweight, .ref mo_aheight, .ref mo_achairOf, .ref mo_anoteMinute, .ref mo_anoteWho, .ref mo_anoteIs, .ref mo_atoldCane, .ref mo_anewScalar, .ref mo_anewCane, .ref mo_anewHeight, .ref mo_anewStrand, .ref mo_anewChair, .ref mo_anewWeight, .int mo_taped, .int w6, .int w7, .int mo_slot, .int mo_rules, .int mo_entries, .int mo_deep, .int mo_counted, .int mo_opened, .int mo_words, .ref mo_atape, .ref mo_asort, .ref mo_anumber, .ref mo_aclauses, .ref mo_asumAt, .ref mo_atestAt, .ref mo_aendAt, .ref mo_aopen, .ref mo_aasked, .ref mo_astack, .ref mo_amust, .ref mo_apast, .ref mo_apastOf, .int mo_pastMany, .int mo_pastAt, .int mo_takesBack, .ref mo_acanRise, .ref mo_afirstHas, .ref mo_asecondHas, .ref mo_alay, .ref mo_ashows, .ref mo_aimages, .ref mo_aisMade, .int mo_imageAt, .int mo_goesBack])), (mo_atape, hcY k 400 mo_rtape)]) H := hP
    have hD : va_D A ([(mo_anewCane, hcI k 4 mo_rnewCane), (mo_anewHeight, hcI k 8 mo_rnewHeight), (mo_anewStrand, hcI k 8 mo_rnewStrand), (mo_anewChair, hcI k 8 mo_rnewChair), (mo_anewWeight, hcI k 8 mo_rnewWeight), (mo_anewScalar, hcI k 4 (sc4 mo_n0 mo_n1 mo_n2 mo_n3)), (mo, .inr (7, [.int mo_thrown, .ref mo_ascalar, .ref mo_acane, .ref mo_ais, .ref mo_astrandOf, .ref mo_aweight, .ref mo_aheight, .ref mo_achairOf, .ref mo_anoteMinute, .ref mo_anoteWho, .ref mo_anoteIs, .ref mo_atoldCane, .ref mo_anewScalar, .ref mo_anewCane, .ref mo_anewHeight, .ref mo_anewStrand, .ref mo_anewChair, .ref mo_anewWeight, .int mo_taped, .int w6, .int w7, .int mo_slot, .int mo_rules, .int mo_entries, .int mo_deep, .int mo_counted, .int mo_opened, .int mo_words, .ref mo_atape, .ref mo_asort, .ref mo_anumber, .ref mo_aclauses, .ref mo_asumAt, .ref mo_atestAt, .ref mo_aendAt, .ref mo_aopen, .ref mo_aasked, .ref mo_astack, .ref mo_amust, .ref mo_apast, .ref mo_apastOf, .int mo_pastMany, .int mo_pastAt, .int mo_takesBack, .ref mo_acanRise, .ref mo_afirstHas, .ref mo_asecondHas, .ref mo_alay, .ref mo_ashows, .ref mo_aimages, .ref mo_aisMade, .int mo_imageAt, .int mo_goesBack])), (mo_atape, hcY k 400 mo_rtape)]) := hD
    have ql9 : (0 : Int32).toInt = 0 := by decide
    have ql10 : (99 : Int32).toInt = 99 := by decide
    obtain ⟨bw6, bw7, rel8⟩ := hw
    have bw6 : iv (0) (402) w6 := bw6
    have bw6_l := bw6.1
    have bw6_u := bw6.2
    have bw7 : iv (0) (4000) w7 := bw7
    have bw7_l := bw7.1
    have bw7_u := bw7.2
    try dsimp only at rel8
    have hh11 : NHall w7 mo_n2 mo_n3 mo_rnewStrand mo_rnewChair mo_rnewWeight := NHall.F hh_NHall (by omega)
    refine va_iast hx hb hG.1 hP hD hS 0 0 rfl rfl (vp_in_iff.mpr ⟨by omega, by omega⟩) dX9_hallPart_55 (fun H locs hP hD hS => ?_)
    obtain ⟨f12, ef12⟩ : ∃ f, f = upd mo_rnewCane (Int32.toNatClampNeg mo_n1) (r5) := ⟨_, rfl⟩
    rw [← ef12] at hP hD
    have hP : va_P D vwCl ([(mo_anewCane, hcI k 4 f12), (mo_anewHeight, hcI k 8 mo_rnewHeight), (mo_anewStrand, hcI k 8 mo_rnewStrand), (mo_anewChair, hcI k 8 mo_rnewChair), (mo_anewWeight, hcI k 8 mo_rnewWeight), (mo_anewScalar, hcI k 4 (sc4 mo_n0 mo_n1 mo_n2 mo_n3)), (mo, .inr (7, [.int mo_thrown, .ref mo_ascalar, .ref mo_acane, .ref mo_ais, .ref mo_astrandOf, .ref mo_aweight, .ref mo_aheight, .ref mo_achairOf, .ref mo_anoteMinute, .ref mo_anoteWho, .ref mo_anoteIs, .ref mo_atoldCane, .ref mo_anewScalar, .ref mo_anewCane, .ref mo_anewHeight, .ref mo_anewStrand, .ref mo_anewChair, .ref mo_anewWeight, .int mo_taped, .int w6, .int w7, .int mo_slot, .int mo_rules, .int mo_entries, .int mo_deep, .int mo_counted, .int mo_opened, .int mo_words, .ref mo_atape, .ref mo_asort, .ref mo_anumber, .ref mo_aclauses, .ref mo_asumAt, .ref mo_atestAt, .ref mo_aendAt, .ref mo_aopen, .ref mo_aasked, .ref mo_astack, .ref mo_amust, .ref mo_apast, .ref mo_apastOf, .int mo_pastMany, .int mo_pastAt, .int mo_takesBack, .ref mo_acanRise, .ref mo_afirstHas, .ref mo_asecondHas, .ref mo_alay, .ref mo_ashows, .ref mo_aimages, .ref mo_aisMade, .int mo_imageAt, .int mo_goesBack])), (mo_atape, hcY k 400 mo_rtape)]) H := hP
    have hD : va_D A ([(mo_anewCane, hcI k 4 f12), (mo_anewHeight, hcI k 8 mo_rnewHeight), (mo_anewStrand, hcI k 8 mo_rnewStrand), (mo_anewChair, hcI k 8 mo_rnewChair), (mo_anewWeight, hcI k 8 mo_rnewWeight), (mo_anewScalar, hcI k 4 (sc4 mo_n0 mo_n1 mo_n2 mo_n3)), (mo, .inr (7, [.int mo_thrown, .ref mo_ascalar, .ref mo_acane, .ref mo_ais, .ref mo_astrandOf, .ref mo_aweight, .ref mo_aheight, .ref mo_achairOf, .ref mo_anoteMinute, .ref mo_anoteWho, .ref mo_anoteIs, .ref mo_atoldCane, .ref mo_anewScalar, .ref mo_anewCane, .ref mo_anewHeight, .ref mo_anewStrand, .ref mo_anewChair, .ref mo_anewWeight, .int mo_taped, .int w6, .int w7, .int mo_slot, .int mo_rules, .int mo_entries, .int mo_deep, .int mo_counted, .int mo_opened, .int mo_words, .ref mo_atape, .ref mo_asort, .ref mo_anumber, .ref mo_aclauses, .ref mo_asumAt, .ref mo_atestAt, .ref mo_aendAt, .ref mo_aopen, .ref mo_aasked, .ref mo_astack, .ref mo_amust, .ref mo_apast, .ref mo_apastOf, .int mo_pastMany, .int mo_pastAt, .int mo_takesBack, .ref mo_acanRise, .ref mo_afirstHas, .ref mo_asecondHas, .ref mo_alay, .ref mo_ashows, .ref mo_aimages, .ref mo_aisMade, .int mo_imageAt, .int mo_goesBack])), (mo_atape, hcY k 400 mo_rtape)]) := hD
    refine lv_aload_n hx hb dX9_hallPart_56 rfl (lv_at hl 0 rfl) ?_
    refine va_get (D := D) (ci := 7) (v := .ref mo_anewScalar) (C := RX9) (T := TX9) (N := 53) hx hb hts in9 hown hG.1 hP 6 rfl rfl 12 (by decide) (hts (.fieldLink RX9 43 "ChairCaneModel" "newScalar" "[I") (by decide +kernel)) (fun _ h9 => h9) rfl dX9_hallPart_57 ?_
    refine lv_iconst (v := 1) hx hb dX9_hallPart_60 (by decide) ?_
    refine lv_dup2_11 hx hb dX9_hallPart_61 rfl rfl ?_
    refine va_iald hx hb hG.1 hP 5 0 rfl rfl (by unfold vp_in; decide) dX9_hallPart_62 ?_
    refine hc_is (z := mo_n1) (by rw [show Int32.toNatClampNeg 1 = 1 from by decide]; rfl) ?_
    refine lv_iconst (v := 1) hx hb dX9_hallPart_63 (by decide) ?_
    refine lv_iadd hx hb dX9_hallPart_64 ?_
    refine lv_topi (fun z13 ez13 => ?_)
    have tz13 : z13.toInt = mo_n1.toInt + 1 := ai_add rfl (by decide) ez13 (by omega) (by omega)
    refine va_iast hx hb hG.1 hP hD hS 5 0 rfl rfl (by unfold vp_in; decide) dX9_hallPart_65 (fun H locs hP hD hS => ?_)
    rw [sc4_u1] at hP hD
    have hP : va_P D vwCl ([(mo_anewCane, hcI k 4 f12), (mo_anewHeight, hcI k 8 mo_rnewHeight), (mo_anewStrand, hcI k 8 mo_rnewStrand), (mo_anewChair, hcI k 8 mo_rnewChair), (mo_anewWeight, hcI k 8 mo_rnewWeight), (mo_anewScalar, hcI k 4 (sc4 mo_n0 z13 mo_n2 mo_n3)), (mo, .inr (7, [.int mo_thrown, .ref mo_ascalar, .ref mo_acane, .ref mo_ais, .ref mo_astrandOf, .ref mo_aweight, .ref mo_aheight, .ref mo_achairOf, .ref mo_anoteMinute, .ref mo_anoteWho, .ref mo_anoteIs, .ref mo_atoldCane, .ref mo_anewScalar, .ref mo_anewCane, .ref mo_anewHeight, .ref mo_anewStrand, .ref mo_anewChair, .ref mo_anewWeight, .int mo_taped, .int w6, .int w7, .int mo_slot, .int mo_rules, .int mo_entries, .int mo_deep, .int mo_counted, .int mo_opened, .int mo_words, .ref mo_atape, .ref mo_asort, .ref mo_anumber, .ref mo_aclauses, .ref mo_asumAt, .ref mo_atestAt, .ref mo_aendAt, .ref mo_aopen, .ref mo_aasked, .ref mo_astack, .ref mo_amust, .ref mo_apast, .ref mo_apastOf, .int mo_pastMany, .int mo_pastAt, .int mo_takesBack, .ref mo_acanRise, .ref mo_afirstHas, .ref mo_asecondHas, .ref mo_alay, .ref mo_ashows, .ref mo_aimages, .ref mo_aisMade, .int mo_imageAt, .int mo_goesBack])), (mo_atape, hcY k 400 mo_rtape)]) H := hP
    have hD : va_D A ([(mo_anewCane, hcI k 4 f12), (mo_anewHeight, hcI k 8 mo_rnewHeight), (mo_anewStrand, hcI k 8 mo_rnewStrand), (mo_anewChair, hcI k 8 mo_rnewChair), (mo_anewWeight, hcI k 8 mo_rnewWeight), (mo_anewScalar, hcI k 4 (sc4 mo_n0 z13 mo_n2 mo_n3)), (mo, .inr (7, [.int mo_thrown, .ref mo_ascalar, .ref mo_acane, .ref mo_ais, .ref mo_astrandOf, .ref mo_aweight, .ref mo_aheight, .ref mo_achairOf, .ref mo_anoteMinute, .ref mo_anoteWho, .ref mo_anoteIs, .ref mo_atoldCane, .ref mo_anewScalar, .ref mo_anewCane, .ref mo_anewHeight, .ref mo_anewStrand, .ref mo_anewChair, .ref mo_anewWeight, .int mo_taped, .int w6, .int w7, .int mo_slot, .int mo_rules, .int mo_entries, .int mo_deep, .int mo_counted, .int mo_opened, .int mo_words, .ref mo_atape, .ref mo_asort, .ref mo_anumber, .ref mo_aclauses, .ref mo_asumAt, .ref mo_atestAt, .ref mo_aendAt, .ref mo_aopen, .ref mo_aasked, .ref mo_astack, .ref mo_amust, .ref mo_apast, .ref mo_apastOf, .int mo_pastMany, .int mo_pastAt, .int mo_takesBack, .ref mo_acanRise, .ref mo_afirstHas, .ref mo_asecondHas, .ref mo_alay, .ref mo_ashows, .ref mo_aimages, .ref mo_aisMade, .int mo_imageAt, .int mo_goesBack])), (mo_atape, hcY k 400 mo_rtape)]) := hD
    refine lv_goto (tgt := 125) hx hb dX9_hallPart_66 (by decide) ?_
    exact hc_endV hx hb hr hlocks (mo_n0, w6, w7, f12, z13, mo_rnewHeight, mo_rnewStrand, mo_n2, mo_rnewChair, mo_rnewWeight, mo_n3) ⟨(show iv (0) (1) mo_n0 from ⟨by omega, by omega⟩), (show iv (0) (402) w6 from ⟨by omega, by omega⟩), (show iv (0) (4000) w7 from ⟨by omega, by omega⟩), (show iv (0) (4) z13 from ⟨by omega, by omega⟩), (show iv (0) (8) mo_n2 from ⟨by omega, by omega⟩), h_mo_rnewChair, h_mo_rnewWeight, (show iv (0) (8) mo_n3 from ⟨by omega, by omega⟩), (by (try dsimp only); omega), hh11⟩ (hP.sub [6, 0, 1, 2, 3, 4, 7, 5] rfl) (hD.sub [6, 0, 1, 2, 3, 4, 7, 5] (by decide) rfl) hS dX9_hallPart_125
  · refine lv_tableIn (off := 68) (tgt := 69) hx hb dX9_hallPart_1 (by omega) (by omega) (by rw [s1]; rfl) (by decide) ?_
    refine lv_aload_n hx hb dX9_hallPart_69 rfl (lv_at hl 0 rfl) ?_
    refine va_get (D := D) (ci := 7) (v := .ref mo_anewScalar) (C := RX9) (T := TX9) (N := 53) hx hb hts in9 hown hG.1 hP 0 rfl rfl 12 (by decide) (hts (.fieldLink RX9 43 "ChairCaneModel" "newScalar" "[I") (by decide +kernel)) (fun _ h9 => h9) rfl dX9_hallPart_70 ?_
    refine lv_iconst (v := 2) hx hb dX9_hallPart_73 (by decide) ?_
    refine va_iald hx hb hG.1 hP 7 0 rfl rfl (by unfold vp_in; decide) dX9_hallPart_74 ?_
    refine hc_is (z := mo_n2) (by rw [show Int32.toNatClampNeg 2 = 2 from by decide]; rfl) ?_
    refine lv_istore_n (lv' := [(2, .int mo_n2), (0, .ref mo), (1, .int x1)]) hx hb dX9_hallPart_75 rfl hl (by decide) rfl (fun ls hl => ?_)
    refine lv_aload_n hx hb dX9_hallPart_76 rfl (lv_at hl 1 rfl) ?_
    refine va_get (D := D) (ci := 7) (v := .ref mo_anewHeight) (C := RX9) (T := TX9) (N := 53) hx hb hts in9 hown hG.1 hP 0 rfl rfl 14 (by decide) (hts (.fieldLink RX9 49 "ChairCaneModel" "newHeight" "[I") (by decide +kernel)) (fun _ h9 => h9) rfl dX9_hallPart_77 ?_
    refine lv_iload_n hx hb dX9_hallPart_80 rfl (lv_at hl 0 rfl) ?_
    refine lv_aload_n hx hb dX9_hallPart_81 rfl (lv_at hl 1 rfl) ?_
    refine lv_iconst (v := 1) hx hb dX9_hallPart_82 (by decide) ?_
    refine lv_bipush (v := 60) hx hb dX9_hallPart_83 (by decide) ?_
    have ql14 : (1 : Int32).toInt = 1 := by decide
    have ql15 : (60 : Int32).toInt = 60 := by decide
    refine hc_Vi (As := [.int 1, .int 60]) (rest := [.int mo_n2, .ref mo_anewHeight]) (n := 2) (wr := [(mo_anewCane, hcI k 4 mo_rnewCane), (mo_anewHeight, hcI k 8 mo_rnewHeight), (mo_anewStrand, hcI k 8 mo_rnewStrand), (mo_anewChair, hcI k 8 mo_rnewChair), (mo_anewWeight, hcI k 8 mo_rnewWeight), (mo_anewScalar, hcI k 4 (sc4 mo_n0 mo_n1 mo_n2 mo_n3))]) hx hb hml hown hts hG hA hP hD hS hl.1 [0, 6] [1, 2, 3, 4, 5, 7] (i_X9_amount l D k _ 1 60 mo mo_thrown mo_ascalar mo_acane mo_ais mo_astrandOf mo_aweight mo_aheight mo_achairOf mo_anoteMinute mo_anoteWho mo_anoteIs mo_atoldCane mo_anewScalar mo_anewCane mo_anewHeight mo_anewStrand mo_anewChair mo_anewWeight mo_taped mo_p mo_fault mo_slot mo_rules mo_entries mo_deep mo_counted mo_opened mo_words mo_atape mo_asort mo_anumber mo_aclauses mo_asumAt mo_atestAt mo_aendAt mo_aopen mo_aasked mo_astack mo_amust mo_apast mo_apastOf mo_pastMany mo_pastAt mo_takesBack mo_acanRise mo_afirstHas mo_asecondHas mo_alay mo_ashows mo_aimages mo_aisMade mo_imageAt mo_goesBack mo_rtape ⟨by omega, by omega⟩ ⟨by omega, by omega⟩ ⟨by omega, by omega⟩ ⟨by omega, by omega⟩ ⟨by omega, by omega⟩ ⟨by omega, by omega⟩ ⟨by omega, by omega⟩ ⟨by omega, by omega⟩ ⟨by omega, by omega⟩ ⟨by omega, by omega⟩ ⟨by omega, by omega⟩ ⟨by omega, by omega⟩ ⟨by omega, by omega⟩ ⟨by omega, by omega⟩ (by omega)) (ci := 7) (q0 := 0) rfl rfl gX9_hallPart_X9_amount rfl ⟨rfl, rfl, Nat.le_of_ble_eq_true rfl, Nat.le_of_ble_eq_true rfl⟩ (by decide +kernel) rfl rfl ⟨by decide, by decide, by decide⟩ ⟨rfl, rfl, Nat.le_of_ble_eq_true rfl, Nat.le_of_ble_eq_true rfl, Nat.le_of_ble_eq_true rfl⟩ dX9_hallPart_85 (fun r17 u16 H locs hw hP hD hS => ?_)
    obtain ⟨w18, w19⟩ := u16
    have hP : va_P D vwCl ([(mo_anewCane, hcI k 4 mo_rnewCane), (mo_anewHeight, hcI k 8 mo_rnewHeight), (mo_anewStrand, hcI k 8 mo_rnewStrand), (mo_anewChair, hcI k 8 mo_rnewChair), (mo_anewWeight, hcI k 8 mo_rnewWeight), (mo_anewScalar, hcI k 4 (sc4 mo_n0 mo_n1 mo_n2 mo_n3)), (mo, .inr (7, [.int mo_thrown, .ref mo_ascalar, .ref mo_acane, .ref mo_ais, .ref mo_astrandOf, .ref mo_aweight, .ref mo_aheight, .ref mo_achairOf, .ref mo_anoteMinute, .ref mo_anoteWho, .ref mo_anoteIs, .ref mo_atoldCane, .ref mo_anewScalar, .ref mo_anewCane, .ref mo_anewHeight, .ref mo_anewStrand, .ref mo_anewChair, .ref mo_anewWeight, .int mo_taped, .int w18, .int w19, .int mo_slot, .int mo_rules, .int mo_entries, .int mo_deep, .int mo_counted, .int mo_opened, .int mo_words, .ref mo_atape, .ref mo_asort, .ref mo_anumber, .ref mo_aclauses, .ref mo_asumAt, .ref mo_atestAt, .ref mo_aendAt, .ref mo_aopen, .ref mo_aasked, .ref mo_astack, .ref mo_amust, .ref mo_apast, .ref mo_apastOf, .int mo_pastMany, .int mo_pastAt, .int mo_takesBack, .ref mo_acanRise, .ref mo_afirstHas, .ref mo_asecondHas, .ref mo_alay, .ref mo_ashows, .ref mo_aimages, .ref mo_aisMade, .int mo_imageAt, .int mo_goesBack])), (mo_atape, hcY k 400 mo_rtape)]) H := hP
    have hD : va_D A ([(mo_anewCane, hcI k 4 mo_rnewCane), (mo_anewHeight, hcI k 8 mo_rnewHeight), (mo_anewStrand, hcI k 8 mo_rnewStrand), (mo_anewChair, hcI k 8 mo_rnewChair), (mo_anewWeight, hcI k 8 mo_rnewWeight), (mo_anewScalar, hcI k 4 (sc4 mo_n0 mo_n1 mo_n2 mo_n3)), (mo, .inr (7, [.int mo_thrown, .ref mo_ascalar, .ref mo_acane, .ref mo_ais, .ref mo_astrandOf, .ref mo_aweight, .ref mo_aheight, .ref mo_achairOf, .ref mo_anoteMinute, .ref mo_anoteWho, .ref mo_anoteIs, .ref mo_atoldCane, .ref mo_anewScalar, .ref mo_anewCane, .ref mo_anewHeight, .ref mo_anewStrand, .ref mo_anewChair, .ref mo_anewWeight, .int mo_taped, .int w18, .int w19, .int mo_slot, .int mo_rules, .int mo_entries, .int mo_deep, .int mo_counted, .int mo_opened, .int mo_words, .ref mo_atape, .ref mo_asort, .ref mo_anumber, .ref mo_aclauses, .ref mo_asumAt, .ref mo_atestAt, .ref mo_aendAt, .ref mo_aopen, .ref mo_aasked, .ref mo_astack, .ref mo_amust, .ref mo_apast, .ref mo_apastOf, .int mo_pastMany, .int mo_pastAt, .int mo_takesBack, .ref mo_acanRise, .ref mo_afirstHas, .ref mo_asecondHas, .ref mo_alay, .ref mo_ashows, .ref mo_aimages, .ref mo_aisMade, .int mo_imageAt, .int mo_goesBack])), (mo_atape, hcY k 400 mo_rtape)]) := hD
    have ql21 : (1 : Int32).toInt = 1 := by decide
    have ql22 : (60 : Int32).toInt = 60 := by decide
    obtain ⟨bw18, bw19, rel20⟩ := hw
    have bw18 : iv (0) (402) w18 := bw18
    have bw18_l := bw18.1
    have bw18_u := bw18.2
    have bw19 : iv (0) (4000) w19 := bw19
    have bw19_l := bw19.1
    have bw19_u := bw19.2
    try dsimp only at rel20
    have hh23 : NHall w19 mo_n2 mo_n3 mo_rnewStrand mo_rnewChair mo_rnewWeight := NHall.F hh_NHall (by omega)
    refine va_iast hx hb hG.1 hP hD hS 1 0 rfl rfl (vp_in_iff.mpr ⟨by omega, by omega⟩) dX9_hallPart_88 (fun H locs hP hD hS => ?_)
    obtain ⟨f24, ef24⟩ : ∃ f, f = upd mo_rnewHeight (Int32.toNatClampNeg mo_n2) (r17) := ⟨_, rfl⟩
    rw [← ef24] at hP hD
    have hP : va_P D vwCl ([(mo_anewCane, hcI k 4 mo_rnewCane), (mo_anewHeight, hcI k 8 f24), (mo_anewStrand, hcI k 8 mo_rnewStrand), (mo_anewChair, hcI k 8 mo_rnewChair), (mo_anewWeight, hcI k 8 mo_rnewWeight), (mo_anewScalar, hcI k 4 (sc4 mo_n0 mo_n1 mo_n2 mo_n3)), (mo, .inr (7, [.int mo_thrown, .ref mo_ascalar, .ref mo_acane, .ref mo_ais, .ref mo_astrandOf, .ref mo_aweight, .ref mo_aheight, .ref mo_achairOf, .ref mo_anoteMinute, .ref mo_anoteWho, .ref mo_anoteIs, .ref mo_atoldCane, .ref mo_anewScalar, .ref mo_anewCane, .ref mo_anewHeight, .ref mo_anewStrand, .ref mo_anewChair, .ref mo_anewWeight, .int mo_taped, .int w18, .int w19, .int mo_slot, .int mo_rules, .int mo_entries, .int mo_deep, .int mo_counted, .int mo_opened, .int mo_words, .ref mo_atape, .ref mo_asort, .ref mo_anumber, .ref mo_aclauses, .ref mo_asumAt, .ref mo_atestAt, .ref mo_aendAt, .ref mo_aopen, .ref mo_aasked, .ref mo_astack, .ref mo_amust, .ref mo_apast, .ref mo_apastOf, .int mo_pastMany, .int mo_pastAt, .int mo_takesBack, .ref mo_acanRise, .ref mo_afirstHas, .ref mo_asecondHas, .ref mo_alay, .ref mo_ashows, .ref mo_aimages, .ref mo_aisMade, .int mo_imageAt, .int mo_goesBack])), (mo_atape, hcY k 400 mo_rtape)]) H := hP
    have hD : va_D A ([(mo_anewCane, hcI k 4 mo_rnewCane), (mo_anewHeight, hcI k 8 f24), (mo_anewStrand, hcI k 8 mo_rnewStrand), (mo_anewChair, hcI k 8 mo_rnewChair), (mo_anewWeight, hcI k 8 mo_rnewWeight), (mo_anewScalar, hcI k 4 (sc4 mo_n0 mo_n1 mo_n2 mo_n3)), (mo, .inr (7, [.int mo_thrown, .ref mo_ascalar, .ref mo_acane, .ref mo_ais, .ref mo_astrandOf, .ref mo_aweight, .ref mo_aheight, .ref mo_achairOf, .ref mo_anoteMinute, .ref mo_anoteWho, .ref mo_anoteIs, .ref mo_atoldCane, .ref mo_anewScalar, .ref mo_anewCane, .ref mo_anewHeight, .ref mo_anewStrand, .ref mo_anewChair, .ref mo_anewWeight, .int mo_taped, .int w18, .int w19, .int mo_slot, .int mo_rules, .int mo_entries, .int mo_deep, .int mo_counted, .int mo_opened, .int mo_words, .ref mo_atape, .ref mo_asort, .ref mo_anumber, .ref mo_aclauses, .ref mo_asumAt, .ref mo_atestAt, .ref mo_aendAt, .ref mo_aopen, .ref mo_aasked, .ref mo_astack, .ref mo_amust, .ref mo_apast, .ref mo_apastOf, .int mo_pastMany, .int mo_pastAt, .int mo_takesBack, .ref mo_acanRise, .ref mo_afirstHas, .ref mo_asecondHas, .ref mo_alay, .ref mo_ashows, .ref mo_aimages, .ref mo_aisMade, .int mo_imageAt, .int mo_goesBack])), (mo_atape, hcY k 400 mo_rtape)]) := hD
    refine lv_aload_n hx hb dX9_hallPart_89 rfl (lv_at hl 1 rfl) ?_
    refine va_get (D := D) (ci := 7) (v := .ref mo_anewStrand) (C := RX9) (T := TX9) (N := 53) hx hb hts in9 hown hG.1 hP 6 rfl rfl 15 (by decide) (hts (.fieldLink RX9 52 "ChairCaneModel" "newStrand" "[I") (by decide +kernel)) (fun _ h9 => h9) rfl dX9_hallPart_90 ?_
    refine lv_iload_n hx hb dX9_hallPart_93 rfl (lv_at hl 0 rfl) ?_
    refine lv_aload_n hx hb dX9_hallPart_94 rfl (lv_at hl 1 rfl) ?_
    refine lv_iconst (v := 0) hx hb dX9_hallPart_95 (by decide) ?_
    refine lv_aload_n hx hb dX9_hallPart_96 rfl (lv_at hl 1 rfl) ?_
    refine va_get (D := D) (ci := 7) (v := .ref mo_anewScalar) (C := RX9) (T := TX9) (N := 53) hx hb hts in9 hown hG.1 hP 6 rfl rfl 12 (by decide) (hts (.fieldLink RX9 43 "ChairCaneModel" "newScalar" "[I") (by decide +kernel)) (fun _ h9 => h9) rfl dX9_hallPart_97 ?_
    refine lv_iconst (v := 1) hx hb dX9_hallPart_100 (by decide) ?_
    refine va_iald hx hb hG.1 hP 5 0 rfl rfl (by unfold vp_in; decide) dX9_hallPart_101 ?_
    refine hc_is (z := mo_n1) (by rw [show Int32.toNatClampNeg 1 = 1 from by decide]; rfl) ?_
    refine lv_iconst (v := 1) hx hb dX9_hallPart_102 (by decide) ?_
    refine lv_isub hx hb dX9_hallPart_103 ?_
    refine lv_topi (fun z25 ez25 => ?_)
    have tz25 : z25.toInt = mo_n1.toInt - 1 := ai_sub rfl (by decide) ez25 (by omega) (by omega)
    have ql26 : (0 : Int32).toInt = 0 := by decide
    refine hc_Vi (As := [.int 0, .int z25]) (rest := [.int mo_n2, .ref mo_anewStrand]) (n := 2) (wr := [(mo_anewCane, hcI k 4 mo_rnewCane), (mo_anewHeight, hcI k 8 f24), (mo_anewStrand, hcI k 8 mo_rnewStrand), (mo_anewChair, hcI k 8 mo_rnewChair), (mo_anewWeight, hcI k 8 mo_rnewWeight), (mo_anewScalar, hcI k 4 (sc4 mo_n0 mo_n1 mo_n2 mo_n3))]) hx hb hml hown hts hG hA hP hD hS hl.1 [6, 7] [0, 1, 2, 3, 4, 5] (i_X9_amount l D k _ 0 z25 mo mo_thrown mo_ascalar mo_acane mo_ais mo_astrandOf mo_aweight mo_aheight mo_achairOf mo_anoteMinute mo_anoteWho mo_anoteIs mo_atoldCane mo_anewScalar mo_anewCane mo_anewHeight mo_anewStrand mo_anewChair mo_anewWeight mo_taped w18 w19 mo_slot mo_rules mo_entries mo_deep mo_counted mo_opened mo_words mo_atape mo_asort mo_anumber mo_aclauses mo_asumAt mo_atestAt mo_aendAt mo_aopen mo_aasked mo_astack mo_amust mo_apast mo_apastOf mo_pastMany mo_pastAt mo_takesBack mo_acanRise mo_afirstHas mo_asecondHas mo_alay mo_ashows mo_aimages mo_aisMade mo_imageAt mo_goesBack mo_rtape ⟨by omega, by omega⟩ ⟨by omega, by omega⟩ ⟨by omega, by omega⟩ ⟨by omega, by omega⟩ ⟨by omega, by omega⟩ ⟨by omega, by omega⟩ ⟨by omega, by omega⟩ ⟨by omega, by omega⟩ ⟨by omega, by omega⟩ ⟨by omega, by omega⟩ ⟨by omega, by omega⟩ ⟨by omega, by omega⟩ ⟨by omega, by omega⟩ ⟨by omega, by omega⟩ (by omega)) (ci := 7) (q0 := 6) rfl rfl gX9_hallPart_X9_amount rfl ⟨rfl, rfl, Nat.le_of_ble_eq_true rfl, Nat.le_of_ble_eq_true rfl⟩ (by decide +kernel) rfl rfl ⟨by decide, by decide, by decide⟩ ⟨rfl, rfl, Nat.le_of_ble_eq_true rfl, Nat.le_of_ble_eq_true rfl, Nat.le_of_ble_eq_true rfl⟩ dX9_hallPart_104 (fun r28 u27 H locs hw hP hD hS => ?_)
    obtain ⟨w29, w30⟩ := u27
    have hP : va_P D vwCl ([(mo_anewCane, hcI k 4 mo_rnewCane), (mo_anewHeight, hcI k 8 f24), (mo_anewStrand, hcI k 8 mo_rnewStrand), (mo_anewChair, hcI k 8 mo_rnewChair), (mo_anewWeight, hcI k 8 mo_rnewWeight), (mo_anewScalar, hcI k 4 (sc4 mo_n0 mo_n1 mo_n2 mo_n3)), (mo, .inr (7, [.int mo_thrown, .ref mo_ascalar, .ref mo_acane, .ref mo_ais, .ref mo_astrandOf, .ref mo_aweight, .ref mo_aheight, .ref mo_achairOf, .ref mo_anoteMinute, .ref mo_anoteWho, .ref mo_anoteIs, .ref mo_atoldCane, .ref mo_anewScalar, .ref mo_anewCane, .ref mo_anewHeight, .ref mo_anewStrand, .ref mo_anewChair, .ref mo_anewWeight, .int mo_taped, .int w29, .int w30, .int mo_slot, .int mo_rules, .int mo_entries, .int mo_deep, .int mo_counted, .int mo_opened, .int mo_words, .ref mo_atape, .ref mo_asort, .ref mo_anumber, .ref mo_aclauses, .ref mo_asumAt, .ref mo_atestAt, .ref mo_aendAt, .ref mo_aopen, .ref mo_aasked, .ref mo_astack, .ref mo_amust, .ref mo_apast, .ref mo_apastOf, .int mo_pastMany, .int mo_pastAt, .int mo_takesBack, .ref mo_acanRise, .ref mo_afirstHas, .ref mo_asecondHas, .ref mo_alay, .ref mo_ashows, .ref mo_aimages, .ref mo_aisMade, .int mo_imageAt, .int mo_goesBack])), (mo_atape, hcY k 400 mo_rtape)]) H := hP
    have hD : va_D A ([(mo_anewCane, hcI k 4 mo_rnewCane), (mo_anewHeight, hcI k 8 f24), (mo_anewStrand, hcI k 8 mo_rnewStrand), (mo_anewChair, hcI k 8 mo_rnewChair), (mo_anewWeight, hcI k 8 mo_rnewWeight), (mo_anewScalar, hcI k 4 (sc4 mo_n0 mo_n1 mo_n2 mo_n3)), (mo, .inr (7, [.int mo_thrown, .ref mo_ascalar, .ref mo_acane, .ref mo_ais, .ref mo_astrandOf, .ref mo_aweight, .ref mo_aheight, .ref mo_achairOf, .ref mo_anoteMinute, .ref mo_anoteWho, .ref mo_anoteIs, .ref mo_atoldCane, .ref mo_anewScalar, .ref mo_anewCane, .ref mo_anewHeight, .ref mo_anewStrand, .ref mo_anewChair, .ref mo_anewWeight, .int mo_taped, .int w29, .int w30, .int mo_slot, .int mo_rules, .int mo_entries, .int mo_deep, .int mo_counted, .int mo_opened, .int mo_words, .ref mo_atape, .ref mo_asort, .ref mo_anumber, .ref mo_aclauses, .ref mo_asumAt, .ref mo_atestAt, .ref mo_aendAt, .ref mo_aopen, .ref mo_aasked, .ref mo_astack, .ref mo_amust, .ref mo_apast, .ref mo_apastOf, .int mo_pastMany, .int mo_pastAt, .int mo_takesBack, .ref mo_acanRise, .ref mo_afirstHas, .ref mo_asecondHas, .ref mo_alay, .ref mo_ashows, .ref mo_aimages, .ref mo_aisMade, .int mo_imageAt, .int mo_goesBack])), (mo_atape, hcY k 400 mo_rtape)]) := hD
    have ql32 : (0 : Int32).toInt = 0 := by decide
    obtain ⟨bw29, bw30, rel31⟩ := hw
    have bw29 : iv (0) (402) w29 := bw29
    have bw29_l := bw29.1
    have bw29_u := bw29.2
    have bw30 : iv (0) (4000) w30 := bw30
    have bw30_l := bw30.1
    have bw30_u := bw30.2
    try dsimp only at rel31
    have hh33 : NHall w30 mo_n2 mo_n3 mo_rnewStrand mo_rnewChair mo_rnewWeight := NHall.F hh23 (by omega)
    refine va_iast hx hb hG.1 hP hD hS 2 0 rfl rfl (vp_in_iff.mpr ⟨by omega, by omega⟩) dX9_hallPart_107 (fun H locs hP hD hS => ?_)
    obtain ⟨f34, ef34⟩ : ∃ f, f = upd mo_rnewStrand (Int32.toNatClampNeg mo_n2) (r28) := ⟨_, rfl⟩
    rw [← ef34] at hP hD
    have hP : va_P D vwCl ([(mo_anewCane, hcI k 4 mo_rnewCane), (mo_anewHeight, hcI k 8 f24), (mo_anewStrand, hcI k 8 f34), (mo_anewChair, hcI k 8 mo_rnewChair), (mo_anewWeight, hcI k 8 mo_rnewWeight), (mo_anewScalar, hcI k 4 (sc4 mo_n0 mo_n1 mo_n2 mo_n3)), (mo, .inr (7, [.int mo_thrown, .ref mo_ascalar, .ref mo_acane, .ref mo_ais, .ref mo_astrandOf, .ref mo_aweight, .ref mo_aheight, .ref mo_achairOf, .ref mo_anoteMinute, .ref mo_anoteWho, .ref mo_anoteIs, .ref mo_atoldCane, .ref mo_anewScalar, .ref mo_anewCane, .ref mo_anewHeight, .ref mo_anewStrand, .ref mo_anewChair, .ref mo_anewWeight, .int mo_taped, .int w29, .int w30, .int mo_slot, .int mo_rules, .int mo_entries, .int mo_deep, .int mo_counted, .int mo_opened, .int mo_words, .ref mo_atape, .ref mo_asort, .ref mo_anumber, .ref mo_aclauses, .ref mo_asumAt, .ref mo_atestAt, .ref mo_aendAt, .ref mo_aopen, .ref mo_aasked, .ref mo_astack, .ref mo_amust, .ref mo_apast, .ref mo_apastOf, .int mo_pastMany, .int mo_pastAt, .int mo_takesBack, .ref mo_acanRise, .ref mo_afirstHas, .ref mo_asecondHas, .ref mo_alay, .ref mo_ashows, .ref mo_aimages, .ref mo_aisMade, .int mo_imageAt, .int mo_goesBack])), (mo_atape, hcY k 400 mo_rtape)]) H := hP
    have hD : va_D A ([(mo_anewCane, hcI k 4 mo_rnewCane), (mo_anewHeight, hcI k 8 f24), (mo_anewStrand, hcI k 8 f34), (mo_anewChair, hcI k 8 mo_rnewChair), (mo_anewWeight, hcI k 8 mo_rnewWeight), (mo_anewScalar, hcI k 4 (sc4 mo_n0 mo_n1 mo_n2 mo_n3)), (mo, .inr (7, [.int mo_thrown, .ref mo_ascalar, .ref mo_acane, .ref mo_ais, .ref mo_astrandOf, .ref mo_aweight, .ref mo_aheight, .ref mo_achairOf, .ref mo_anoteMinute, .ref mo_anoteWho, .ref mo_anoteIs, .ref mo_atoldCane, .ref mo_anewScalar, .ref mo_anewCane, .ref mo_anewHeight, .ref mo_anewStrand, .ref mo_anewChair, .ref mo_anewWeight, .int mo_taped, .int w29, .int w30, .int mo_slot, .int mo_rules, .int mo_entries, .int mo_deep, .int mo_counted, .int mo_opened, .int mo_words, .ref mo_atape, .ref mo_asort, .ref mo_anumber, .ref mo_aclauses, .ref mo_asumAt, .ref mo_atestAt, .ref mo_aendAt, .ref mo_aopen, .ref mo_aasked, .ref mo_astack, .ref mo_amust, .ref mo_apast, .ref mo_apastOf, .int mo_pastMany, .int mo_pastAt, .int mo_takesBack, .ref mo_acanRise, .ref mo_afirstHas, .ref mo_asecondHas, .ref mo_alay, .ref mo_ashows, .ref mo_aimages, .ref mo_aisMade, .int mo_imageAt, .int mo_goesBack])), (mo_atape, hcY k 400 mo_rtape)]) := hD
    refine lv_aload_n hx hb dX9_hallPart_108 rfl (lv_at hl 1 rfl) ?_
    refine va_get (D := D) (ci := 7) (v := .ref mo_anewScalar) (C := RX9) (T := TX9) (N := 53) hx hb hts in9 hown hG.1 hP 6 rfl rfl 12 (by decide) (hts (.fieldLink RX9 43 "ChairCaneModel" "newScalar" "[I") (by decide +kernel)) (fun _ h9 => h9) rfl dX9_hallPart_109 ?_
    refine lv_iconst (v := 2) hx hb dX9_hallPart_112 (by decide) ?_
    refine lv_dup2_11 hx hb dX9_hallPart_113 rfl rfl ?_
    refine va_iald hx hb hG.1 hP 5 0 rfl rfl (by unfold vp_in; decide) dX9_hallPart_114 ?_
    refine hc_is (z := mo_n2) (by rw [show Int32.toNatClampNeg 2 = 2 from by decide]; rfl) ?_
    refine lv_iconst (v := 1) hx hb dX9_hallPart_115 (by decide) ?_
    refine lv_iadd hx hb dX9_hallPart_116 ?_
    refine lv_topi (fun z35 ez35 => ?_)
    have tz35 : z35.toInt = mo_n2.toInt + 1 := ai_add rfl (by decide) ez35 (by omega) (by omega)
    refine va_iast hx hb hG.1 hP hD hS 5 0 rfl rfl (by unfold vp_in; decide) dX9_hallPart_117 (fun H locs hP hD hS => ?_)
    rw [sc4_u2] at hP hD
    have hP : va_P D vwCl ([(mo_anewCane, hcI k 4 mo_rnewCane), (mo_anewHeight, hcI k 8 f24), (mo_anewStrand, hcI k 8 f34), (mo_anewChair, hcI k 8 mo_rnewChair), (mo_anewWeight, hcI k 8 mo_rnewWeight), (mo_anewScalar, hcI k 4 (sc4 mo_n0 mo_n1 z35 mo_n3)), (mo, .inr (7, [.int mo_thrown, .ref mo_ascalar, .ref mo_acane, .ref mo_ais, .ref mo_astrandOf, .ref mo_aweight, .ref mo_aheight, .ref mo_achairOf, .ref mo_anoteMinute, .ref mo_anoteWho, .ref mo_anoteIs, .ref mo_atoldCane, .ref mo_anewScalar, .ref mo_anewCane, .ref mo_anewHeight, .ref mo_anewStrand, .ref mo_anewChair, .ref mo_anewWeight, .int mo_taped, .int w29, .int w30, .int mo_slot, .int mo_rules, .int mo_entries, .int mo_deep, .int mo_counted, .int mo_opened, .int mo_words, .ref mo_atape, .ref mo_asort, .ref mo_anumber, .ref mo_aclauses, .ref mo_asumAt, .ref mo_atestAt, .ref mo_aendAt, .ref mo_aopen, .ref mo_aasked, .ref mo_astack, .ref mo_amust, .ref mo_apast, .ref mo_apastOf, .int mo_pastMany, .int mo_pastAt, .int mo_takesBack, .ref mo_acanRise, .ref mo_afirstHas, .ref mo_asecondHas, .ref mo_alay, .ref mo_ashows, .ref mo_aimages, .ref mo_aisMade, .int mo_imageAt, .int mo_goesBack])), (mo_atape, hcY k 400 mo_rtape)]) H := hP
    have hD : va_D A ([(mo_anewCane, hcI k 4 mo_rnewCane), (mo_anewHeight, hcI k 8 f24), (mo_anewStrand, hcI k 8 f34), (mo_anewChair, hcI k 8 mo_rnewChair), (mo_anewWeight, hcI k 8 mo_rnewWeight), (mo_anewScalar, hcI k 4 (sc4 mo_n0 mo_n1 z35 mo_n3)), (mo, .inr (7, [.int mo_thrown, .ref mo_ascalar, .ref mo_acane, .ref mo_ais, .ref mo_astrandOf, .ref mo_aweight, .ref mo_aheight, .ref mo_achairOf, .ref mo_anoteMinute, .ref mo_anoteWho, .ref mo_anoteIs, .ref mo_atoldCane, .ref mo_anewScalar, .ref mo_anewCane, .ref mo_anewHeight, .ref mo_anewStrand, .ref mo_anewChair, .ref mo_anewWeight, .int mo_taped, .int w29, .int w30, .int mo_slot, .int mo_rules, .int mo_entries, .int mo_deep, .int mo_counted, .int mo_opened, .int mo_words, .ref mo_atape, .ref mo_asort, .ref mo_anumber, .ref mo_aclauses, .ref mo_asumAt, .ref mo_atestAt, .ref mo_aendAt, .ref mo_aopen, .ref mo_aasked, .ref mo_astack, .ref mo_amust, .ref mo_apast, .ref mo_apastOf, .int mo_pastMany, .int mo_pastAt, .int mo_takesBack, .ref mo_acanRise, .ref mo_afirstHas, .ref mo_asecondHas, .ref mo_alay, .ref mo_ashows, .ref mo_aimages, .ref mo_aisMade, .int mo_imageAt, .int mo_goesBack])), (mo_atape, hcY k 400 mo_rtape)]) := hD
    refine lv_goto (tgt := 125) hx hb dX9_hallPart_118 (by decide) ?_
    have hh36 : NHall w30 z35 mo_n3 f34 mo_rnewChair mo_rnewWeight := NHall.chair hh33 (by omega) (fun q => ⟨by omega, by omega, by omega⟩) ef34 (by omega)
    exact hc_endV hx hb hr hlocks (mo_n0, w29, w30, mo_rnewCane, mo_n1, f24, f34, z35, mo_rnewChair, mo_rnewWeight, mo_n3) ⟨(show iv (0) (1) mo_n0 from ⟨by omega, by omega⟩), (show iv (0) (402) w29 from ⟨by omega, by omega⟩), (show iv (0) (4000) w30 from ⟨by omega, by omega⟩), (show iv (0) (4) mo_n1 from ⟨by omega, by omega⟩), (show iv (0) (8) z35 from ⟨by omega, by omega⟩), h_mo_rnewChair, h_mo_rnewWeight, (show iv (0) (8) mo_n3 from ⟨by omega, by omega⟩), (by (try dsimp only); omega), hh36⟩ (hP.sub [6, 0, 1, 2, 3, 4, 7, 5] rfl) (hD.sub [6, 0, 1, 2, 3, 4, 7, 5] (by decide) rfl) hS dX9_hallPart_125
  · refine lv_tableOut (tgt := 121) hx hb dX9_hallPart_1 (by omega) (by decide) ?_
    refine lv_aload_n hx hb dX9_hallPart_121 rfl (lv_at hl 0 rfl) ?_
    refine hc_Vv (As := []) (rest := []) (n := 0) (wr := []) hx hb hml hown hts hG hA hP hD hS hl.1 [0, 1, 2, 3, 4, 5, 6, 7] [] (i_X9_sitterPart l D k _ mo mo_thrown mo_ascalar mo_acane mo_ais mo_astrandOf mo_aweight mo_aheight mo_achairOf mo_anoteMinute mo_anoteWho mo_anoteIs mo_atoldCane mo_anewScalar mo_anewCane mo_anewHeight mo_anewStrand mo_anewChair mo_anewWeight mo_taped mo_p mo_fault mo_slot mo_rules mo_entries mo_deep mo_counted mo_opened mo_words mo_atape mo_asort mo_anumber mo_aclauses mo_asumAt mo_atestAt mo_aendAt mo_aopen mo_aasked mo_astack mo_amust mo_apast mo_apastOf mo_pastMany mo_pastAt mo_takesBack mo_acanRise mo_afirstHas mo_asecondHas mo_alay mo_ashows mo_aimages mo_aisMade mo_imageAt mo_goesBack mo_rnewCane mo_rnewHeight mo_rnewStrand mo_rnewChair mo_rnewWeight mo_rtape mo_n0 mo_n1 mo_n2 mo_n3 ⟨by omega, by omega⟩ ⟨by omega, by omega⟩ ⟨by omega, by omega⟩ ⟨by omega, by omega⟩ ⟨by omega, by omega⟩ ⟨by omega, by omega⟩ ⟨by omega, by omega⟩ ⟨by omega, by omega⟩ ⟨by omega, by omega⟩ ⟨by omega, by omega⟩ ⟨by omega, by omega⟩ ⟨by omega, by omega⟩ ⟨by omega, by omega⟩ ⟨by omega, by omega⟩ h_mo_rnewChair h_mo_rnewWeight ⟨by omega, by omega⟩ ⟨by omega, by omega⟩ ⟨by omega, by omega⟩ ⟨by omega, by omega⟩ (by omega) (by omega) hh_NHall) (ci := 7) (q0 := 0) rfl rfl gX9_hallPart_X9_sitterPart rfl ⟨rfl, rfl, Nat.le_of_ble_eq_true rfl, Nat.le_of_ble_eq_true rfl⟩ (by decide +kernel) rfl rfl ⟨by decide, by decide, by decide⟩ ⟨rfl, rfl, Nat.le_of_ble_eq_true rfl, Nat.le_of_ble_eq_true rfl, Nat.le_of_ble_eq_true rfl⟩ dX9_hallPart_122 (fun u37 H locs hw hP hD hS => ?_)
    obtain ⟨w39, w40, w41, w42, w43⟩ := u37
    have hP : va_P D vwCl ([(mo, .inr (7, [.int mo_thrown, .ref mo_ascalar, .ref mo_acane, .ref mo_ais, .ref mo_astrandOf, .ref mo_aweight, .ref mo_aheight, .ref mo_achairOf, .ref mo_anoteMinute, .ref mo_anoteWho, .ref mo_anoteIs, .ref mo_atoldCane, .ref mo_anewScalar, .ref mo_anewCane, .ref mo_anewHeight, .ref mo_anewStrand, .ref mo_anewChair, .ref mo_anewWeight, .int mo_taped, .int w39, .int w40, .int mo_slot, .int mo_rules, .int mo_entries, .int mo_deep, .int mo_counted, .int mo_opened, .int mo_words, .ref mo_atape, .ref mo_asort, .ref mo_anumber, .ref mo_aclauses, .ref mo_asumAt, .ref mo_atestAt, .ref mo_aendAt, .ref mo_aopen, .ref mo_aasked, .ref mo_astack, .ref mo_amust, .ref mo_apast, .ref mo_apastOf, .int mo_pastMany, .int mo_pastAt, .int mo_takesBack, .ref mo_acanRise, .ref mo_afirstHas, .ref mo_asecondHas, .ref mo_alay, .ref mo_ashows, .ref mo_aimages, .ref mo_aisMade, .int mo_imageAt, .int mo_goesBack])), (mo_anewCane, hcI k 4 mo_rnewCane), (mo_anewHeight, hcI k 8 mo_rnewHeight), (mo_anewStrand, hcI k 8 mo_rnewStrand), (mo_anewChair, hcI k 8 w41), (mo_anewWeight, hcI k 8 w42), (mo_atape, hcY k 400 mo_rtape), (mo_anewScalar, hcI k 4 (sc4 mo_n0 mo_n1 mo_n2 w43))]) H := hP
    have hD : va_D A ([(mo, .inr (7, [.int mo_thrown, .ref mo_ascalar, .ref mo_acane, .ref mo_ais, .ref mo_astrandOf, .ref mo_aweight, .ref mo_aheight, .ref mo_achairOf, .ref mo_anoteMinute, .ref mo_anoteWho, .ref mo_anoteIs, .ref mo_atoldCane, .ref mo_anewScalar, .ref mo_anewCane, .ref mo_anewHeight, .ref mo_anewStrand, .ref mo_anewChair, .ref mo_anewWeight, .int mo_taped, .int w39, .int w40, .int mo_slot, .int mo_rules, .int mo_entries, .int mo_deep, .int mo_counted, .int mo_opened, .int mo_words, .ref mo_atape, .ref mo_asort, .ref mo_anumber, .ref mo_aclauses, .ref mo_asumAt, .ref mo_atestAt, .ref mo_aendAt, .ref mo_aopen, .ref mo_aasked, .ref mo_astack, .ref mo_amust, .ref mo_apast, .ref mo_apastOf, .int mo_pastMany, .int mo_pastAt, .int mo_takesBack, .ref mo_acanRise, .ref mo_afirstHas, .ref mo_asecondHas, .ref mo_alay, .ref mo_ashows, .ref mo_aimages, .ref mo_aisMade, .int mo_imageAt, .int mo_goesBack])), (mo_anewCane, hcI k 4 mo_rnewCane), (mo_anewHeight, hcI k 8 mo_rnewHeight), (mo_anewStrand, hcI k 8 mo_rnewStrand), (mo_anewChair, hcI k 8 w41), (mo_anewWeight, hcI k 8 w42), (mo_atape, hcY k 400 mo_rtape), (mo_anewScalar, hcI k 4 (sc4 mo_n0 mo_n1 mo_n2 w43))]) := hD
    obtain ⟨bw39, bw40, h_w41, h_w42, bw43, rel44, hh45_NHall⟩ := hw
    have bw39 : iv (0) (402) w39 := bw39
    have bw39_l := bw39.1
    have bw39_u := bw39.2
    have bw40 : iv (0) (4000) w40 := bw40
    have bw40_l := bw40.1
    have bw40_u := bw40.2
    have h_w41 : rowIn (0) (7) w41 := h_w41
    have h_w42 : rowIn (0) (20) w42 := h_w42
    have bw43 : iv (0) (8) w43 := bw43
    have bw43_l := bw43.1
    have bw43_u := bw43.2
    try dsimp only at rel44
    have hh45_NHall : NHall w40 mo_n2 w43 mo_rnewStrand w41 w42 := hh45_NHall
    exact hc_endV hx hb hr hlocks (mo_n0, w39, w40, mo_rnewCane, mo_n1, mo_rnewHeight, mo_rnewStrand, mo_n2, w41, w42, w43) ⟨(show iv (0) (1) mo_n0 from ⟨by omega, by omega⟩), (show iv (0) (402) w39 from ⟨by omega, by omega⟩), (show iv (0) (4000) w40 from ⟨by omega, by omega⟩), (show iv (0) (4) mo_n1 from ⟨by omega, by omega⟩), (show iv (0) (8) mo_n2 from ⟨by omega, by omega⟩), h_w41, h_w42, (show iv (0) (8) w43 from ⟨by omega, by omega⟩), (by (try dsimp only); omega), hh45_NHall⟩ hP hD hS dX9_hallPart_125
set_option maxHeartbeats 4000000 in
set_option maxRecDepth 100000 in
theorem i_X9_isFull (l : Launch) (D : va_G) (k : Nat → ClassId) (sz : Nat) (x1 : Int32) (x2 : Int32) (mo : Nat) (mo_thrown : Int32) (mo_ascalar : Nat) (mo_acane : Nat) (mo_ais : Nat) (mo_astrandOf : Nat) (mo_aweight : Nat) (mo_aheight : Nat) (mo_achairOf : Nat) (mo_anoteMinute : Nat) (mo_anoteWho : Nat) (mo_anoteIs : Nat) (mo_atoldCane : Nat) (mo_anewScalar : Nat) (mo_anewCane : Nat) (mo_anewHeight : Nat) (mo_anewStrand : Nat) (mo_anewChair : Nat) (mo_anewWeight : Nat) (mo_taped : Int32) (mo_p : Int32) (mo_fault : Int32) (mo_slot : Int32) (mo_rules : Int32) (mo_entries : Int32) (mo_deep : Int32) (mo_counted : Int32) (mo_opened : Int32) (mo_words : Int32) (mo_atape : Nat) (mo_asort : Nat) (mo_anumber : Nat) (mo_aclauses : Nat) (mo_asumAt : Nat) (mo_atestAt : Nat) (mo_aendAt : Nat) (mo_aopen : Nat) (mo_aasked : Nat) (mo_astack : Nat) (mo_amust : Nat) (mo_apast : Nat) (mo_apastOf : Nat) (mo_pastMany : Int32) (mo_pastAt : Int32) (mo_takesBack : Int32) (mo_acanRise : Nat) (mo_afirstHas : Nat) (mo_asecondHas : Nat) (mo_alay : Nat) (mo_ashows : Nat) (mo_aimages : Nat) (mo_aisMade : Nat) (mo_imageAt : Int32) (mo_goesBack : Int32) (mo_n0 : Int32) (mo_n1 : Int32) (mo_n2 : Int32) (mo_n3 : Int32) (h_mo_taped : iv (0) (400) mo_taped) (h_mo_p : iv (0) (402) mo_p) (h_mo_fault : iv (0) (4000) mo_fault) (h_mo_slot : iv (0) (5) mo_slot) (h_mo_rules : iv (0) (6) mo_rules) (h_mo_entries : iv (0) (300) mo_entries) (h_mo_counted : iv (0) (70) mo_counted) (h_mo_opened : iv (0) (402) mo_opened) (h_mo_words : iv (11) (11) mo_words) (h_mo_pastMany : iv (0) (20) mo_pastMany) (h_mo_pastAt : iv (0) (260) mo_pastAt) (h_mo_takesBack : iv (0) (1) mo_takesBack) (h_mo_imageAt : iv (0) (2000) mo_imageAt) (h_mo_goesBack : iv (0) (1) mo_goesBack) (h_mo_n0 : iv (0) (1) mo_n0) (h_mo_n1 : iv (0) (4) mo_n1) (h_mo_n2 : iv (0) (8) mo_n2) (h_mo_n3 : iv (0) (8) mo_n3) : CtI l yX9_isFull wsX9_isFull (rmK 1 0 0) [.ref mo, .int x1, .int x2] D k sz ([(mo, .inr (7, [.int mo_thrown, .ref mo_ascalar, .ref mo_acane, .ref mo_ais, .ref mo_astrandOf, .ref mo_aweight, .ref mo_aheight, .ref mo_achairOf, .ref mo_anoteMinute, .ref mo_anoteWho, .ref mo_anoteIs, .ref mo_atoldCane, .ref mo_anewScalar, .ref mo_anewCane, .ref mo_anewHeight, .ref mo_anewStrand, .ref mo_anewChair, .ref mo_anewWeight, .int mo_taped, .int mo_p, .int mo_fault, .int mo_slot, .int mo_rules, .int mo_entries, .int mo_deep, .int mo_counted, .int mo_opened, .int mo_words, .ref mo_atape, .ref mo_asort, .ref mo_anumber, .ref mo_aclauses, .ref mo_asumAt, .ref mo_atestAt, .ref mo_aendAt, .ref mo_aopen, .ref mo_aasked, .ref mo_astack, .ref mo_amust, .ref mo_apast, .ref mo_apastOf, .int mo_pastMany, .int mo_pastAt, .int mo_takesBack, .ref mo_acanRise, .ref mo_afirstHas, .ref mo_asecondHas, .ref mo_alay, .ref mo_ashows, .ref mo_aimages, .ref mo_aisMade, .int mo_imageAt, .int mo_goesBack])), (mo_anewScalar, hcI k 4 (sc4 mo_n0 mo_n1 mo_n2 mo_n3))]) (fun (r : Int32) (u : Unit) => iv (0) (1) r ∧ (r.toInt ≠ 0 ∨ ((x1.toInt ≠ 1 ∨ mo_n1.toInt ≠ 4) ∧ (x1.toInt ≠ 2 ∨ mo_n2.toInt ≠ 8)))) (fun u : Unit => [(mo, .inr (7, [.int mo_thrown, .ref mo_ascalar, .ref mo_acane, .ref mo_ais, .ref mo_astrandOf, .ref mo_aweight, .ref mo_aheight, .ref mo_achairOf, .ref mo_anoteMinute, .ref mo_anoteWho, .ref mo_anoteIs, .ref mo_atoldCane, .ref mo_anewScalar, .ref mo_anewCane, .ref mo_anewHeight, .ref mo_anewStrand, .ref mo_anewChair, .ref mo_anewWeight, .int mo_taped, .int mo_p, .int mo_fault, .int mo_slot, .int mo_rules, .int mo_entries, .int mo_deep, .int mo_counted, .int mo_opened, .int mo_words, .ref mo_atape, .ref mo_asort, .ref mo_anumber, .ref mo_aclauses, .ref mo_asumAt, .ref mo_atestAt, .ref mo_aendAt, .ref mo_aopen, .ref mo_aasked, .ref mo_astack, .ref mo_amust, .ref mo_apast, .ref mo_apastOf, .int mo_pastMany, .int mo_pastAt, .int mo_takesBack, .ref mo_acanRise, .ref mo_afirstHas, .ref mo_asecondHas, .ref mo_alay, .ref mo_ashows, .ref mo_aimages, .ref mo_aisMade, .int mo_imageAt, .int mo_goesBack])), (mo_anewScalar, hcI k 4 (sc4 mo_n0 mo_n1 mo_n2 mo_n3))]) 0 0 := by
  have h_mo_taped_l := h_mo_taped.1
  have h_mo_taped_u := h_mo_taped.2
  have h_mo_p_l := h_mo_p.1
  have h_mo_p_u := h_mo_p.2
  have h_mo_fault_l := h_mo_fault.1
  have h_mo_fault_u := h_mo_fault.2
  have h_mo_slot_l := h_mo_slot.1
  have h_mo_slot_u := h_mo_slot.2
  have h_mo_rules_l := h_mo_rules.1
  have h_mo_rules_u := h_mo_rules.2
  have h_mo_entries_l := h_mo_entries.1
  have h_mo_entries_u := h_mo_entries.2
  have h_mo_counted_l := h_mo_counted.1
  have h_mo_counted_u := h_mo_counted.2
  have h_mo_opened_l := h_mo_opened.1
  have h_mo_opened_u := h_mo_opened.2
  have h_mo_words_l := h_mo_words.1
  have h_mo_words_u := h_mo_words.2
  have h_mo_pastMany_l := h_mo_pastMany.1
  have h_mo_pastMany_u := h_mo_pastMany.2
  have h_mo_pastAt_l := h_mo_pastAt.1
  have h_mo_pastAt_u := h_mo_pastAt.2
  have h_mo_takesBack_l := h_mo_takesBack.1
  have h_mo_takesBack_u := h_mo_takesBack.2
  have h_mo_imageAt_l := h_mo_imageAt.1
  have h_mo_imageAt_u := h_mo_imageAt.2
  have h_mo_goesBack_l := h_mo_goesBack.1
  have h_mo_goesBack_u := h_mo_goesBack.2
  have h_mo_n0_l := h_mo_n0.1
  have h_mo_n0_u := h_mo_n0.2
  have h_mo_n1_l := h_mo_n1.1
  have h_mo_n1_u := h_mo_n1.2
  have h_mo_n2_l := h_mo_n2.1
  have h_mo_n2_u := h_mo_n2.2
  have h_mo_n3_l := h_mo_n3.1
  have h_mo_n3_u := h_mo_n3.2
  refine CtI.mk (cc := cX9_isFull) (maxL := 3) (ret := (some .boolean)) (by decide) rfl (Nat.le_of_ble_eq_true rfl) ?_
  intro p e s m below meth c A ls E hP hD hS hl
  obtain ⟨hx, hb, hr, hml, hown, hts, hlocks, hin, hG, hA⟩ := E
  have hown : s.vm.findClass RX9 = some m.cls := hown
  have in9 : ∀ w ∈ u_ws RX9 TX9 53, w ∈ wsX9_isFull := fun _ h => List.mem_cons_of_mem _ (List.mem_append_right _ h)
  have hl : lv_has ls 3 [(0, .ref mo), (1, .int x1), (2, .int x2)] := hl
  refine lv_iload_n hx hb dX9_isFull_0 rfl (lv_at hl 2 rfl) ?_
  refine lv_bipush (v := 40) hx hb dX9_isFull_1 (by decide) ?_
  refine lv_icmp_eq (tgt := 27) hx hb dX9_isFull_3 (by decide) (fun c1 => ?_) (fun c1 => ?_)
  · have fc1 := cx_eq_t (a := x2.toInt) (b := 40) rfl (by decide) c1
    refine lv_iconst (v := 1) hx hb dX9_isFull_27 (by decide) ?_
    exact hc_endZ hx hb hr hlocks rfl () ⟨iv_lit (by decide) (by decide), (by have q9 : (1 : Int32).toInt = 1 := (by decide); omega)⟩ hP hD hS dX9_isFull_28
  · have fc1 := cx_eq_f (a := x2.toInt) (b := 40) rfl (by decide) c1
    refine lv_iload_n hx hb dX9_isFull_6 rfl (lv_at hl 1 rfl) ?_
    refine lv_if_ne (tgt := 14) hx hb dX9_isFull_7 (by decide) (fun c2 => ?_) (fun c2 => ?_)
    · have fc2 := cx_ne_t (a := x1.toInt) (b := 0) rfl (by decide) c2
      refine lv_iconst (v := 0) hx hb dX9_isFull_14 (by decide) ?_
      refine lv_iload_n hx hb dX9_isFull_15 rfl (lv_at hl 2 rfl) ?_
      refine lv_if_ne (tgt := 23) hx hb dX9_isFull_16 (by decide) (fun c3 => ?_) (fun c3 => ?_)
      · have fc3 := cx_ne_t (a := x2.toInt) (b := 0) rfl (by decide) c3
        refine lv_iconst (v := 0) hx hb dX9_isFull_23 (by decide) ?_
        refine lv_icmp_eq (tgt := 29) hx hb dX9_isFull_24 (by decide) (fun _ => ?_) (fun h => absurd (by decide) h)
        refine lv_iload_n hx hb dX9_isFull_29 rfl (lv_at hl 1 rfl) ?_
        refine lv_iconst (v := 1) hx hb dX9_isFull_30 (by decide) ?_
        refine lv_icmp_ne (tgt := 44) hx hb dX9_isFull_31 (by decide) (fun c4 => ?_) (fun c4 => ?_)
        · have fc4 := cx_ne_t (a := x1.toInt) (b := 1) rfl (by decide) c4
          refine lv_iload_n hx hb dX9_isFull_44 rfl (lv_at hl 1 rfl) ?_
          refine lv_iconst (v := 2) hx hb dX9_isFull_45 (by decide) ?_
          refine lv_icmp_ne (tgt := 64) hx hb dX9_isFull_46 (by decide) (fun c5 => ?_) (fun c5 => ?_)
          · have fc5 := cx_ne_t (a := x1.toInt) (b := 2) rfl (by decide) c5
            refine lv_iconst (v := 0) hx hb dX9_isFull_64 (by decide) ?_
            exact hc_endZ hx hb hr hlocks rfl () ⟨iv_lit (by decide) (by decide), (by have q9 : (0 : Int32).toInt = 0 := (by decide); omega)⟩ hP hD hS dX9_isFull_65
          · have fc5 := cx_ne_f (a := x1.toInt) (b := 2) rfl (by decide) c5
            refine lv_aload_n hx hb dX9_isFull_49 rfl (lv_at hl 0 rfl) ?_
            refine va_get (D := D) (ci := 7) (v := .ref mo_anewScalar) (C := RX9) (T := TX9) (N := 53) hx hb hts in9 hown hG.1 hP 0 rfl rfl 12 (by decide) (hts (.fieldLink RX9 43 "ChairCaneModel" "newScalar" "[I") (by decide +kernel)) (fun _ h9 => h9) rfl dX9_isFull_50 ?_
            refine lv_iconst (v := 2) hx hb dX9_isFull_53 (by decide) ?_
            refine va_iald hx hb hG.1 hP 1 0 rfl rfl (by unfold vp_in; decide) dX9_isFull_54 ?_
            refine hc_is (z := mo_n2) (by rw [show Int32.toNatClampNeg 2 = 2 from by decide]; rfl) ?_
            refine lv_bipush (v := 8) hx hb dX9_isFull_55 (by decide) ?_
            refine lv_icmp_ne (tgt := 64) hx hb dX9_isFull_57 (by decide) (fun c6 => ?_) (fun c6 => ?_)
            · have fc6 := cx_ne_t (a := mo_n2.toInt) (b := 8) rfl (by decide) c6
              refine lv_iconst (v := 0) hx hb dX9_isFull_64 (by decide) ?_
              exact hc_endZ hx hb hr hlocks rfl () ⟨iv_lit (by decide) (by decide), (by have q9 : (0 : Int32).toInt = 0 := (by decide); omega)⟩ hP hD hS dX9_isFull_65
            · have fc6 := cx_ne_f (a := mo_n2.toInt) (b := 8) rfl (by decide) c6
              refine lv_iconst (v := 1) hx hb dX9_isFull_60 (by decide) ?_
              refine lv_goto (tgt := 65) hx hb dX9_isFull_61 (by decide) ?_
              exact hc_endZ hx hb hr hlocks rfl () ⟨iv_lit (by decide) (by decide), (by have q9 : (1 : Int32).toInt = 1 := (by decide); omega)⟩ hP hD hS dX9_isFull_65
        · have fc4 := cx_ne_f (a := x1.toInt) (b := 1) rfl (by decide) c4
          refine lv_aload_n hx hb dX9_isFull_34 rfl (lv_at hl 0 rfl) ?_
          refine va_get (D := D) (ci := 7) (v := .ref mo_anewScalar) (C := RX9) (T := TX9) (N := 53) hx hb hts in9 hown hG.1 hP 0 rfl rfl 12 (by decide) (hts (.fieldLink RX9 43 "ChairCaneModel" "newScalar" "[I") (by decide +kernel)) (fun _ h9 => h9) rfl dX9_isFull_35 ?_
          refine lv_iconst (v := 1) hx hb dX9_isFull_38 (by decide) ?_
          refine va_iald hx hb hG.1 hP 1 0 rfl rfl (by unfold vp_in; decide) dX9_isFull_39 ?_
          refine hc_is (z := mo_n1) (by rw [show Int32.toNatClampNeg 1 = 1 from by decide]; rfl) ?_
          refine lv_iconst (v := 4) hx hb dX9_isFull_40 (by decide) ?_
          refine lv_icmp_eq (tgt := 60) hx hb dX9_isFull_41 (by decide) (fun c7 => ?_) (fun c7 => ?_)
          · have fc7 := cx_eq_t (a := mo_n1.toInt) (b := 4) rfl (by decide) c7
            refine lv_iconst (v := 1) hx hb dX9_isFull_60 (by decide) ?_
            refine lv_goto (tgt := 65) hx hb dX9_isFull_61 (by decide) ?_
            exact hc_endZ hx hb hr hlocks rfl () ⟨iv_lit (by decide) (by decide), (by have q9 : (1 : Int32).toInt = 1 := (by decide); omega)⟩ hP hD hS dX9_isFull_65
          · have fc7 := cx_eq_f (a := mo_n1.toInt) (b := 4) rfl (by decide) c7
            refine lv_iload_n hx hb dX9_isFull_44 rfl (lv_at hl 1 rfl) ?_
            refine lv_iconst (v := 2) hx hb dX9_isFull_45 (by decide) ?_
            refine lv_icmp_ne (tgt := 64) hx hb dX9_isFull_46 (by decide) (fun _ => ?_) (fun h => absurd h (cd_ne_t (a := x1.toInt) (b := 2) rfl (by decide) (by omega)))
            refine lv_iconst (v := 0) hx hb dX9_isFull_64 (by decide) ?_
            exact hc_endZ hx hb hr hlocks rfl () ⟨iv_lit (by decide) (by decide), (by have q9 : (0 : Int32).toInt = 0 := (by decide); omega)⟩ hP hD hS dX9_isFull_65
      · have fc3 := cx_ne_f (a := x2.toInt) (b := 0) rfl (by decide) c3
        refine lv_iconst (v := 1) hx hb dX9_isFull_19 (by decide) ?_
        refine lv_goto (tgt := 24) hx hb dX9_isFull_20 (by decide) ?_
        refine lv_icmp_eq (tgt := 29) hx hb dX9_isFull_24 (by decide) (fun h => absurd h (by decide)) (fun _ => ?_)
        refine lv_iconst (v := 1) hx hb dX9_isFull_27 (by decide) ?_
        exact hc_endZ hx hb hr hlocks rfl () ⟨iv_lit (by decide) (by decide), (by have q9 : (1 : Int32).toInt = 1 := (by decide); omega)⟩ hP hD hS dX9_isFull_28
    · have fc2 := cx_ne_f (a := x1.toInt) (b := 0) rfl (by decide) c2
      refine lv_iconst (v := 1) hx hb dX9_isFull_10 (by decide) ?_
      refine lv_goto (tgt := 15) hx hb dX9_isFull_11 (by decide) ?_
      refine lv_iload_n hx hb dX9_isFull_15 rfl (lv_at hl 2 rfl) ?_
      refine lv_if_ne (tgt := 23) hx hb dX9_isFull_16 (by decide) (fun c8 => ?_) (fun c8 => ?_)
      · have fc8 := cx_ne_t (a := x2.toInt) (b := 0) rfl (by decide) c8
        refine lv_iconst (v := 0) hx hb dX9_isFull_23 (by decide) ?_
        refine lv_icmp_eq (tgt := 29) hx hb dX9_isFull_24 (by decide) (fun h => absurd h (by decide)) (fun _ => ?_)
        refine lv_iconst (v := 1) hx hb dX9_isFull_27 (by decide) ?_
        exact hc_endZ hx hb hr hlocks rfl () ⟨iv_lit (by decide) (by decide), (by have q9 : (1 : Int32).toInt = 1 := (by decide); omega)⟩ hP hD hS dX9_isFull_28
      · have fc8 := cx_ne_f (a := x2.toInt) (b := 0) rfl (by decide) c8
        refine lv_iconst (v := 1) hx hb dX9_isFull_19 (by decide) ?_
        refine lv_goto (tgt := 24) hx hb dX9_isFull_20 (by decide) ?_
        refine lv_icmp_eq (tgt := 29) hx hb dX9_isFull_24 (by decide) (fun _ => ?_) (fun h => absurd (by decide) h)
        refine lv_iload_n hx hb dX9_isFull_29 rfl (lv_at hl 1 rfl) ?_
        refine lv_iconst (v := 1) hx hb dX9_isFull_30 (by decide) ?_
        refine lv_icmp_ne (tgt := 44) hx hb dX9_isFull_31 (by decide) (fun _ => ?_) (fun h => absurd h (cd_ne_t (a := x1.toInt) (b := 1) rfl (by decide) (by omega)))
        refine lv_iload_n hx hb dX9_isFull_44 rfl (lv_at hl 1 rfl) ?_
        refine lv_iconst (v := 2) hx hb dX9_isFull_45 (by decide) ?_
        refine lv_icmp_ne (tgt := 64) hx hb dX9_isFull_46 (by decide) (fun _ => ?_) (fun h => absurd h (cd_ne_t (a := x1.toInt) (b := 2) rfl (by decide) (by omega)))
        refine lv_iconst (v := 0) hx hb dX9_isFull_64 (by decide) ?_
        exact hc_endZ hx hb hr hlocks rfl () ⟨iv_lit (by decide) (by decide), (by have q9 : (0 : Int32).toInt = 0 := (by decide); omega)⟩ hP hD hS dX9_isFull_65
set_option maxHeartbeats 4000000 in
set_option maxRecDepth 100000 in
theorem i_X9_hallClause (l : Launch) (D : va_G) (k : Nat → ClassId) (sz : Nat) (ad : Nat → Nat) (tv : Nat → Nat) (x1 : Int32) (mo : Nat) (mo_thrown : Int32) (mo_ascalar : Nat) (mo_acane : Nat) (mo_ais : Nat) (mo_astrandOf : Nat) (mo_aweight : Nat) (mo_aheight : Nat) (mo_achairOf : Nat) (mo_anoteMinute : Nat) (mo_anoteWho : Nat) (mo_anoteIs : Nat) (mo_atoldCane : Nat) (mo_anewScalar : Nat) (mo_anewCane : Nat) (mo_anewHeight : Nat) (mo_anewStrand : Nat) (mo_anewChair : Nat) (mo_anewWeight : Nat) (mo_taped : Int32) (mo_p : Int32) (mo_fault : Int32) (mo_slot : Int32) (mo_rules : Int32) (mo_entries : Int32) (mo_deep : Int32) (mo_counted : Int32) (mo_opened : Int32) (mo_words : Int32) (mo_atape : Nat) (mo_asort : Nat) (mo_anumber : Nat) (mo_aclauses : Nat) (mo_asumAt : Nat) (mo_atestAt : Nat) (mo_aendAt : Nat) (mo_aopen : Nat) (mo_aasked : Nat) (mo_astack : Nat) (mo_amust : Nat) (mo_apast : Nat) (mo_apastOf : Nat) (mo_pastMany : Int32) (mo_pastAt : Int32) (mo_takesBack : Int32) (mo_acanRise : Nat) (mo_afirstHas : Nat) (mo_asecondHas : Nat) (mo_alay : Nat) (mo_ashows : Nat) (mo_aimages : Nat) (mo_aisMade : Nat) (mo_imageAt : Int32) (mo_goesBack : Int32) (mo_rnewCane : Nat → Int32) (mo_rnewHeight : Nat → Int32) (mo_rnewStrand : Nat → Int32) (mo_rnewChair : Nat → Int32) (mo_rnewWeight : Nat → Int32) (mo_rtape : Nat → Int32) (mo_n0 : Int32) (mo_n1 : Int32) (mo_n2 : Int32) (mo_n3 : Int32) (h_mo_taped : iv (0) (400) mo_taped) (h_mo_p : iv (0) (402) mo_p) (h_mo_fault : iv (0) (4000) mo_fault) (h_mo_slot : iv (0) (5) mo_slot) (h_mo_rules : iv (0) (6) mo_rules) (h_mo_entries : iv (0) (300) mo_entries) (h_mo_counted : iv (0) (70) mo_counted) (h_mo_opened : iv (0) (402) mo_opened) (h_mo_words : iv (11) (11) mo_words) (h_mo_pastMany : iv (0) (20) mo_pastMany) (h_mo_pastAt : iv (0) (260) mo_pastAt) (h_mo_takesBack : iv (0) (1) mo_takesBack) (h_mo_imageAt : iv (0) (2000) mo_imageAt) (h_mo_goesBack : iv (0) (1) mo_goesBack) (h_mo_rnewChair : rowIn (0) (7) mo_rnewChair) (h_mo_rnewWeight : rowIn (0) (20) mo_rnewWeight) (h_mo_n0 : iv (0) (1) mo_n0) (h_mo_n1 : iv (0) (4) mo_n1) (h_mo_n2 : iv (0) (8) mo_n2) (h_mo_n3 : iv (0) (8) mo_n3) (hr_p : mo_p.toInt ≤ mo_taped.toInt) (hr_f : mo_fault.toInt = 0) (hh_NHall : NHall mo_fault mo_n2 mo_n3 mo_rnewStrand mo_rnewChair mo_rnewWeight) : CtVE l yX9_hallClause wsX9_hallClause (rmK 7 0 0) [.ref mo, .int x1] D k (EY ad tv) sz ([(mo, .inr (7, [.int mo_thrown, .ref mo_ascalar, .ref mo_acane, .ref mo_ais, .ref mo_astrandOf, .ref mo_aweight, .ref mo_aheight, .ref mo_achairOf, .ref mo_anoteMinute, .ref mo_anoteWho, .ref mo_anoteIs, .ref mo_atoldCane, .ref mo_anewScalar, .ref mo_anewCane, .ref mo_anewHeight, .ref mo_anewStrand, .ref mo_anewChair, .ref mo_anewWeight, .int mo_taped, .int mo_p, .int mo_fault, .int mo_slot, .int mo_rules, .int mo_entries, .int mo_deep, .int mo_counted, .int mo_opened, .int mo_words, .ref mo_atape, .ref mo_asort, .ref mo_anumber, .ref mo_aclauses, .ref mo_asumAt, .ref mo_atestAt, .ref mo_aendAt, .ref mo_aopen, .ref mo_aasked, .ref mo_astack, .ref mo_amust, .ref mo_apast, .ref mo_apastOf, .int mo_pastMany, .int mo_pastAt, .int mo_takesBack, .ref mo_acanRise, .ref mo_afirstHas, .ref mo_asecondHas, .ref mo_alay, .ref mo_ashows, .ref mo_aimages, .ref mo_aisMade, .int mo_imageAt, .int mo_goesBack])), (mo_anewCane, hcI k 4 mo_rnewCane), (mo_anewHeight, hcI k 8 mo_rnewHeight), (mo_anewStrand, hcI k 8 mo_rnewStrand), (mo_anewChair, hcI k 8 mo_rnewChair), (mo_anewWeight, hcI k 8 mo_rnewWeight), (mo_atape, hcY k 400 mo_rtape), (mo_anewScalar, hcI k 4 (sc4 mo_n0 mo_n1 mo_n2 mo_n3))]) (fun u : (Int32) × (Int32) × (Nat → Int32) × (Nat → Int32) × (Nat → Int32) × (Nat → Int32) × (Nat → Int32) × (Int32) × (Int32) × (Int32) × (Int32) => iv (0) (402) (u.1) ∧ iv (0) (4000) (u.2.1) ∧ rowIn (0) (7) (u.2.2.2.2.2.1) ∧ rowIn (0) (20) (u.2.2.2.2.2.2.1) ∧ iv (0) (1) (u.2.2.2.2.2.2.2.1) ∧ iv (0) (4) (u.2.2.2.2.2.2.2.2.1) ∧ iv (0) (8) (u.2.2.2.2.2.2.2.2.2.1) ∧ iv (0) (8) (u.2.2.2.2.2.2.2.2.2.2) ∧ (mo_p.toInt ≤ (u.1).toInt ∧ (u.1).toInt ≤ mo_taped.toInt ∧ ((u.2.1).toInt ≠ 0 ∨ mo_fault.toInt = 0)) ∧ (NHall (u.2.1) (u.2.2.2.2.2.2.2.2.2.1) (u.2.2.2.2.2.2.2.2.2.2) (u.2.2.2.2.1) (u.2.2.2.2.2.1) (u.2.2.2.2.2.2.1))) (fun u : (Int32) × (Int32) × (Nat → Int32) × (Nat → Int32) × (Nat → Int32) × (Nat → Int32) × (Nat → Int32) × (Int32) × (Int32) × (Int32) × (Int32) => [(mo, .inr (7, [.int mo_thrown, .ref mo_ascalar, .ref mo_acane, .ref mo_ais, .ref mo_astrandOf, .ref mo_aweight, .ref mo_aheight, .ref mo_achairOf, .ref mo_anoteMinute, .ref mo_anoteWho, .ref mo_anoteIs, .ref mo_atoldCane, .ref mo_anewScalar, .ref mo_anewCane, .ref mo_anewHeight, .ref mo_anewStrand, .ref mo_anewChair, .ref mo_anewWeight, .int mo_taped, .int (u.1), .int (u.2.1), .int mo_slot, .int mo_rules, .int mo_entries, .int mo_deep, .int mo_counted, .int mo_opened, .int mo_words, .ref mo_atape, .ref mo_asort, .ref mo_anumber, .ref mo_aclauses, .ref mo_asumAt, .ref mo_atestAt, .ref mo_aendAt, .ref mo_aopen, .ref mo_aasked, .ref mo_astack, .ref mo_amust, .ref mo_apast, .ref mo_apastOf, .int mo_pastMany, .int mo_pastAt, .int mo_takesBack, .ref mo_acanRise, .ref mo_afirstHas, .ref mo_asecondHas, .ref mo_alay, .ref mo_ashows, .ref mo_aimages, .ref mo_aisMade, .int mo_imageAt, .int mo_goesBack])), (mo_anewCane, hcI k 4 (u.2.2.1)), (mo_anewHeight, hcI k 8 (u.2.2.2.1)), (mo_anewStrand, hcI k 8 (u.2.2.2.2.1)), (mo_anewChair, hcI k 8 (u.2.2.2.2.2.1)), (mo_anewWeight, hcI k 8 (u.2.2.2.2.2.2.1)), (mo_atape, hcY k 400 mo_rtape), (mo_anewScalar, hcI k 4 (sc4 (u.2.2.2.2.2.2.2.1) (u.2.2.2.2.2.2.2.2.1) (u.2.2.2.2.2.2.2.2.2.1) (u.2.2.2.2.2.2.2.2.2.2)))]) 0 0 := by
  have h_mo_taped_l := h_mo_taped.1
  have h_mo_taped_u := h_mo_taped.2
  have h_mo_p_l := h_mo_p.1
  have h_mo_p_u := h_mo_p.2
  have h_mo_fault_l := h_mo_fault.1
  have h_mo_fault_u := h_mo_fault.2
  have h_mo_slot_l := h_mo_slot.1
  have h_mo_slot_u := h_mo_slot.2
  have h_mo_rules_l := h_mo_rules.1
  have h_mo_rules_u := h_mo_rules.2
  have h_mo_entries_l := h_mo_entries.1
  have h_mo_entries_u := h_mo_entries.2
  have h_mo_counted_l := h_mo_counted.1
  have h_mo_counted_u := h_mo_counted.2
  have h_mo_opened_l := h_mo_opened.1
  have h_mo_opened_u := h_mo_opened.2
  have h_mo_words_l := h_mo_words.1
  have h_mo_words_u := h_mo_words.2
  have h_mo_pastMany_l := h_mo_pastMany.1
  have h_mo_pastMany_u := h_mo_pastMany.2
  have h_mo_pastAt_l := h_mo_pastAt.1
  have h_mo_pastAt_u := h_mo_pastAt.2
  have h_mo_takesBack_l := h_mo_takesBack.1
  have h_mo_takesBack_u := h_mo_takesBack.2
  have h_mo_imageAt_l := h_mo_imageAt.1
  have h_mo_imageAt_u := h_mo_imageAt.2
  have h_mo_goesBack_l := h_mo_goesBack.1
  have h_mo_goesBack_u := h_mo_goesBack.2
  have h_mo_n0_l := h_mo_n0.1
  have h_mo_n0_u := h_mo_n0.2
  have h_mo_n1_l := h_mo_n1.1
  have h_mo_n1_u := h_mo_n1.2
  have h_mo_n2_l := h_mo_n2.1
  have h_mo_n2_u := h_mo_n2.2
  have h_mo_n3_l := h_mo_n3.1
  have h_mo_n3_u := h_mo_n3.2
  refine CtVE.mk (cc := cX9_hallClause) (maxL := 4) (ret := none) (by decide) rfl (Nat.le_of_ble_eq_true rfl) ?_
  intro p e s m below meth c A ls hE E hP hD hS hl
  obtain ⟨hx, hb, hr, hml, hown, hts, hlocks, hin, hG, hA⟩ := E
  have hown : s.vm.findClass RX9 = some m.cls := hown
  have in9 : ∀ w ∈ u_ws RX9 TX9 53, w ∈ wsX9_hallClause := fun _ h => List.mem_cons_of_mem _ (List.mem_append_right _ h)
  have hl : lv_has ls 4 [(0, .ref mo), (1, .int x1)] := hl
  refine lv_aload_n hx hb dX9_hallClause_0 rfl (lv_at hl 0 rfl) ?_
  refine hc_Vv (As := []) (rest := []) (n := 0) (wr := [(mo_anewCane, hcI k 4 mo_rnewCane), (mo_anewHeight, hcI k 8 mo_rnewHeight), (mo_anewStrand, hcI k 8 mo_rnewStrand), (mo_anewChair, hcI k 8 mo_rnewChair), (mo_anewWeight, hcI k 8 mo_rnewWeight), (mo_anewScalar, hcI k 4 (sc4 mo_n0 mo_n1 mo_n2 mo_n3))]) hx hb hml hown hts hG hA hP hD hS hl.1 [0, 6] [1, 2, 3, 4, 5, 7] (i_X9_blanks l D k _ mo mo_thrown mo_ascalar mo_acane mo_ais mo_astrandOf mo_aweight mo_aheight mo_achairOf mo_anoteMinute mo_anoteWho mo_anoteIs mo_atoldCane mo_anewScalar mo_anewCane mo_anewHeight mo_anewStrand mo_anewChair mo_anewWeight mo_taped mo_p mo_fault mo_slot mo_rules mo_entries mo_deep mo_counted mo_opened mo_words mo_atape mo_asort mo_anumber mo_aclauses mo_asumAt mo_atestAt mo_aendAt mo_aopen mo_aasked mo_astack mo_amust mo_apast mo_apastOf mo_pastMany mo_pastAt mo_takesBack mo_acanRise mo_afirstHas mo_asecondHas mo_alay mo_ashows mo_aimages mo_aisMade mo_imageAt mo_goesBack mo_rtape ⟨by omega, by omega⟩ ⟨by omega, by omega⟩ ⟨by omega, by omega⟩ ⟨by omega, by omega⟩ ⟨by omega, by omega⟩ ⟨by omega, by omega⟩ ⟨by omega, by omega⟩ ⟨by omega, by omega⟩ ⟨by omega, by omega⟩ ⟨by omega, by omega⟩ ⟨by omega, by omega⟩ ⟨by omega, by omega⟩ ⟨by omega, by omega⟩ ⟨by omega, by omega⟩) (ci := 7) (q0 := 0) rfl rfl gX9_hallClause_X9_blanks rfl ⟨rfl, rfl, Nat.le_of_ble_eq_true rfl, Nat.le_of_ble_eq_true rfl⟩ (by decide +kernel) rfl rfl ⟨by decide, by decide, by decide⟩ ⟨rfl, rfl, Nat.le_of_ble_eq_true rfl, Nat.le_of_ble_eq_true rfl, Nat.le_of_ble_eq_true rfl⟩ dX9_hallClause_1 (fun u1 H locs hw hP hD hS => ?_)
  obtain ⟨w3, rfl⟩ : ∃ z, z = u1 := ⟨_, rfl⟩
  have hP : va_P D vwCl ([(mo_anewCane, hcI k 4 mo_rnewCane), (mo_anewHeight, hcI k 8 mo_rnewHeight), (mo_anewStrand, hcI k 8 mo_rnewStrand), (mo_anewChair, hcI k 8 mo_rnewChair), (mo_anewWeight, hcI k 8 mo_rnewWeight), (mo_anewScalar, hcI k 4 (sc4 mo_n0 mo_n1 mo_n2 mo_n3)), (mo, .inr (7, [.int mo_thrown, .ref mo_ascalar, .ref mo_acane, .ref mo_ais, .ref mo_astrandOf, .ref mo_aweight, .ref mo_aheight, .ref mo_achairOf, .ref mo_anoteMinute, .ref mo_anoteWho, .ref mo_anoteIs, .ref mo_atoldCane, .ref mo_anewScalar, .ref mo_anewCane, .ref mo_anewHeight, .ref mo_anewStrand, .ref mo_anewChair, .ref mo_anewWeight, .int mo_taped, .int w3, .int mo_fault, .int mo_slot, .int mo_rules, .int mo_entries, .int mo_deep, .int mo_counted, .int mo_opened, .int mo_words, .ref mo_atape, .ref mo_asort, .ref mo_anumber, .ref mo_aclauses, .ref mo_asumAt, .ref mo_atestAt, .ref mo_aendAt, .ref mo_aopen, .ref mo_aasked, .ref mo_astack, .ref mo_amust, .ref mo_apast, .ref mo_apastOf, .int mo_pastMany, .int mo_pastAt, .int mo_takesBack, .ref mo_acanRise, .ref mo_afirstHas, .ref mo_asecondHas, .ref mo_alay, .ref mo_ashows, .ref mo_aimages, .ref mo_aisMade, .int mo_imageAt, .int mo_goesBack])), (mo_atape, hcY k 400 mo_rtape)]) H := hP
  have hD : va_D A ([(mo_anewCane, hcI k 4 mo_rnewCane), (mo_anewHeight, hcI k 8 mo_rnewHeight), (mo_anewStrand, hcI k 8 mo_rnewStrand), (mo_anewChair, hcI k 8 mo_rnewChair), (mo_anewWeight, hcI k 8 mo_rnewWeight), (mo_anewScalar, hcI k 4 (sc4 mo_n0 mo_n1 mo_n2 mo_n3)), (mo, .inr (7, [.int mo_thrown, .ref mo_ascalar, .ref mo_acane, .ref mo_ais, .ref mo_astrandOf, .ref mo_aweight, .ref mo_aheight, .ref mo_achairOf, .ref mo_anoteMinute, .ref mo_anoteWho, .ref mo_anoteIs, .ref mo_atoldCane, .ref mo_anewScalar, .ref mo_anewCane, .ref mo_anewHeight, .ref mo_anewStrand, .ref mo_anewChair, .ref mo_anewWeight, .int mo_taped, .int w3, .int mo_fault, .int mo_slot, .int mo_rules, .int mo_entries, .int mo_deep, .int mo_counted, .int mo_opened, .int mo_words, .ref mo_atape, .ref mo_asort, .ref mo_anumber, .ref mo_aclauses, .ref mo_asumAt, .ref mo_atestAt, .ref mo_aendAt, .ref mo_aopen, .ref mo_aasked, .ref mo_astack, .ref mo_amust, .ref mo_apast, .ref mo_apastOf, .int mo_pastMany, .int mo_pastAt, .int mo_takesBack, .ref mo_acanRise, .ref mo_afirstHas, .ref mo_asecondHas, .ref mo_alay, .ref mo_ashows, .ref mo_aimages, .ref mo_aisMade, .int mo_imageAt, .int mo_goesBack])), (mo_atape, hcY k 400 mo_rtape)]) := hD
  obtain ⟨bw3, rel4⟩ := hw
  have bw3 : iv (0) (402) w3 := bw3
  have bw3_l := bw3.1
  have bw3_u := bw3.2
  try dsimp only at rel4
  refine lv_aload_n hx hb dX9_hallClause_4 rfl (lv_at hl 0 rfl) ?_
  refine va_get (D := D) (ci := 7) (v := .int w3) (C := RX9) (T := TX9) (N := 53) hx hb hts in9 hown hG.1 hP 6 rfl rfl 19 (by decide) (hts (.fieldLink RX9 164 "ChairCaneModel" "p" "I") (by decide +kernel)) (fun _ h9 => h9) rfl dX9_hallClause_5 ?_
  refine lv_istore_n (lv' := [(2, .int w3), (0, .ref mo), (1, .int x1)]) hx hb dX9_hallClause_8 rfl hl (by decide) rfl (fun ls hl => ?_)
  refine lv_iconst (v := 0) hx hb dX9_hallClause_9 (by decide) ?_
  refine lv_istore_n (lv' := [(3, .int 0), (2, .int w3), (0, .ref mo), (1, .int x1)]) hx hb dX9_hallClause_10 rfl hl (by decide) rfl (fun ls hl => ?_)
  have loop5 : ∀ (fu : Nat) (L3_5 : Int32), iv (0) (4) L3_5 → 5 - L3_5.toInt < (fu : Int) → ∀ (H : Heap) (locs : List Loc) (ls : Array Slot), va_P D vwCl ([(mo_anewCane, hcI k 4 mo_rnewCane), (mo_anewHeight, hcI k 8 mo_rnewHeight), (mo_anewStrand, hcI k 8 mo_rnewStrand), (mo_anewChair, hcI k 8 mo_rnewChair), (mo_anewWeight, hcI k 8 mo_rnewWeight), (mo_anewScalar, hcI k 4 (sc4 mo_n0 mo_n1 mo_n2 mo_n3)), (mo, .inr (7, [.int mo_thrown, .ref mo_ascalar, .ref mo_acane, .ref mo_ais, .ref mo_astrandOf, .ref mo_aweight, .ref mo_aheight, .ref mo_achairOf, .ref mo_anoteMinute, .ref mo_anoteWho, .ref mo_anoteIs, .ref mo_atoldCane, .ref mo_anewScalar, .ref mo_anewCane, .ref mo_anewHeight, .ref mo_anewStrand, .ref mo_anewChair, .ref mo_anewWeight, .int mo_taped, .int w3, .int mo_fault, .int mo_slot, .int mo_rules, .int mo_entries, .int mo_deep, .int mo_counted, .int mo_opened, .int mo_words, .ref mo_atape, .ref mo_asort, .ref mo_anumber, .ref mo_aclauses, .ref mo_asumAt, .ref mo_atestAt, .ref mo_aendAt, .ref mo_aopen, .ref mo_aasked, .ref mo_astack, .ref mo_amust, .ref mo_apast, .ref mo_apastOf, .int mo_pastMany, .int mo_pastAt, .int mo_takesBack, .ref mo_acanRise, .ref mo_afirstHas, .ref mo_asecondHas, .ref mo_alay, .ref mo_ashows, .ref mo_aimages, .ref mo_aisMade, .int mo_imageAt, .int mo_goesBack])), (mo_atape, hcY k 400 mo_rtape)]) H → va_D A ([(mo_anewCane, hcI k 4 mo_rnewCane), (mo_anewHeight, hcI k 8 mo_rnewHeight), (mo_anewStrand, hcI k 8 mo_rnewStrand), (mo_anewChair, hcI k 8 mo_rnewChair), (mo_anewWeight, hcI k 8 mo_rnewWeight), (mo_anewScalar, hcI k 4 (sc4 mo_n0 mo_n1 mo_n2 mo_n3)), (mo, .inr (7, [.int mo_thrown, .ref mo_ascalar, .ref mo_acane, .ref mo_ais, .ref mo_astrandOf, .ref mo_aweight, .ref mo_aheight, .ref mo_achairOf, .ref mo_anoteMinute, .ref mo_anoteWho, .ref mo_anoteIs, .ref mo_atoldCane, .ref mo_anewScalar, .ref mo_anewCane, .ref mo_anewHeight, .ref mo_anewStrand, .ref mo_anewChair, .ref mo_anewWeight, .int mo_taped, .int w3, .int mo_fault, .int mo_slot, .int mo_rules, .int mo_entries, .int mo_deep, .int mo_counted, .int mo_opened, .int mo_words, .ref mo_atape, .ref mo_asort, .ref mo_anumber, .ref mo_aclauses, .ref mo_asumAt, .ref mo_atestAt, .ref mo_aendAt, .ref mo_aopen, .ref mo_aasked, .ref mo_astack, .ref mo_amust, .ref mo_apast, .ref mo_apastOf, .int mo_pastMany, .int mo_pastAt, .int mo_takesBack, .ref mo_acanRise, .ref mo_afirstHas, .ref mo_asecondHas, .ref mo_alay, .ref mo_ashows, .ref mo_aimages, .ref mo_aisMade, .int mo_imageAt, .int mo_goesBack])), (mo_atape, hcY k 400 mo_rtape)]) → va_S A s.heap H locs → lv_has ls 4 [(3, .int L3_5), (2, .int w3), (0, .ref mo), (1, .int x1)] → W p l e (rmK 7 0 0) s m (List.toArray [.ref mo, .int x1]) below meth c H locs 0 0 (MQ below (va_Qv (fun u : (Int32) × (Int32) × (Nat → Int32) × (Nat → Int32) × (Nat → Int32) × (Nat → Int32) × (Nat → Int32) × (Int32) × (Int32) × (Int32) × (Int32) => iv (0) (402) (u.1) ∧ iv (0) (4000) (u.2.1) ∧ rowIn (0) (7) (u.2.2.2.2.2.1) ∧ rowIn (0) (20) (u.2.2.2.2.2.2.1) ∧ iv (0) (1) (u.2.2.2.2.2.2.2.1) ∧ iv (0) (4) (u.2.2.2.2.2.2.2.2.1) ∧ iv (0) (8) (u.2.2.2.2.2.2.2.2.2.1) ∧ iv (0) (8) (u.2.2.2.2.2.2.2.2.2.2) ∧ (mo_p.toInt ≤ (u.1).toInt ∧ (u.1).toInt ≤ mo_taped.toInt ∧ ((u.2.1).toInt ≠ 0 ∨ mo_fault.toInt = 0)) ∧ (NHall (u.2.1) (u.2.2.2.2.2.2.2.2.2.1) (u.2.2.2.2.2.2.2.2.2.2) (u.2.2.2.2.1) (u.2.2.2.2.2.1) (u.2.2.2.2.2.2.1))) (hcB D (fun u : (Int32) × (Int32) × (Nat → Int32) × (Nat → Int32) × (Nat → Int32) × (Nat → Int32) × (Nat → Int32) × (Int32) × (Int32) × (Int32) × (Int32) => [(mo, .inr (7, [.int mo_thrown, .ref mo_ascalar, .ref mo_acane, .ref mo_ais, .ref mo_astrandOf, .ref mo_aweight, .ref mo_aheight, .ref mo_achairOf, .ref mo_anoteMinute, .ref mo_anoteWho, .ref mo_anoteIs, .ref mo_atoldCane, .ref mo_anewScalar, .ref mo_anewCane, .ref mo_anewHeight, .ref mo_anewStrand, .ref mo_anewChair, .ref mo_anewWeight, .int mo_taped, .int (u.1), .int (u.2.1), .int mo_slot, .int mo_rules, .int mo_entries, .int mo_deep, .int mo_counted, .int mo_opened, .int mo_words, .ref mo_atape, .ref mo_asort, .ref mo_anumber, .ref mo_aclauses, .ref mo_asumAt, .ref mo_atestAt, .ref mo_aendAt, .ref mo_aopen, .ref mo_aasked, .ref mo_astack, .ref mo_amust, .ref mo_apast, .ref mo_apastOf, .int mo_pastMany, .int mo_pastAt, .int mo_takesBack, .ref mo_acanRise, .ref mo_afirstHas, .ref mo_asecondHas, .ref mo_alay, .ref mo_ashows, .ref mo_aimages, .ref mo_aisMade, .int mo_imageAt, .int mo_goesBack])), (mo_anewCane, hcI k 4 (u.2.2.1)), (mo_anewHeight, hcI k 8 (u.2.2.2.1)), (mo_anewStrand, hcI k 8 (u.2.2.2.2.1)), (mo_anewChair, hcI k 8 (u.2.2.2.2.2.1)), (mo_anewWeight, hcI k 8 (u.2.2.2.2.2.2.1)), (mo_atape, hcY k 400 mo_rtape), (mo_anewScalar, hcI k 4 (sc4 (u.2.2.2.2.2.2.2.1) (u.2.2.2.2.2.2.2.2.1) (u.2.2.2.2.2.2.2.2.2.1) (u.2.2.2.2.2.2.2.2.2.2)))]) A) A) (List.toArray [.ref mo, .int x1]) s 0 0 A) (F0 m 11 ls []) := by
    intro fu
    induction fu with
    | zero =>
      intro L3_5 bL3_5 hm
      have bL3_5_l := bL3_5.1
      have bL3_5_u := bL3_5.2
      exact absurd hm (by omega)
    | succ fu ih5 =>
      intro L3_5 bL3_5 hm H locs ls hP hD hS hl
      have bL3_5_l := bL3_5.1
      have bL3_5_u := bL3_5.2
      refine lv_iload_n hx hb dX9_hallClause_11 rfl (lv_at hl 0 rfl) ?_
      refine lv_iconst (v := 4) hx hb dX9_hallClause_12 (by decide) ?_
      refine lv_icmp_ge (tgt := 33) hx hb dX9_hallClause_13 (by decide) (fun c6 => ?_) (fun c6 => ?_)
      · have fc6 := cx_ge_t (a := L3_5.toInt) (b := 4) rfl (by decide) c6
        refine lv_iload_n hx hb dX9_hallClause_33 rfl (lv_at hl 0 rfl) ?_
        refine lv_iconst (v := 4) hx hb dX9_hallClause_34 (by decide) ?_
        refine lv_icmp_ne (tgt := 45) hx hb dX9_hallClause_35 (by decide) (fun c7 => ?_) (fun c7 => ?_)
        · have fc7 := cx_ne_t (a := L3_5.toInt) (b := 4) rfl (by decide) c7
          refine lv_aload_n hx hb dX9_hallClause_45 rfl (lv_at hl 2 rfl) ?_
          refine lv_iload_n hx hb dX9_hallClause_46 rfl (lv_at hl 0 rfl) ?_
          refine lv_iload_n hx hb dX9_hallClause_47 rfl (lv_at hl 3 rfl) ?_
          refine hc_Vi (As := [.int L3_5, .int x1]) (rest := []) (n := 2) (wr := [(mo_anewCane, hcI k 4 mo_rnewCane), (mo_anewHeight, hcI k 8 mo_rnewHeight), (mo_anewStrand, hcI k 8 mo_rnewStrand), (mo_anewChair, hcI k 8 mo_rnewChair), (mo_anewWeight, hcI k 8 mo_rnewWeight), (mo_atape, hcY k 400 mo_rtape)]) hx hb hml hown hts hG hA hP hD hS hl.1 [6, 5] [0, 1, 2, 3, 4, 7] (i_X9_isFull l D k _ L3_5 x1 mo mo_thrown mo_ascalar mo_acane mo_ais mo_astrandOf mo_aweight mo_aheight mo_achairOf mo_anoteMinute mo_anoteWho mo_anoteIs mo_atoldCane mo_anewScalar mo_anewCane mo_anewHeight mo_anewStrand mo_anewChair mo_anewWeight mo_taped w3 mo_fault mo_slot mo_rules mo_entries mo_deep mo_counted mo_opened mo_words mo_atape mo_asort mo_anumber mo_aclauses mo_asumAt mo_atestAt mo_aendAt mo_aopen mo_aasked mo_astack mo_amust mo_apast mo_apastOf mo_pastMany mo_pastAt mo_takesBack mo_acanRise mo_afirstHas mo_asecondHas mo_alay mo_ashows mo_aimages mo_aisMade mo_imageAt mo_goesBack mo_n0 mo_n1 mo_n2 mo_n3 ⟨by omega, by omega⟩ ⟨by omega, by omega⟩ ⟨by omega, by omega⟩ ⟨by omega, by omega⟩ ⟨by omega, by omega⟩ ⟨by omega, by omega⟩ ⟨by omega, by omega⟩ ⟨by omega, by omega⟩ ⟨by omega, by omega⟩ ⟨by omega, by omega⟩ ⟨by omega, by omega⟩ ⟨by omega, by omega⟩ ⟨by omega, by omega⟩ ⟨by omega, by omega⟩ ⟨by omega, by omega⟩ ⟨by omega, by omega⟩ ⟨by omega, by omega⟩ ⟨by omega, by omega⟩) (ci := 7) (q0 := 6) rfl rfl gX9_hallClause_X9_isFull rfl ⟨rfl, rfl, Nat.le_of_ble_eq_true rfl, Nat.le_of_ble_eq_true rfl⟩ (by decide +kernel) rfl rfl ⟨by decide, by decide, by decide⟩ ⟨rfl, rfl, Nat.le_of_ble_eq_true rfl, Nat.le_of_ble_eq_true rfl, Nat.le_of_ble_eq_true rfl⟩ dX9_hallClause_48 (fun r9 u8 H locs hw hP hD hS => ?_)
          have hP : va_P D vwCl ([(mo_anewCane, hcI k 4 mo_rnewCane), (mo_anewHeight, hcI k 8 mo_rnewHeight), (mo_anewStrand, hcI k 8 mo_rnewStrand), (mo_anewChair, hcI k 8 mo_rnewChair), (mo_anewWeight, hcI k 8 mo_rnewWeight), (mo_atape, hcY k 400 mo_rtape), (mo, .inr (7, [.int mo_thrown, .ref mo_ascalar, .ref mo_acane, .ref mo_ais, .ref mo_astrandOf, .ref mo_aweight, .ref mo_aheight, .ref mo_achairOf, .ref mo_anoteMinute, .ref mo_anoteWho, .ref mo_anoteIs, .ref mo_atoldCane, .ref mo_anewScalar, .ref mo_anewCane, .ref mo_anewHeight, .ref mo_anewStrand, .ref mo_anewChair, .ref mo_anewWeight, .int mo_taped, .int w3, .int mo_fault, .int mo_slot, .int mo_rules, .int mo_entries, .int mo_deep, .int mo_counted, .int mo_opened, .int mo_words, .ref mo_atape, .ref mo_asort, .ref mo_anumber, .ref mo_aclauses, .ref mo_asumAt, .ref mo_atestAt, .ref mo_aendAt, .ref mo_aopen, .ref mo_aasked, .ref mo_astack, .ref mo_amust, .ref mo_apast, .ref mo_apastOf, .int mo_pastMany, .int mo_pastAt, .int mo_takesBack, .ref mo_acanRise, .ref mo_afirstHas, .ref mo_asecondHas, .ref mo_alay, .ref mo_ashows, .ref mo_aimages, .ref mo_aisMade, .int mo_imageAt, .int mo_goesBack])), (mo_anewScalar, hcI k 4 (sc4 mo_n0 mo_n1 mo_n2 mo_n3))]) H := hP
          have hD : va_D A ([(mo_anewCane, hcI k 4 mo_rnewCane), (mo_anewHeight, hcI k 8 mo_rnewHeight), (mo_anewStrand, hcI k 8 mo_rnewStrand), (mo_anewChair, hcI k 8 mo_rnewChair), (mo_anewWeight, hcI k 8 mo_rnewWeight), (mo_atape, hcY k 400 mo_rtape), (mo, .inr (7, [.int mo_thrown, .ref mo_ascalar, .ref mo_acane, .ref mo_ais, .ref mo_astrandOf, .ref mo_aweight, .ref mo_aheight, .ref mo_achairOf, .ref mo_anoteMinute, .ref mo_anoteWho, .ref mo_anoteIs, .ref mo_atoldCane, .ref mo_anewScalar, .ref mo_anewCane, .ref mo_anewHeight, .ref mo_anewStrand, .ref mo_anewChair, .ref mo_anewWeight, .int mo_taped, .int w3, .int mo_fault, .int mo_slot, .int mo_rules, .int mo_entries, .int mo_deep, .int mo_counted, .int mo_opened, .int mo_words, .ref mo_atape, .ref mo_asort, .ref mo_anumber, .ref mo_aclauses, .ref mo_asumAt, .ref mo_atestAt, .ref mo_aendAt, .ref mo_aopen, .ref mo_aasked, .ref mo_astack, .ref mo_amust, .ref mo_apast, .ref mo_apastOf, .int mo_pastMany, .int mo_pastAt, .int mo_takesBack, .ref mo_acanRise, .ref mo_afirstHas, .ref mo_asecondHas, .ref mo_alay, .ref mo_ashows, .ref mo_aimages, .ref mo_aisMade, .int mo_imageAt, .int mo_goesBack])), (mo_anewScalar, hcI k 4 (sc4 mo_n0 mo_n1 mo_n2 mo_n3))]) := hD
          obtain ⟨br9, rel10⟩ := hw
          have br9 : iv (0) (1) r9 := br9
          have br9_l := br9.1
          have br9_u := br9.2
          refine lv_if_eq (tgt := 61) hx hb dX9_hallClause_51 (by decide) (fun c11 => ?_) (fun c11 => ?_)
          · have fc11 := cx_eq_t (a := r9.toInt) (b := 0) rfl (by decide) c11
            refine lv_aload_n hx hb dX9_hallClause_61 rfl (lv_at hl 2 rfl) ?_
            refine lv_dup hx hb dX9_hallClause_62 rfl ?_
            refine va_get (D := D) (ci := 7) (v := .int w3) (C := RX9) (T := TX9) (N := 53) hx hb hts in9 hown hG.1 hP 6 rfl rfl 19 (by decide) (hts (.fieldLink RX9 164 "ChairCaneModel" "p" "I") (by decide +kernel)) (fun _ h9 => h9) rfl dX9_hallClause_63 ?_
            refine lv_iload_n hx hb dX9_hallClause_66 rfl (lv_at hl 0 rfl) ?_
            refine hc_SrE (As := [.int L3_5]) (rest := [.int w3, .ref mo]) (n := 1) (wr := [(mo_anewCane, hcI k 4 mo_rnewCane), (mo_anewHeight, hcI k 8 mo_rnewHeight), (mo_anewStrand, hcI k 8 mo_rnewStrand), (mo_anewChair, hcI k 8 mo_rnewChair), (mo_anewWeight, hcI k 8 mo_rnewWeight), (mo_atape, hcY k 400 mo_rtape), (mo, .inr (7, [.int mo_thrown, .ref mo_ascalar, .ref mo_acane, .ref mo_ais, .ref mo_astrandOf, .ref mo_aweight, .ref mo_aheight, .ref mo_achairOf, .ref mo_anoteMinute, .ref mo_anoteWho, .ref mo_anoteIs, .ref mo_atoldCane, .ref mo_anewScalar, .ref mo_anewCane, .ref mo_anewHeight, .ref mo_anewStrand, .ref mo_anewChair, .ref mo_anewWeight, .int mo_taped, .int w3, .int mo_fault, .int mo_slot, .int mo_rules, .int mo_entries, .int mo_deep, .int mo_counted, .int mo_opened, .int mo_words, .ref mo_atape, .ref mo_asort, .ref mo_anumber, .ref mo_aclauses, .ref mo_asumAt, .ref mo_atestAt, .ref mo_aendAt, .ref mo_aopen, .ref mo_aasked, .ref mo_astack, .ref mo_amust, .ref mo_apast, .ref mo_apastOf, .int mo_pastMany, .int mo_pastAt, .int mo_takesBack, .ref mo_acanRise, .ref mo_afirstHas, .ref mo_asecondHas, .ref mo_alay, .ref mo_ashows, .ref mo_aimages, .ref mo_aisMade, .int mo_imageAt, .int mo_goesBack])), (mo_anewScalar, hcI k 4 (sc4 mo_n0 mo_n1 mo_n2 mo_n3))]) (EY.ok ad tv) hE hx hb hml hown hts hG hA hP hD hS hl.1 [0, 1, 2, 3, 4, 5, 6, 7] (i_X9_hallWord l D k _ L3_5 ad tv) gX9_hallClause_X9_hallWord rfl ⟨rfl, rfl, Nat.le_of_ble_eq_true rfl, Nat.le_of_ble_eq_true rfl⟩ (by decide +kernel) rfl (by decide) ⟨rfl, rfl, Nat.le_of_ble_eq_true rfl, Nat.le_of_ble_eq_true rfl, Nat.le_of_ble_eq_true rfl⟩ dX9_hallClause_67 (fun H locs hP hD hS => ?_)
            have yb12 := yn_b (wdH L3_5) (wdH_lt _)
            refine hc_ViE (As := []) (rest := [.int w3, .ref mo]) (n := 0) (wr := [(mo_anewCane, hcI k 4 mo_rnewCane), (mo_anewHeight, hcI k 8 mo_rnewHeight), (mo_anewStrand, hcI k 8 mo_rnewStrand), (mo_anewChair, hcI k 8 mo_rnewChair), (mo_anewWeight, hcI k 8 mo_rnewWeight), (mo_atape, hcY k 400 mo_rtape), (mo, .inr (7, [.int mo_thrown, .ref mo_ascalar, .ref mo_acane, .ref mo_ais, .ref mo_astrandOf, .ref mo_aweight, .ref mo_aheight, .ref mo_achairOf, .ref mo_anoteMinute, .ref mo_anoteWho, .ref mo_anoteIs, .ref mo_atoldCane, .ref mo_anewScalar, .ref mo_anewCane, .ref mo_anewHeight, .ref mo_anewStrand, .ref mo_anewChair, .ref mo_anewWeight, .int mo_taped, .int w3, .int mo_fault, .int mo_slot, .int mo_rules, .int mo_entries, .int mo_deep, .int mo_counted, .int mo_opened, .int mo_words, .ref mo_atape, .ref mo_asort, .ref mo_anumber, .ref mo_aclauses, .ref mo_asumAt, .ref mo_atestAt, .ref mo_aendAt, .ref mo_aopen, .ref mo_aasked, .ref mo_astack, .ref mo_amust, .ref mo_apast, .ref mo_apastOf, .int mo_pastMany, .int mo_pastAt, .int mo_takesBack, .ref mo_acanRise, .ref mo_afirstHas, .ref mo_asecondHas, .ref mo_alay, .ref mo_ashows, .ref mo_aimages, .ref mo_aisMade, .int mo_imageAt, .int mo_goesBack])), (mo_anewScalar, hcI k 4 (sc4 mo_n0 mo_n1 mo_n2 mo_n3))]) (ES.ok (ad (wdH L3_5)) (tv (wdH L3_5)) (yn (wdH L3_5))) ⟨hE.1, hE.2.2.1 _ (wdH_lt _), hE.2.1⟩ hx hb hml hown hts hG hA hP hD hS hl.1 [] [0, 1, 2, 3, 4, 5, 6, 7] (c_length l D k _ (ad (wdH L3_5)) (tv (wdH L3_5)) (yn (wdH L3_5))) (va_Orecv ((show ES (ad (wdH L3_5)) (tv (wdH L3_5)) (yn (wdH L3_5)) A s from ⟨hE.1, hE.2.2.1 _ (wdH_lt _), hE.2.1⟩)).2.1.1 hS) gX9_hallClause_J0_length_8abf5 rfl ⟨rfl, rfl, Nat.le_of_ble_eq_true rfl, Nat.le_of_ble_eq_true rfl⟩ (by decide +kernel) rfl rfl ⟨by decide, by decide, by decide⟩ ⟨rfl, rfl, Nat.le_of_ble_eq_true rfl, Nat.le_of_ble_eq_true rfl, Nat.le_of_ble_eq_true rfl⟩ dX9_hallClause_70 (fun r13 u_ H locs hw hP hD hS => ?_)
            have hP : va_P D vwCl ([(mo_anewCane, hcI k 4 mo_rnewCane), (mo_anewHeight, hcI k 8 mo_rnewHeight), (mo_anewStrand, hcI k 8 mo_rnewStrand), (mo_anewChair, hcI k 8 mo_rnewChair), (mo_anewWeight, hcI k 8 mo_rnewWeight), (mo_atape, hcY k 400 mo_rtape), (mo, .inr (7, [.int mo_thrown, .ref mo_ascalar, .ref mo_acane, .ref mo_ais, .ref mo_astrandOf, .ref mo_aweight, .ref mo_aheight, .ref mo_achairOf, .ref mo_anoteMinute, .ref mo_anoteWho, .ref mo_anoteIs, .ref mo_atoldCane, .ref mo_anewScalar, .ref mo_anewCane, .ref mo_anewHeight, .ref mo_anewStrand, .ref mo_anewChair, .ref mo_anewWeight, .int mo_taped, .int w3, .int mo_fault, .int mo_slot, .int mo_rules, .int mo_entries, .int mo_deep, .int mo_counted, .int mo_opened, .int mo_words, .ref mo_atape, .ref mo_asort, .ref mo_anumber, .ref mo_aclauses, .ref mo_asumAt, .ref mo_atestAt, .ref mo_aendAt, .ref mo_aopen, .ref mo_aasked, .ref mo_astack, .ref mo_amust, .ref mo_apast, .ref mo_apastOf, .int mo_pastMany, .int mo_pastAt, .int mo_takesBack, .ref mo_acanRise, .ref mo_afirstHas, .ref mo_asecondHas, .ref mo_alay, .ref mo_ashows, .ref mo_aimages, .ref mo_aisMade, .int mo_imageAt, .int mo_goesBack])), (mo_anewScalar, hcI k 4 (sc4 mo_n0 mo_n1 mo_n2 mo_n3))]) H := hP
            have hD : va_D A ([(mo_anewCane, hcI k 4 mo_rnewCane), (mo_anewHeight, hcI k 8 mo_rnewHeight), (mo_anewStrand, hcI k 8 mo_rnewStrand), (mo_anewChair, hcI k 8 mo_rnewChair), (mo_anewWeight, hcI k 8 mo_rnewWeight), (mo_atape, hcY k 400 mo_rtape), (mo, .inr (7, [.int mo_thrown, .ref mo_ascalar, .ref mo_acane, .ref mo_ais, .ref mo_astrandOf, .ref mo_aweight, .ref mo_aheight, .ref mo_achairOf, .ref mo_anoteMinute, .ref mo_anoteWho, .ref mo_anoteIs, .ref mo_atoldCane, .ref mo_anewScalar, .ref mo_anewCane, .ref mo_anewHeight, .ref mo_anewStrand, .ref mo_anewChair, .ref mo_anewWeight, .int mo_taped, .int w3, .int mo_fault, .int mo_slot, .int mo_rules, .int mo_entries, .int mo_deep, .int mo_counted, .int mo_opened, .int mo_words, .ref mo_atape, .ref mo_asort, .ref mo_anumber, .ref mo_aclauses, .ref mo_asumAt, .ref mo_atestAt, .ref mo_aendAt, .ref mo_aopen, .ref mo_aasked, .ref mo_astack, .ref mo_amust, .ref mo_apast, .ref mo_apastOf, .int mo_pastMany, .int mo_pastAt, .int mo_takesBack, .ref mo_acanRise, .ref mo_afirstHas, .ref mo_asecondHas, .ref mo_alay, .ref mo_ashows, .ref mo_aimages, .ref mo_aisMade, .int mo_imageAt, .int mo_goesBack])), (mo_anewScalar, hcI k 4 (sc4 mo_n0 mo_n1 mo_n2 mo_n3))]) := hD
            have tr13 : r13.toInt = (yn (wdH L3_5)) := by rw [hw]; exact nI_toInt (by omega)
            refine lv_iadd hx hb dX9_hallClause_73 ?_
            refine lv_topi (fun z14 ez14 => ?_)
            have tz14 : z14.toInt = w3.toInt + r13.toInt := ai_add rfl rfl ez14 (by omega) (by omega)
            refine va_put (D := D) (ci := 7) (v := .int z14) (C := RX9) (T := TX9) (N := 53) hx hb hts in9 tyX9 tyX9_ok nmX9 hown hG.1 hP hD hS 6 rfl rfl 19 (by decide) (hts (.fieldLink RX9 164 "ChairCaneModel" "p" "I") (by decide +kernel)) (fun _ h9 => h9) rfl (tyX9_ok 19 (by decide)) rfl rfl (Nat.le_of_ble_eq_true rfl) dX9_hallClause_74 (fun H locs hP hD hS => ?_)
            have hP : va_P D vwCl ([(mo_anewCane, hcI k 4 mo_rnewCane), (mo_anewHeight, hcI k 8 mo_rnewHeight), (mo_anewStrand, hcI k 8 mo_rnewStrand), (mo_anewChair, hcI k 8 mo_rnewChair), (mo_anewWeight, hcI k 8 mo_rnewWeight), (mo_atape, hcY k 400 mo_rtape), (mo, .inr (7, [.int mo_thrown, .ref mo_ascalar, .ref mo_acane, .ref mo_ais, .ref mo_astrandOf, .ref mo_aweight, .ref mo_aheight, .ref mo_achairOf, .ref mo_anoteMinute, .ref mo_anoteWho, .ref mo_anoteIs, .ref mo_atoldCane, .ref mo_anewScalar, .ref mo_anewCane, .ref mo_anewHeight, .ref mo_anewStrand, .ref mo_anewChair, .ref mo_anewWeight, .int mo_taped, .int z14, .int mo_fault, .int mo_slot, .int mo_rules, .int mo_entries, .int mo_deep, .int mo_counted, .int mo_opened, .int mo_words, .ref mo_atape, .ref mo_asort, .ref mo_anumber, .ref mo_aclauses, .ref mo_asumAt, .ref mo_atestAt, .ref mo_aendAt, .ref mo_aopen, .ref mo_aasked, .ref mo_astack, .ref mo_amust, .ref mo_apast, .ref mo_apastOf, .int mo_pastMany, .int mo_pastAt, .int mo_takesBack, .ref mo_acanRise, .ref mo_afirstHas, .ref mo_asecondHas, .ref mo_alay, .ref mo_ashows, .ref mo_aimages, .ref mo_aisMade, .int mo_imageAt, .int mo_goesBack])), (mo_anewScalar, hcI k 4 (sc4 mo_n0 mo_n1 mo_n2 mo_n3))]) H := hP
            have hD : va_D A ([(mo_anewCane, hcI k 4 mo_rnewCane), (mo_anewHeight, hcI k 8 mo_rnewHeight), (mo_anewStrand, hcI k 8 mo_rnewStrand), (mo_anewChair, hcI k 8 mo_rnewChair), (mo_anewWeight, hcI k 8 mo_rnewWeight), (mo_atape, hcY k 400 mo_rtape), (mo, .inr (7, [.int mo_thrown, .ref mo_ascalar, .ref mo_acane, .ref mo_ais, .ref mo_astrandOf, .ref mo_aweight, .ref mo_aheight, .ref mo_achairOf, .ref mo_anoteMinute, .ref mo_anoteWho, .ref mo_anoteIs, .ref mo_atoldCane, .ref mo_anewScalar, .ref mo_anewCane, .ref mo_anewHeight, .ref mo_anewStrand, .ref mo_anewChair, .ref mo_anewWeight, .int mo_taped, .int z14, .int mo_fault, .int mo_slot, .int mo_rules, .int mo_entries, .int mo_deep, .int mo_counted, .int mo_opened, .int mo_words, .ref mo_atape, .ref mo_asort, .ref mo_anumber, .ref mo_aclauses, .ref mo_asumAt, .ref mo_atestAt, .ref mo_aendAt, .ref mo_aopen, .ref mo_aasked, .ref mo_astack, .ref mo_amust, .ref mo_apast, .ref mo_apastOf, .int mo_pastMany, .int mo_pastAt, .int mo_takesBack, .ref mo_acanRise, .ref mo_afirstHas, .ref mo_asecondHas, .ref mo_alay, .ref mo_ashows, .ref mo_aimages, .ref mo_aisMade, .int mo_imageAt, .int mo_goesBack])), (mo_anewScalar, hcI k 4 (sc4 mo_n0 mo_n1 mo_n2 mo_n3))]) := hD
            refine lv_aload_n hx hb dX9_hallClause_77 rfl (lv_at hl 2 rfl) ?_
            refine lv_iload_n hx hb dX9_hallClause_78 rfl (lv_at hl 0 rfl) ?_
            refine hc_Vv (As := [.int L3_5]) (rest := []) (n := 1) (wr := []) hx hb hml hown hts hG hA hP hD hS hl.1 [6, 0, 1, 2, 3, 4, 5, 7] [] (i_X9_hallPart l D k _ L3_5 mo mo_thrown mo_ascalar mo_acane mo_ais mo_astrandOf mo_aweight mo_aheight mo_achairOf mo_anoteMinute mo_anoteWho mo_anoteIs mo_atoldCane mo_anewScalar mo_anewCane mo_anewHeight mo_anewStrand mo_anewChair mo_anewWeight mo_taped z14 mo_fault mo_slot mo_rules mo_entries mo_deep mo_counted mo_opened mo_words mo_atape mo_asort mo_anumber mo_aclauses mo_asumAt mo_atestAt mo_aendAt mo_aopen mo_aasked mo_astack mo_amust mo_apast mo_apastOf mo_pastMany mo_pastAt mo_takesBack mo_acanRise mo_afirstHas mo_asecondHas mo_alay mo_ashows mo_aimages mo_aisMade mo_imageAt mo_goesBack mo_rnewCane mo_rnewHeight mo_rnewStrand mo_rnewChair mo_rnewWeight mo_rtape mo_n0 mo_n1 mo_n2 mo_n3 ⟨by omega, by omega⟩ ⟨by omega, by omega⟩ ⟨by omega, by omega⟩ ⟨by omega, by omega⟩ ⟨by omega, by omega⟩ ⟨by omega, by omega⟩ ⟨by omega, by omega⟩ ⟨by omega, by omega⟩ ⟨by omega, by omega⟩ ⟨by omega, by omega⟩ ⟨by omega, by omega⟩ ⟨by omega, by omega⟩ ⟨by omega, by omega⟩ ⟨by omega, by omega⟩ ⟨by omega, by omega⟩ h_mo_rnewChair h_mo_rnewWeight ⟨by omega, by omega⟩ ⟨by omega, by omega⟩ ⟨by omega, by omega⟩ ⟨by omega, by omega⟩ (by omega) (by omega) (by omega) (by omega) hh_NHall) (ci := 7) (q0 := 6) rfl rfl gX9_hallClause_X9_hallPart rfl ⟨rfl, rfl, Nat.le_of_ble_eq_true rfl, Nat.le_of_ble_eq_true rfl⟩ (by decide +kernel) rfl rfl ⟨by decide, by decide, by decide⟩ ⟨rfl, rfl, Nat.le_of_ble_eq_true rfl, Nat.le_of_ble_eq_true rfl, Nat.le_of_ble_eq_true rfl⟩ dX9_hallClause_79 (fun u15 H locs hw hP hD hS => ?_)
            obtain ⟨w17, w18, w19, w20, w21, w22, w23, w24, w25, w26, w27⟩ := u15
            have hP : va_P D vwCl ([(mo, .inr (7, [.int mo_thrown, .ref mo_ascalar, .ref mo_acane, .ref mo_ais, .ref mo_astrandOf, .ref mo_aweight, .ref mo_aheight, .ref mo_achairOf, .ref mo_anoteMinute, .ref mo_anoteWho, .ref mo_anoteIs, .ref mo_atoldCane, .ref mo_anewScalar, .ref mo_anewCane, .ref mo_anewHeight, .ref mo_anewStrand, .ref mo_anewChair, .ref mo_anewWeight, .int mo_taped, .int w18, .int w19, .int mo_slot, .int mo_rules, .int mo_entries, .int mo_deep, .int mo_counted, .int mo_opened, .int mo_words, .ref mo_atape, .ref mo_asort, .ref mo_anumber, .ref mo_aclauses, .ref mo_asumAt, .ref mo_atestAt, .ref mo_aendAt, .ref mo_aopen, .ref mo_aasked, .ref mo_astack, .ref mo_amust, .ref mo_apast, .ref mo_apastOf, .int mo_pastMany, .int mo_pastAt, .int mo_takesBack, .ref mo_acanRise, .ref mo_afirstHas, .ref mo_asecondHas, .ref mo_alay, .ref mo_ashows, .ref mo_aimages, .ref mo_aisMade, .int mo_imageAt, .int mo_goesBack])), (mo_anewCane, hcI k 4 w20), (mo_anewHeight, hcI k 8 w22), (mo_anewStrand, hcI k 8 w23), (mo_anewChair, hcI k 8 w25), (mo_anewWeight, hcI k 8 w26), (mo_atape, hcY k 400 mo_rtape), (mo_anewScalar, hcI k 4 (sc4 w17 w21 w24 w27))]) H := hP
            have hD : va_D A ([(mo, .inr (7, [.int mo_thrown, .ref mo_ascalar, .ref mo_acane, .ref mo_ais, .ref mo_astrandOf, .ref mo_aweight, .ref mo_aheight, .ref mo_achairOf, .ref mo_anoteMinute, .ref mo_anoteWho, .ref mo_anoteIs, .ref mo_atoldCane, .ref mo_anewScalar, .ref mo_anewCane, .ref mo_anewHeight, .ref mo_anewStrand, .ref mo_anewChair, .ref mo_anewWeight, .int mo_taped, .int w18, .int w19, .int mo_slot, .int mo_rules, .int mo_entries, .int mo_deep, .int mo_counted, .int mo_opened, .int mo_words, .ref mo_atape, .ref mo_asort, .ref mo_anumber, .ref mo_aclauses, .ref mo_asumAt, .ref mo_atestAt, .ref mo_aendAt, .ref mo_aopen, .ref mo_aasked, .ref mo_astack, .ref mo_amust, .ref mo_apast, .ref mo_apastOf, .int mo_pastMany, .int mo_pastAt, .int mo_takesBack, .ref mo_acanRise, .ref mo_afirstHas, .ref mo_asecondHas, .ref mo_alay, .ref mo_ashows, .ref mo_aimages, .ref mo_aisMade, .int mo_imageAt, .int mo_goesBack])), (mo_anewCane, hcI k 4 w20), (mo_anewHeight, hcI k 8 w22), (mo_anewStrand, hcI k 8 w23), (mo_anewChair, hcI k 8 w25), (mo_anewWeight, hcI k 8 w26), (mo_atape, hcY k 400 mo_rtape), (mo_anewScalar, hcI k 4 (sc4 w17 w21 w24 w27))]) := hD
            obtain ⟨bw17, bw18, bw19, bw21, bw24, h_w25, h_w26, bw27, rel28, hh29_NHall⟩ := hw
            have bw17 : iv (0) (1) w17 := bw17
            have bw17_l := bw17.1
            have bw17_u := bw17.2
            have bw18 : iv (0) (402) w18 := bw18
            have bw18_l := bw18.1
            have bw18_u := bw18.2
            have bw19 : iv (0) (4000) w19 := bw19
            have bw19_l := bw19.1
            have bw19_u := bw19.2
            have bw21 : iv (0) (4) w21 := bw21
            have bw21_l := bw21.1
            have bw21_u := bw21.2
            have bw24 : iv (0) (8) w24 := bw24
            have bw24_l := bw24.1
            have bw24_u := bw24.2
            have h_w25 : rowIn (0) (7) w25 := h_w25
            have h_w26 : rowIn (0) (20) w26 := h_w26
            have bw27 : iv (0) (8) w27 := bw27
            have bw27_l := bw27.1
            have bw27_u := bw27.2
            try dsimp only at rel28
            have hh29_NHall : NHall w19 w24 w27 w23 w25 w26 := hh29_NHall
            exact hc_endV hx hb hr hlocks (w18, w19, w20, w22, w23, w25, w26, w17, w21, w24, w27) ⟨(show iv (0) (402) w18 from ⟨by omega, by omega⟩), (show iv (0) (4000) w19 from ⟨by omega, by omega⟩), h_w25, h_w26, (show iv (0) (1) w17 from ⟨by omega, by omega⟩), (show iv (0) (4) w21 from ⟨by omega, by omega⟩), (show iv (0) (8) w24 from ⟨by omega, by omega⟩), (show iv (0) (8) w27 from ⟨by omega, by omega⟩), (by (try dsimp only); omega), hh29_NHall⟩ hP hD hS dX9_hallClause_82
          · have fc11 := cx_eq_f (a := r9.toInt) (b := 0) rfl (by decide) c11
            refine lv_aload_n hx hb dX9_hallClause_54 rfl (lv_at hl 2 rfl) ?_
            refine lv_iconst (v := 4) hx hb dX9_hallClause_55 (by decide) ?_
            refine lv_iload_n hx hb dX9_hallClause_56 rfl (lv_at hl 1 rfl) ?_
            have ql30 : (4 : Int32).toInt = 4 := by decide
            refine hc_Vv (As := [.int 4, .int w3]) (rest := []) (n := 2) (wr := [(mo_anewCane, hcI k 4 mo_rnewCane), (mo_anewHeight, hcI k 8 mo_rnewHeight), (mo_anewStrand, hcI k 8 mo_rnewStrand), (mo_anewChair, hcI k 8 mo_rnewChair), (mo_anewWeight, hcI k 8 mo_rnewWeight), (mo_atape, hcY k 400 mo_rtape), (mo_anewScalar, hcI k 4 (sc4 mo_n0 mo_n1 mo_n2 mo_n3))]) hx hb hml hown hts hG hA hP hD hS hl.1 [6] [0, 1, 2, 3, 4, 5, 7] (i_X9_fails l D k _ 4 w3 mo mo_thrown mo_ascalar mo_acane mo_ais mo_astrandOf mo_aweight mo_aheight mo_achairOf mo_anoteMinute mo_anoteWho mo_anoteIs mo_atoldCane mo_anewScalar mo_anewCane mo_anewHeight mo_anewStrand mo_anewChair mo_anewWeight mo_taped w3 mo_fault mo_slot mo_rules mo_entries mo_deep mo_counted mo_opened mo_words mo_atape mo_asort mo_anumber mo_aclauses mo_asumAt mo_atestAt mo_aendAt mo_aopen mo_aasked mo_astack mo_amust mo_apast mo_apastOf mo_pastMany mo_pastAt mo_takesBack mo_acanRise mo_afirstHas mo_asecondHas mo_alay mo_ashows mo_aimages mo_aisMade mo_imageAt mo_goesBack (iv_lit (by decide) (by decide)) ⟨by omega, by omega⟩ ⟨by omega, by omega⟩ ⟨by omega, by omega⟩ ⟨by omega, by omega⟩ ⟨by omega, by omega⟩ ⟨by omega, by omega⟩ ⟨by omega, by omega⟩ ⟨by omega, by omega⟩ ⟨by omega, by omega⟩ ⟨by omega, by omega⟩ ⟨by omega, by omega⟩ ⟨by omega, by omega⟩ ⟨by omega, by omega⟩ ⟨by omega, by omega⟩ ⟨by omega, by omega⟩) (ci := 7) (q0 := 6) rfl rfl gX9_hallClause_X9_fails rfl ⟨rfl, rfl, Nat.le_of_ble_eq_true rfl, Nat.le_of_ble_eq_true rfl⟩ (by decide +kernel) rfl rfl ⟨by decide, by decide, by decide⟩ ⟨rfl, rfl, Nat.le_of_ble_eq_true rfl, Nat.le_of_ble_eq_true rfl, Nat.le_of_ble_eq_true rfl⟩ dX9_hallClause_57 (fun u31 H locs hw hP hD hS => ?_)
            obtain ⟨w33, rfl⟩ : ∃ z, z = u31 := ⟨_, rfl⟩
            have hP : va_P D vwCl ([(mo_anewCane, hcI k 4 mo_rnewCane), (mo_anewHeight, hcI k 8 mo_rnewHeight), (mo_anewStrand, hcI k 8 mo_rnewStrand), (mo_anewChair, hcI k 8 mo_rnewChair), (mo_anewWeight, hcI k 8 mo_rnewWeight), (mo_atape, hcY k 400 mo_rtape), (mo_anewScalar, hcI k 4 (sc4 mo_n0 mo_n1 mo_n2 mo_n3)), (mo, .inr (7, [.int mo_thrown, .ref mo_ascalar, .ref mo_acane, .ref mo_ais, .ref mo_astrandOf, .ref mo_aweight, .ref mo_aheight, .ref mo_achairOf, .ref mo_anoteMinute, .ref mo_anoteWho, .ref mo_anoteIs, .ref mo_atoldCane, .ref mo_anewScalar, .ref mo_anewCane, .ref mo_anewHeight, .ref mo_anewStrand, .ref mo_anewChair, .ref mo_anewWeight, .int mo_taped, .int w3, .int w33, .int mo_slot, .int mo_rules, .int mo_entries, .int mo_deep, .int mo_counted, .int mo_opened, .int mo_words, .ref mo_atape, .ref mo_asort, .ref mo_anumber, .ref mo_aclauses, .ref mo_asumAt, .ref mo_atestAt, .ref mo_aendAt, .ref mo_aopen, .ref mo_aasked, .ref mo_astack, .ref mo_amust, .ref mo_apast, .ref mo_apastOf, .int mo_pastMany, .int mo_pastAt, .int mo_takesBack, .ref mo_acanRise, .ref mo_afirstHas, .ref mo_asecondHas, .ref mo_alay, .ref mo_ashows, .ref mo_aimages, .ref mo_aisMade, .int mo_imageAt, .int mo_goesBack]))]) H := hP
            have hD : va_D A ([(mo_anewCane, hcI k 4 mo_rnewCane), (mo_anewHeight, hcI k 8 mo_rnewHeight), (mo_anewStrand, hcI k 8 mo_rnewStrand), (mo_anewChair, hcI k 8 mo_rnewChair), (mo_anewWeight, hcI k 8 mo_rnewWeight), (mo_atape, hcY k 400 mo_rtape), (mo_anewScalar, hcI k 4 (sc4 mo_n0 mo_n1 mo_n2 mo_n3)), (mo, .inr (7, [.int mo_thrown, .ref mo_ascalar, .ref mo_acane, .ref mo_ais, .ref mo_astrandOf, .ref mo_aweight, .ref mo_aheight, .ref mo_achairOf, .ref mo_anoteMinute, .ref mo_anoteWho, .ref mo_anoteIs, .ref mo_atoldCane, .ref mo_anewScalar, .ref mo_anewCane, .ref mo_anewHeight, .ref mo_anewStrand, .ref mo_anewChair, .ref mo_anewWeight, .int mo_taped, .int w3, .int w33, .int mo_slot, .int mo_rules, .int mo_entries, .int mo_deep, .int mo_counted, .int mo_opened, .int mo_words, .ref mo_atape, .ref mo_asort, .ref mo_anumber, .ref mo_aclauses, .ref mo_asumAt, .ref mo_atestAt, .ref mo_aendAt, .ref mo_aopen, .ref mo_aasked, .ref mo_astack, .ref mo_amust, .ref mo_apast, .ref mo_apastOf, .int mo_pastMany, .int mo_pastAt, .int mo_takesBack, .ref mo_acanRise, .ref mo_afirstHas, .ref mo_asecondHas, .ref mo_alay, .ref mo_ashows, .ref mo_aimages, .ref mo_aisMade, .int mo_imageAt, .int mo_goesBack]))]) := hD
            have ql35 : (4 : Int32).toInt = 4 := by decide
            obtain ⟨bw33, rel34⟩ := hw
            have bw33 : iv (0) (4000) w33 := bw33
            have bw33_l := bw33.1
            have bw33_u := bw33.2
            try dsimp only at rel34
            have hh36 : NHall w33 mo_n2 mo_n3 mo_rnewStrand mo_rnewChair mo_rnewWeight := NHall.F hh_NHall (by omega)
            exact hc_endV hx hb hr hlocks (w3, w33, mo_rnewCane, mo_rnewHeight, mo_rnewStrand, mo_rnewChair, mo_rnewWeight, mo_n0, mo_n1, mo_n2, mo_n3) ⟨(show iv (0) (402) w3 from ⟨by omega, by omega⟩), (show iv (0) (4000) w33 from ⟨by omega, by omega⟩), h_mo_rnewChair, h_mo_rnewWeight, (show iv (0) (1) mo_n0 from ⟨by omega, by omega⟩), (show iv (0) (4) mo_n1 from ⟨by omega, by omega⟩), (show iv (0) (8) mo_n2 from ⟨by omega, by omega⟩), (show iv (0) (8) mo_n3 from ⟨by omega, by omega⟩), (by (try dsimp only); omega), hh36⟩ (hP.sub [7, 0, 1, 2, 3, 4, 5, 6] rfl) (hD.sub [7, 0, 1, 2, 3, 4, 5, 6] (by decide) rfl) hS dX9_hallClause_60
        · have fc7 := cx_ne_f (a := L3_5.toInt) (b := 4) rfl (by decide) c7
          refine lv_aload_n hx hb dX9_hallClause_38 rfl (lv_at hl 2 rfl) ?_
          refine lv_iconst (v := 0) hx hb dX9_hallClause_39 (by decide) ?_
          refine lv_iload_n hx hb dX9_hallClause_40 rfl (lv_at hl 1 rfl) ?_
          have ql37 : (0 : Int32).toInt = 0 := by decide
          refine hc_Vv (As := [.int 0, .int w3]) (rest := []) (n := 2) (wr := [(mo_anewCane, hcI k 4 mo_rnewCane), (mo_anewHeight, hcI k 8 mo_rnewHeight), (mo_anewStrand, hcI k 8 mo_rnewStrand), (mo_anewChair, hcI k 8 mo_rnewChair), (mo_anewWeight, hcI k 8 mo_rnewWeight), (mo_anewScalar, hcI k 4 (sc4 mo_n0 mo_n1 mo_n2 mo_n3)), (mo_atape, hcY k 400 mo_rtape)]) hx hb hml hown hts hG hA hP hD hS hl.1 [6] [0, 1, 2, 3, 4, 5, 7] (i_X9_fails l D k _ 0 w3 mo mo_thrown mo_ascalar mo_acane mo_ais mo_astrandOf mo_aweight mo_aheight mo_achairOf mo_anoteMinute mo_anoteWho mo_anoteIs mo_atoldCane mo_anewScalar mo_anewCane mo_anewHeight mo_anewStrand mo_anewChair mo_anewWeight mo_taped w3 mo_fault mo_slot mo_rules mo_entries mo_deep mo_counted mo_opened mo_words mo_atape mo_asort mo_anumber mo_aclauses mo_asumAt mo_atestAt mo_aendAt mo_aopen mo_aasked mo_astack mo_amust mo_apast mo_apastOf mo_pastMany mo_pastAt mo_takesBack mo_acanRise mo_afirstHas mo_asecondHas mo_alay mo_ashows mo_aimages mo_aisMade mo_imageAt mo_goesBack (iv_lit (by decide) (by decide)) ⟨by omega, by omega⟩ ⟨by omega, by omega⟩ ⟨by omega, by omega⟩ ⟨by omega, by omega⟩ ⟨by omega, by omega⟩ ⟨by omega, by omega⟩ ⟨by omega, by omega⟩ ⟨by omega, by omega⟩ ⟨by omega, by omega⟩ ⟨by omega, by omega⟩ ⟨by omega, by omega⟩ ⟨by omega, by omega⟩ ⟨by omega, by omega⟩ ⟨by omega, by omega⟩ ⟨by omega, by omega⟩) (ci := 7) (q0 := 6) rfl rfl gX9_hallClause_X9_fails rfl ⟨rfl, rfl, Nat.le_of_ble_eq_true rfl, Nat.le_of_ble_eq_true rfl⟩ (by decide +kernel) rfl rfl ⟨by decide, by decide, by decide⟩ ⟨rfl, rfl, Nat.le_of_ble_eq_true rfl, Nat.le_of_ble_eq_true rfl, Nat.le_of_ble_eq_true rfl⟩ dX9_hallClause_41 (fun u38 H locs hw hP hD hS => ?_)
          obtain ⟨w40, rfl⟩ : ∃ z, z = u38 := ⟨_, rfl⟩
          have hP : va_P D vwCl ([(mo_anewCane, hcI k 4 mo_rnewCane), (mo_anewHeight, hcI k 8 mo_rnewHeight), (mo_anewStrand, hcI k 8 mo_rnewStrand), (mo_anewChair, hcI k 8 mo_rnewChair), (mo_anewWeight, hcI k 8 mo_rnewWeight), (mo_anewScalar, hcI k 4 (sc4 mo_n0 mo_n1 mo_n2 mo_n3)), (mo_atape, hcY k 400 mo_rtape), (mo, .inr (7, [.int mo_thrown, .ref mo_ascalar, .ref mo_acane, .ref mo_ais, .ref mo_astrandOf, .ref mo_aweight, .ref mo_aheight, .ref mo_achairOf, .ref mo_anoteMinute, .ref mo_anoteWho, .ref mo_anoteIs, .ref mo_atoldCane, .ref mo_anewScalar, .ref mo_anewCane, .ref mo_anewHeight, .ref mo_anewStrand, .ref mo_anewChair, .ref mo_anewWeight, .int mo_taped, .int w3, .int w40, .int mo_slot, .int mo_rules, .int mo_entries, .int mo_deep, .int mo_counted, .int mo_opened, .int mo_words, .ref mo_atape, .ref mo_asort, .ref mo_anumber, .ref mo_aclauses, .ref mo_asumAt, .ref mo_atestAt, .ref mo_aendAt, .ref mo_aopen, .ref mo_aasked, .ref mo_astack, .ref mo_amust, .ref mo_apast, .ref mo_apastOf, .int mo_pastMany, .int mo_pastAt, .int mo_takesBack, .ref mo_acanRise, .ref mo_afirstHas, .ref mo_asecondHas, .ref mo_alay, .ref mo_ashows, .ref mo_aimages, .ref mo_aisMade, .int mo_imageAt, .int mo_goesBack]))]) H := hP
          have hD : va_D A ([(mo_anewCane, hcI k 4 mo_rnewCane), (mo_anewHeight, hcI k 8 mo_rnewHeight), (mo_anewStrand, hcI k 8 mo_rnewStrand), (mo_anewChair, hcI k 8 mo_rnewChair), (mo_anewWeight, hcI k 8 mo_rnewWeight), (mo_anewScalar, hcI k 4 (sc4 mo_n0 mo_n1 mo_n2 mo_n3)), (mo_atape, hcY k 400 mo_rtape), (mo, .inr (7, [.int mo_thrown, .ref mo_ascalar, .ref mo_acane, .ref mo_ais, .ref mo_astrandOf, .ref mo_aweight, .ref mo_aheight, .ref mo_achairOf, .ref mo_anoteMinute, .ref mo_anoteWho, .ref mo_anoteIs, .ref mo_atoldCane, .ref mo_anewScalar, .ref mo_anewCane, .ref mo_anewHeight, .ref mo_anewStrand, .ref mo_anewChair, .ref mo_anewWeight, .int mo_taped, .int w3, .int w40, .int mo_slot, .int mo_rules, .int mo_entries, .int mo_deep, .int mo_counted, .int mo_opened, .int mo_words, .ref mo_atape, .ref mo_asort, .ref mo_anumber, .ref mo_aclauses, .ref mo_asumAt, .ref mo_atestAt, .ref mo_aendAt, .ref mo_aopen, .ref mo_aasked, .ref mo_astack, .ref mo_amust, .ref mo_apast, .ref mo_apastOf, .int mo_pastMany, .int mo_pastAt, .int mo_takesBack, .ref mo_acanRise, .ref mo_afirstHas, .ref mo_asecondHas, .ref mo_alay, .ref mo_ashows, .ref mo_aimages, .ref mo_aisMade, .int mo_imageAt, .int mo_goesBack]))]) := hD
          have ql42 : (0 : Int32).toInt = 0 := by decide
          obtain ⟨bw40, rel41⟩ := hw
          have bw40 : iv (0) (4000) w40 := bw40
          have bw40_l := bw40.1
          have bw40_u := bw40.2
          try dsimp only at rel41
          have hh43 : NHall w40 mo_n2 mo_n3 mo_rnewStrand mo_rnewChair mo_rnewWeight := NHall.F hh_NHall (by omega)
          exact hc_endV hx hb hr hlocks (w3, w40, mo_rnewCane, mo_rnewHeight, mo_rnewStrand, mo_rnewChair, mo_rnewWeight, mo_n0, mo_n1, mo_n2, mo_n3) ⟨(show iv (0) (402) w3 from ⟨by omega, by omega⟩), (show iv (0) (4000) w40 from ⟨by omega, by omega⟩), h_mo_rnewChair, h_mo_rnewWeight, (show iv (0) (1) mo_n0 from ⟨by omega, by omega⟩), (show iv (0) (4) mo_n1 from ⟨by omega, by omega⟩), (show iv (0) (8) mo_n2 from ⟨by omega, by omega⟩), (show iv (0) (8) mo_n3 from ⟨by omega, by omega⟩), (by (try dsimp only); omega), hh43⟩ (hP.sub [7, 0, 1, 2, 3, 4, 6, 5] rfl) (hD.sub [7, 0, 1, 2, 3, 4, 6, 5] (by decide) rfl) hS dX9_hallClause_44
      · have fc6 := cx_ge_f (a := L3_5.toInt) (b := 4) rfl (by decide) c6
        refine lv_aload_n hx hb dX9_hallClause_16 rfl (lv_at hl 2 rfl) ?_
        refine lv_iload_n hx hb dX9_hallClause_17 rfl (lv_at hl 0 rfl) ?_
        refine hc_SrE (As := [.int L3_5]) (rest := [.ref mo]) (n := 1) (wr := [(mo_anewCane, hcI k 4 mo_rnewCane), (mo_anewHeight, hcI k 8 mo_rnewHeight), (mo_anewStrand, hcI k 8 mo_rnewStrand), (mo_anewChair, hcI k 8 mo_rnewChair), (mo_anewWeight, hcI k 8 mo_rnewWeight), (mo_anewScalar, hcI k 4 (sc4 mo_n0 mo_n1 mo_n2 mo_n3)), (mo, .inr (7, [.int mo_thrown, .ref mo_ascalar, .ref mo_acane, .ref mo_ais, .ref mo_astrandOf, .ref mo_aweight, .ref mo_aheight, .ref mo_achairOf, .ref mo_anoteMinute, .ref mo_anoteWho, .ref mo_anoteIs, .ref mo_atoldCane, .ref mo_anewScalar, .ref mo_anewCane, .ref mo_anewHeight, .ref mo_anewStrand, .ref mo_anewChair, .ref mo_anewWeight, .int mo_taped, .int w3, .int mo_fault, .int mo_slot, .int mo_rules, .int mo_entries, .int mo_deep, .int mo_counted, .int mo_opened, .int mo_words, .ref mo_atape, .ref mo_asort, .ref mo_anumber, .ref mo_aclauses, .ref mo_asumAt, .ref mo_atestAt, .ref mo_aendAt, .ref mo_aopen, .ref mo_aasked, .ref mo_astack, .ref mo_amust, .ref mo_apast, .ref mo_apastOf, .int mo_pastMany, .int mo_pastAt, .int mo_takesBack, .ref mo_acanRise, .ref mo_afirstHas, .ref mo_asecondHas, .ref mo_alay, .ref mo_ashows, .ref mo_aimages, .ref mo_aisMade, .int mo_imageAt, .int mo_goesBack])), (mo_atape, hcY k 400 mo_rtape)]) (EY.ok ad tv) hE hx hb hml hown hts hG hA hP hD hS hl.1 [0, 1, 2, 3, 4, 5, 6, 7] (i_X9_hallWord l D k _ L3_5 ad tv) gX9_hallClause_X9_hallWord rfl ⟨rfl, rfl, Nat.le_of_ble_eq_true rfl, Nat.le_of_ble_eq_true rfl⟩ (by decide +kernel) rfl (by decide) ⟨rfl, rfl, Nat.le_of_ble_eq_true rfl, Nat.le_of_ble_eq_true rfl, Nat.le_of_ble_eq_true rfl⟩ dX9_hallClause_18 (fun H locs hP hD hS => ?_)
        have yb44 := yn_b (wdH L3_5) (wdH_lt _)
        refine hc_ViE (As := [.ref (ad (wdH L3_5))]) (rest := []) (n := 1) (wr := [(mo_anewCane, hcI k 4 mo_rnewCane), (mo_anewHeight, hcI k 8 mo_rnewHeight), (mo_anewStrand, hcI k 8 mo_rnewStrand), (mo_anewChair, hcI k 8 mo_rnewChair), (mo_anewWeight, hcI k 8 mo_rnewWeight), (mo_anewScalar, hcI k 4 (sc4 mo_n0 mo_n1 mo_n2 mo_n3))]) (ES.ok (ad (wdH L3_5)) (tv (wdH L3_5)) (yn (wdH L3_5))) ⟨hE.1, hE.2.2.1 _ (wdH_lt _), hE.2.1⟩ hx hb hml hown hts hG hA hP hD hS hl.1 [6, 7] [0, 1, 2, 3, 4, 5] (i_X9_stood l D k _ (ad (wdH L3_5)) (tv (wdH L3_5)) (yn (wdH L3_5)) mo mo_thrown mo_ascalar mo_acane mo_ais mo_astrandOf mo_aweight mo_aheight mo_achairOf mo_anoteMinute mo_anoteWho mo_anoteIs mo_atoldCane mo_anewScalar mo_anewCane mo_anewHeight mo_anewStrand mo_anewChair mo_anewWeight mo_taped w3 mo_fault mo_slot mo_rules mo_entries mo_deep mo_counted mo_opened mo_words mo_atape mo_asort mo_anumber mo_aclauses mo_asumAt mo_atestAt mo_aendAt mo_aopen mo_aasked mo_astack mo_amust mo_apast mo_apastOf mo_pastMany mo_pastAt mo_takesBack mo_acanRise mo_afirstHas mo_asecondHas mo_alay mo_ashows mo_aimages mo_aisMade mo_imageAt mo_goesBack mo_rtape yb44 ⟨by omega, by omega⟩ ⟨by omega, by omega⟩ ⟨by omega, by omega⟩ ⟨by omega, by omega⟩ ⟨by omega, by omega⟩ ⟨by omega, by omega⟩ ⟨by omega, by omega⟩ ⟨by omega, by omega⟩ ⟨by omega, by omega⟩ ⟨by omega, by omega⟩ ⟨by omega, by omega⟩ ⟨by omega, by omega⟩ ⟨by omega, by omega⟩ ⟨by omega, by omega⟩) (va_recv hG.1 hP (ci := 7) (q0 := 6) rfl rfl) gX9_hallClause_X9_stood rfl ⟨rfl, rfl, Nat.le_of_ble_eq_true rfl, Nat.le_of_ble_eq_true rfl⟩ (by decide +kernel) rfl rfl ⟨by decide, by decide, by decide⟩ ⟨rfl, rfl, Nat.le_of_ble_eq_true rfl, Nat.le_of_ble_eq_true rfl, Nat.le_of_ble_eq_true rfl⟩ dX9_hallClause_21 (fun r46 u45 H locs hw hP hD hS => ?_)
        have hP : va_P D vwCl ([(mo_anewCane, hcI k 4 mo_rnewCane), (mo_anewHeight, hcI k 8 mo_rnewHeight), (mo_anewStrand, hcI k 8 mo_rnewStrand), (mo_anewChair, hcI k 8 mo_rnewChair), (mo_anewWeight, hcI k 8 mo_rnewWeight), (mo_anewScalar, hcI k 4 (sc4 mo_n0 mo_n1 mo_n2 mo_n3)), (mo, .inr (7, [.int mo_thrown, .ref mo_ascalar, .ref mo_acane, .ref mo_ais, .ref mo_astrandOf, .ref mo_aweight, .ref mo_aheight, .ref mo_achairOf, .ref mo_anoteMinute, .ref mo_anoteWho, .ref mo_anoteIs, .ref mo_atoldCane, .ref mo_anewScalar, .ref mo_anewCane, .ref mo_anewHeight, .ref mo_anewStrand, .ref mo_anewChair, .ref mo_anewWeight, .int mo_taped, .int w3, .int mo_fault, .int mo_slot, .int mo_rules, .int mo_entries, .int mo_deep, .int mo_counted, .int mo_opened, .int mo_words, .ref mo_atape, .ref mo_asort, .ref mo_anumber, .ref mo_aclauses, .ref mo_asumAt, .ref mo_atestAt, .ref mo_aendAt, .ref mo_aopen, .ref mo_aasked, .ref mo_astack, .ref mo_amust, .ref mo_apast, .ref mo_apastOf, .int mo_pastMany, .int mo_pastAt, .int mo_takesBack, .ref mo_acanRise, .ref mo_afirstHas, .ref mo_asecondHas, .ref mo_alay, .ref mo_ashows, .ref mo_aimages, .ref mo_aisMade, .int mo_imageAt, .int mo_goesBack])), (mo_atape, hcY k 400 mo_rtape)]) H := hP
        have hD : va_D A ([(mo_anewCane, hcI k 4 mo_rnewCane), (mo_anewHeight, hcI k 8 mo_rnewHeight), (mo_anewStrand, hcI k 8 mo_rnewStrand), (mo_anewChair, hcI k 8 mo_rnewChair), (mo_anewWeight, hcI k 8 mo_rnewWeight), (mo_anewScalar, hcI k 4 (sc4 mo_n0 mo_n1 mo_n2 mo_n3)), (mo, .inr (7, [.int mo_thrown, .ref mo_ascalar, .ref mo_acane, .ref mo_ais, .ref mo_astrandOf, .ref mo_aweight, .ref mo_aheight, .ref mo_achairOf, .ref mo_anoteMinute, .ref mo_anoteWho, .ref mo_anoteIs, .ref mo_atoldCane, .ref mo_anewScalar, .ref mo_anewCane, .ref mo_anewHeight, .ref mo_anewStrand, .ref mo_anewChair, .ref mo_anewWeight, .int mo_taped, .int w3, .int mo_fault, .int mo_slot, .int mo_rules, .int mo_entries, .int mo_deep, .int mo_counted, .int mo_opened, .int mo_words, .ref mo_atape, .ref mo_asort, .ref mo_anumber, .ref mo_aclauses, .ref mo_asumAt, .ref mo_atestAt, .ref mo_aendAt, .ref mo_aopen, .ref mo_aasked, .ref mo_astack, .ref mo_amust, .ref mo_apast, .ref mo_apastOf, .int mo_pastMany, .int mo_pastAt, .int mo_takesBack, .ref mo_acanRise, .ref mo_afirstHas, .ref mo_asecondHas, .ref mo_alay, .ref mo_ashows, .ref mo_aimages, .ref mo_aisMade, .int mo_imageAt, .int mo_goesBack])), (mo_atape, hcY k 400 mo_rtape)]) := hD
        obtain ⟨br46, rel47⟩ := hw
        have br46 : iv (0) (1) r46 := br46
        have br46_l := br46.1
        have br46_u := br46.2
        refine lv_if_ne (tgt := 33) hx hb dX9_hallClause_24 (by decide) (fun c48 => ?_) (fun c48 => ?_)
        · have fc48 := cx_ne_t (a := r46.toInt) (b := 0) rfl (by decide) c48
          refine lv_iload_n hx hb dX9_hallClause_33 rfl (lv_at hl 0 rfl) ?_
          refine lv_iconst (v := 4) hx hb dX9_hallClause_34 (by decide) ?_
          refine lv_icmp_ne (tgt := 45) hx hb dX9_hallClause_35 (by decide) (fun _ => ?_) (fun h => absurd h (cd_ne_t (a := L3_5.toInt) (b := 4) rfl (by decide) (by omega)))
          refine lv_aload_n hx hb dX9_hallClause_45 rfl (lv_at hl 2 rfl) ?_
          refine lv_iload_n hx hb dX9_hallClause_46 rfl (lv_at hl 0 rfl) ?_
          refine lv_iload_n hx hb dX9_hallClause_47 rfl (lv_at hl 3 rfl) ?_
          refine hc_Vi (As := [.int L3_5, .int x1]) (rest := []) (n := 2) (wr := [(mo_anewCane, hcI k 4 mo_rnewCane), (mo_anewHeight, hcI k 8 mo_rnewHeight), (mo_anewStrand, hcI k 8 mo_rnewStrand), (mo_anewChair, hcI k 8 mo_rnewChair), (mo_anewWeight, hcI k 8 mo_rnewWeight), (mo_atape, hcY k 400 mo_rtape)]) hx hb hml hown hts hG hA hP hD hS hl.1 [6, 5] [0, 1, 2, 3, 4, 7] (i_X9_isFull l D k _ L3_5 x1 mo mo_thrown mo_ascalar mo_acane mo_ais mo_astrandOf mo_aweight mo_aheight mo_achairOf mo_anoteMinute mo_anoteWho mo_anoteIs mo_atoldCane mo_anewScalar mo_anewCane mo_anewHeight mo_anewStrand mo_anewChair mo_anewWeight mo_taped w3 mo_fault mo_slot mo_rules mo_entries mo_deep mo_counted mo_opened mo_words mo_atape mo_asort mo_anumber mo_aclauses mo_asumAt mo_atestAt mo_aendAt mo_aopen mo_aasked mo_astack mo_amust mo_apast mo_apastOf mo_pastMany mo_pastAt mo_takesBack mo_acanRise mo_afirstHas mo_asecondHas mo_alay mo_ashows mo_aimages mo_aisMade mo_imageAt mo_goesBack mo_n0 mo_n1 mo_n2 mo_n3 ⟨by omega, by omega⟩ ⟨by omega, by omega⟩ ⟨by omega, by omega⟩ ⟨by omega, by omega⟩ ⟨by omega, by omega⟩ ⟨by omega, by omega⟩ ⟨by omega, by omega⟩ ⟨by omega, by omega⟩ ⟨by omega, by omega⟩ ⟨by omega, by omega⟩ ⟨by omega, by omega⟩ ⟨by omega, by omega⟩ ⟨by omega, by omega⟩ ⟨by omega, by omega⟩ ⟨by omega, by omega⟩ ⟨by omega, by omega⟩ ⟨by omega, by omega⟩ ⟨by omega, by omega⟩) (ci := 7) (q0 := 6) rfl rfl gX9_hallClause_X9_isFull rfl ⟨rfl, rfl, Nat.le_of_ble_eq_true rfl, Nat.le_of_ble_eq_true rfl⟩ (by decide +kernel) rfl rfl ⟨by decide, by decide, by decide⟩ ⟨rfl, rfl, Nat.le_of_ble_eq_true rfl, Nat.le_of_ble_eq_true rfl, Nat.le_of_ble_eq_true rfl⟩ dX9_hallClause_48 (fun r50 u49 H locs hw hP hD hS => ?_)
          have hP : va_P D vwCl ([(mo_anewCane, hcI k 4 mo_rnewCane), (mo_anewHeight, hcI k 8 mo_rnewHeight), (mo_anewStrand, hcI k 8 mo_rnewStrand), (mo_anewChair, hcI k 8 mo_rnewChair), (mo_anewWeight, hcI k 8 mo_rnewWeight), (mo_atape, hcY k 400 mo_rtape), (mo, .inr (7, [.int mo_thrown, .ref mo_ascalar, .ref mo_acane, .ref mo_ais, .ref mo_astrandOf, .ref mo_aweight, .ref mo_aheight, .ref mo_achairOf, .ref mo_anoteMinute, .ref mo_anoteWho, .ref mo_anoteIs, .ref mo_atoldCane, .ref mo_anewScalar, .ref mo_anewCane, .ref mo_anewHeight, .ref mo_anewStrand, .ref mo_anewChair, .ref mo_anewWeight, .int mo_taped, .int w3, .int mo_fault, .int mo_slot, .int mo_rules, .int mo_entries, .int mo_deep, .int mo_counted, .int mo_opened, .int mo_words, .ref mo_atape, .ref mo_asort, .ref mo_anumber, .ref mo_aclauses, .ref mo_asumAt, .ref mo_atestAt, .ref mo_aendAt, .ref mo_aopen, .ref mo_aasked, .ref mo_astack, .ref mo_amust, .ref mo_apast, .ref mo_apastOf, .int mo_pastMany, .int mo_pastAt, .int mo_takesBack, .ref mo_acanRise, .ref mo_afirstHas, .ref mo_asecondHas, .ref mo_alay, .ref mo_ashows, .ref mo_aimages, .ref mo_aisMade, .int mo_imageAt, .int mo_goesBack])), (mo_anewScalar, hcI k 4 (sc4 mo_n0 mo_n1 mo_n2 mo_n3))]) H := hP
          have hD : va_D A ([(mo_anewCane, hcI k 4 mo_rnewCane), (mo_anewHeight, hcI k 8 mo_rnewHeight), (mo_anewStrand, hcI k 8 mo_rnewStrand), (mo_anewChair, hcI k 8 mo_rnewChair), (mo_anewWeight, hcI k 8 mo_rnewWeight), (mo_atape, hcY k 400 mo_rtape), (mo, .inr (7, [.int mo_thrown, .ref mo_ascalar, .ref mo_acane, .ref mo_ais, .ref mo_astrandOf, .ref mo_aweight, .ref mo_aheight, .ref mo_achairOf, .ref mo_anoteMinute, .ref mo_anoteWho, .ref mo_anoteIs, .ref mo_atoldCane, .ref mo_anewScalar, .ref mo_anewCane, .ref mo_anewHeight, .ref mo_anewStrand, .ref mo_anewChair, .ref mo_anewWeight, .int mo_taped, .int w3, .int mo_fault, .int mo_slot, .int mo_rules, .int mo_entries, .int mo_deep, .int mo_counted, .int mo_opened, .int mo_words, .ref mo_atape, .ref mo_asort, .ref mo_anumber, .ref mo_aclauses, .ref mo_asumAt, .ref mo_atestAt, .ref mo_aendAt, .ref mo_aopen, .ref mo_aasked, .ref mo_astack, .ref mo_amust, .ref mo_apast, .ref mo_apastOf, .int mo_pastMany, .int mo_pastAt, .int mo_takesBack, .ref mo_acanRise, .ref mo_afirstHas, .ref mo_asecondHas, .ref mo_alay, .ref mo_ashows, .ref mo_aimages, .ref mo_aisMade, .int mo_imageAt, .int mo_goesBack])), (mo_anewScalar, hcI k 4 (sc4 mo_n0 mo_n1 mo_n2 mo_n3))]) := hD
          obtain ⟨br50, rel51⟩ := hw
          have br50 : iv (0) (1) r50 := br50
          have br50_l := br50.1
          have br50_u := br50.2
          refine lv_if_eq (tgt := 61) hx hb dX9_hallClause_51 (by decide) (fun c52 => ?_) (fun c52 => ?_)
          · have fc52 := cx_eq_t (a := r50.toInt) (b := 0) rfl (by decide) c52
            refine lv_aload_n hx hb dX9_hallClause_61 rfl (lv_at hl 2 rfl) ?_
            refine lv_dup hx hb dX9_hallClause_62 rfl ?_
            refine va_get (D := D) (ci := 7) (v := .int w3) (C := RX9) (T := TX9) (N := 53) hx hb hts in9 hown hG.1 hP 6 rfl rfl 19 (by decide) (hts (.fieldLink RX9 164 "ChairCaneModel" "p" "I") (by decide +kernel)) (fun _ h9 => h9) rfl dX9_hallClause_63 ?_
            refine lv_iload_n hx hb dX9_hallClause_66 rfl (lv_at hl 0 rfl) ?_
            refine hc_SrE (As := [.int L3_5]) (rest := [.int w3, .ref mo]) (n := 1) (wr := [(mo_anewCane, hcI k 4 mo_rnewCane), (mo_anewHeight, hcI k 8 mo_rnewHeight), (mo_anewStrand, hcI k 8 mo_rnewStrand), (mo_anewChair, hcI k 8 mo_rnewChair), (mo_anewWeight, hcI k 8 mo_rnewWeight), (mo_atape, hcY k 400 mo_rtape), (mo, .inr (7, [.int mo_thrown, .ref mo_ascalar, .ref mo_acane, .ref mo_ais, .ref mo_astrandOf, .ref mo_aweight, .ref mo_aheight, .ref mo_achairOf, .ref mo_anoteMinute, .ref mo_anoteWho, .ref mo_anoteIs, .ref mo_atoldCane, .ref mo_anewScalar, .ref mo_anewCane, .ref mo_anewHeight, .ref mo_anewStrand, .ref mo_anewChair, .ref mo_anewWeight, .int mo_taped, .int w3, .int mo_fault, .int mo_slot, .int mo_rules, .int mo_entries, .int mo_deep, .int mo_counted, .int mo_opened, .int mo_words, .ref mo_atape, .ref mo_asort, .ref mo_anumber, .ref mo_aclauses, .ref mo_asumAt, .ref mo_atestAt, .ref mo_aendAt, .ref mo_aopen, .ref mo_aasked, .ref mo_astack, .ref mo_amust, .ref mo_apast, .ref mo_apastOf, .int mo_pastMany, .int mo_pastAt, .int mo_takesBack, .ref mo_acanRise, .ref mo_afirstHas, .ref mo_asecondHas, .ref mo_alay, .ref mo_ashows, .ref mo_aimages, .ref mo_aisMade, .int mo_imageAt, .int mo_goesBack])), (mo_anewScalar, hcI k 4 (sc4 mo_n0 mo_n1 mo_n2 mo_n3))]) (EY.ok ad tv) hE hx hb hml hown hts hG hA hP hD hS hl.1 [0, 1, 2, 3, 4, 5, 6, 7] (i_X9_hallWord l D k _ L3_5 ad tv) gX9_hallClause_X9_hallWord rfl ⟨rfl, rfl, Nat.le_of_ble_eq_true rfl, Nat.le_of_ble_eq_true rfl⟩ (by decide +kernel) rfl (by decide) ⟨rfl, rfl, Nat.le_of_ble_eq_true rfl, Nat.le_of_ble_eq_true rfl, Nat.le_of_ble_eq_true rfl⟩ dX9_hallClause_67 (fun H locs hP hD hS => ?_)
            have yb53 := yn_b (wdH L3_5) (wdH_lt _)
            refine hc_ViE (As := []) (rest := [.int w3, .ref mo]) (n := 0) (wr := [(mo_anewCane, hcI k 4 mo_rnewCane), (mo_anewHeight, hcI k 8 mo_rnewHeight), (mo_anewStrand, hcI k 8 mo_rnewStrand), (mo_anewChair, hcI k 8 mo_rnewChair), (mo_anewWeight, hcI k 8 mo_rnewWeight), (mo_atape, hcY k 400 mo_rtape), (mo, .inr (7, [.int mo_thrown, .ref mo_ascalar, .ref mo_acane, .ref mo_ais, .ref mo_astrandOf, .ref mo_aweight, .ref mo_aheight, .ref mo_achairOf, .ref mo_anoteMinute, .ref mo_anoteWho, .ref mo_anoteIs, .ref mo_atoldCane, .ref mo_anewScalar, .ref mo_anewCane, .ref mo_anewHeight, .ref mo_anewStrand, .ref mo_anewChair, .ref mo_anewWeight, .int mo_taped, .int w3, .int mo_fault, .int mo_slot, .int mo_rules, .int mo_entries, .int mo_deep, .int mo_counted, .int mo_opened, .int mo_words, .ref mo_atape, .ref mo_asort, .ref mo_anumber, .ref mo_aclauses, .ref mo_asumAt, .ref mo_atestAt, .ref mo_aendAt, .ref mo_aopen, .ref mo_aasked, .ref mo_astack, .ref mo_amust, .ref mo_apast, .ref mo_apastOf, .int mo_pastMany, .int mo_pastAt, .int mo_takesBack, .ref mo_acanRise, .ref mo_afirstHas, .ref mo_asecondHas, .ref mo_alay, .ref mo_ashows, .ref mo_aimages, .ref mo_aisMade, .int mo_imageAt, .int mo_goesBack])), (mo_anewScalar, hcI k 4 (sc4 mo_n0 mo_n1 mo_n2 mo_n3))]) (ES.ok (ad (wdH L3_5)) (tv (wdH L3_5)) (yn (wdH L3_5))) ⟨hE.1, hE.2.2.1 _ (wdH_lt _), hE.2.1⟩ hx hb hml hown hts hG hA hP hD hS hl.1 [] [0, 1, 2, 3, 4, 5, 6, 7] (c_length l D k _ (ad (wdH L3_5)) (tv (wdH L3_5)) (yn (wdH L3_5))) (va_Orecv ((show ES (ad (wdH L3_5)) (tv (wdH L3_5)) (yn (wdH L3_5)) A s from ⟨hE.1, hE.2.2.1 _ (wdH_lt _), hE.2.1⟩)).2.1.1 hS) gX9_hallClause_J0_length_8abf5 rfl ⟨rfl, rfl, Nat.le_of_ble_eq_true rfl, Nat.le_of_ble_eq_true rfl⟩ (by decide +kernel) rfl rfl ⟨by decide, by decide, by decide⟩ ⟨rfl, rfl, Nat.le_of_ble_eq_true rfl, Nat.le_of_ble_eq_true rfl, Nat.le_of_ble_eq_true rfl⟩ dX9_hallClause_70 (fun r54 u_ H locs hw hP hD hS => ?_)
            have hP : va_P D vwCl ([(mo_anewCane, hcI k 4 mo_rnewCane), (mo_anewHeight, hcI k 8 mo_rnewHeight), (mo_anewStrand, hcI k 8 mo_rnewStrand), (mo_anewChair, hcI k 8 mo_rnewChair), (mo_anewWeight, hcI k 8 mo_rnewWeight), (mo_atape, hcY k 400 mo_rtape), (mo, .inr (7, [.int mo_thrown, .ref mo_ascalar, .ref mo_acane, .ref mo_ais, .ref mo_astrandOf, .ref mo_aweight, .ref mo_aheight, .ref mo_achairOf, .ref mo_anoteMinute, .ref mo_anoteWho, .ref mo_anoteIs, .ref mo_atoldCane, .ref mo_anewScalar, .ref mo_anewCane, .ref mo_anewHeight, .ref mo_anewStrand, .ref mo_anewChair, .ref mo_anewWeight, .int mo_taped, .int w3, .int mo_fault, .int mo_slot, .int mo_rules, .int mo_entries, .int mo_deep, .int mo_counted, .int mo_opened, .int mo_words, .ref mo_atape, .ref mo_asort, .ref mo_anumber, .ref mo_aclauses, .ref mo_asumAt, .ref mo_atestAt, .ref mo_aendAt, .ref mo_aopen, .ref mo_aasked, .ref mo_astack, .ref mo_amust, .ref mo_apast, .ref mo_apastOf, .int mo_pastMany, .int mo_pastAt, .int mo_takesBack, .ref mo_acanRise, .ref mo_afirstHas, .ref mo_asecondHas, .ref mo_alay, .ref mo_ashows, .ref mo_aimages, .ref mo_aisMade, .int mo_imageAt, .int mo_goesBack])), (mo_anewScalar, hcI k 4 (sc4 mo_n0 mo_n1 mo_n2 mo_n3))]) H := hP
            have hD : va_D A ([(mo_anewCane, hcI k 4 mo_rnewCane), (mo_anewHeight, hcI k 8 mo_rnewHeight), (mo_anewStrand, hcI k 8 mo_rnewStrand), (mo_anewChair, hcI k 8 mo_rnewChair), (mo_anewWeight, hcI k 8 mo_rnewWeight), (mo_atape, hcY k 400 mo_rtape), (mo, .inr (7, [.int mo_thrown, .ref mo_ascalar, .ref mo_acane, .ref mo_ais, .ref mo_astrandOf, .ref mo_aweight, .ref mo_aheight, .ref mo_achairOf, .ref mo_anoteMinute, .ref mo_anoteWho, .ref mo_anoteIs, .ref mo_atoldCane, .ref mo_anewScalar, .ref mo_anewCane, .ref mo_anewHeight, .ref mo_anewStrand, .ref mo_anewChair, .ref mo_anewWeight, .int mo_taped, .int w3, .int mo_fault, .int mo_slot, .int mo_rules, .int mo_entries, .int mo_deep, .int mo_counted, .int mo_opened, .int mo_words, .ref mo_atape, .ref mo_asort, .ref mo_anumber, .ref mo_aclauses, .ref mo_asumAt, .ref mo_atestAt, .ref mo_aendAt, .ref mo_aopen, .ref mo_aasked, .ref mo_astack, .ref mo_amust, .ref mo_apast, .ref mo_apastOf, .int mo_pastMany, .int mo_pastAt, .int mo_takesBack, .ref mo_acanRise, .ref mo_afirstHas, .ref mo_asecondHas, .ref mo_alay, .ref mo_ashows, .ref mo_aimages, .ref mo_aisMade, .int mo_imageAt, .int mo_goesBack])), (mo_anewScalar, hcI k 4 (sc4 mo_n0 mo_n1 mo_n2 mo_n3))]) := hD
            have tr54 : r54.toInt = (yn (wdH L3_5)) := by rw [hw]; exact nI_toInt (by omega)
            refine lv_iadd hx hb dX9_hallClause_73 ?_
            refine lv_topi (fun z55 ez55 => ?_)
            have tz55 : z55.toInt = w3.toInt + r54.toInt := ai_add rfl rfl ez55 (by omega) (by omega)
            refine va_put (D := D) (ci := 7) (v := .int z55) (C := RX9) (T := TX9) (N := 53) hx hb hts in9 tyX9 tyX9_ok nmX9 hown hG.1 hP hD hS 6 rfl rfl 19 (by decide) (hts (.fieldLink RX9 164 "ChairCaneModel" "p" "I") (by decide +kernel)) (fun _ h9 => h9) rfl (tyX9_ok 19 (by decide)) rfl rfl (Nat.le_of_ble_eq_true rfl) dX9_hallClause_74 (fun H locs hP hD hS => ?_)
            have hP : va_P D vwCl ([(mo_anewCane, hcI k 4 mo_rnewCane), (mo_anewHeight, hcI k 8 mo_rnewHeight), (mo_anewStrand, hcI k 8 mo_rnewStrand), (mo_anewChair, hcI k 8 mo_rnewChair), (mo_anewWeight, hcI k 8 mo_rnewWeight), (mo_atape, hcY k 400 mo_rtape), (mo, .inr (7, [.int mo_thrown, .ref mo_ascalar, .ref mo_acane, .ref mo_ais, .ref mo_astrandOf, .ref mo_aweight, .ref mo_aheight, .ref mo_achairOf, .ref mo_anoteMinute, .ref mo_anoteWho, .ref mo_anoteIs, .ref mo_atoldCane, .ref mo_anewScalar, .ref mo_anewCane, .ref mo_anewHeight, .ref mo_anewStrand, .ref mo_anewChair, .ref mo_anewWeight, .int mo_taped, .int z55, .int mo_fault, .int mo_slot, .int mo_rules, .int mo_entries, .int mo_deep, .int mo_counted, .int mo_opened, .int mo_words, .ref mo_atape, .ref mo_asort, .ref mo_anumber, .ref mo_aclauses, .ref mo_asumAt, .ref mo_atestAt, .ref mo_aendAt, .ref mo_aopen, .ref mo_aasked, .ref mo_astack, .ref mo_amust, .ref mo_apast, .ref mo_apastOf, .int mo_pastMany, .int mo_pastAt, .int mo_takesBack, .ref mo_acanRise, .ref mo_afirstHas, .ref mo_asecondHas, .ref mo_alay, .ref mo_ashows, .ref mo_aimages, .ref mo_aisMade, .int mo_imageAt, .int mo_goesBack])), (mo_anewScalar, hcI k 4 (sc4 mo_n0 mo_n1 mo_n2 mo_n3))]) H := hP
            have hD : va_D A ([(mo_anewCane, hcI k 4 mo_rnewCane), (mo_anewHeight, hcI k 8 mo_rnewHeight), (mo_anewStrand, hcI k 8 mo_rnewStrand), (mo_anewChair, hcI k 8 mo_rnewChair), (mo_anewWeight, hcI k 8 mo_rnewWeight), (mo_atape, hcY k 400 mo_rtape), (mo, .inr (7, [.int mo_thrown, .ref mo_ascalar, .ref mo_acane, .ref mo_ais, .ref mo_astrandOf, .ref mo_aweight, .ref mo_aheight, .ref mo_achairOf, .ref mo_anoteMinute, .ref mo_anoteWho, .ref mo_anoteIs, .ref mo_atoldCane, .ref mo_anewScalar, .ref mo_anewCane, .ref mo_anewHeight, .ref mo_anewStrand, .ref mo_anewChair, .ref mo_anewWeight, .int mo_taped, .int z55, .int mo_fault, .int mo_slot, .int mo_rules, .int mo_entries, .int mo_deep, .int mo_counted, .int mo_opened, .int mo_words, .ref mo_atape, .ref mo_asort, .ref mo_anumber, .ref mo_aclauses, .ref mo_asumAt, .ref mo_atestAt, .ref mo_aendAt, .ref mo_aopen, .ref mo_aasked, .ref mo_astack, .ref mo_amust, .ref mo_apast, .ref mo_apastOf, .int mo_pastMany, .int mo_pastAt, .int mo_takesBack, .ref mo_acanRise, .ref mo_afirstHas, .ref mo_asecondHas, .ref mo_alay, .ref mo_ashows, .ref mo_aimages, .ref mo_aisMade, .int mo_imageAt, .int mo_goesBack])), (mo_anewScalar, hcI k 4 (sc4 mo_n0 mo_n1 mo_n2 mo_n3))]) := hD
            refine lv_aload_n hx hb dX9_hallClause_77 rfl (lv_at hl 2 rfl) ?_
            refine lv_iload_n hx hb dX9_hallClause_78 rfl (lv_at hl 0 rfl) ?_
            refine hc_Vv (As := [.int L3_5]) (rest := []) (n := 1) (wr := []) hx hb hml hown hts hG hA hP hD hS hl.1 [6, 0, 1, 2, 3, 4, 5, 7] [] (i_X9_hallPart l D k _ L3_5 mo mo_thrown mo_ascalar mo_acane mo_ais mo_astrandOf mo_aweight mo_aheight mo_achairOf mo_anoteMinute mo_anoteWho mo_anoteIs mo_atoldCane mo_anewScalar mo_anewCane mo_anewHeight mo_anewStrand mo_anewChair mo_anewWeight mo_taped z55 mo_fault mo_slot mo_rules mo_entries mo_deep mo_counted mo_opened mo_words mo_atape mo_asort mo_anumber mo_aclauses mo_asumAt mo_atestAt mo_aendAt mo_aopen mo_aasked mo_astack mo_amust mo_apast mo_apastOf mo_pastMany mo_pastAt mo_takesBack mo_acanRise mo_afirstHas mo_asecondHas mo_alay mo_ashows mo_aimages mo_aisMade mo_imageAt mo_goesBack mo_rnewCane mo_rnewHeight mo_rnewStrand mo_rnewChair mo_rnewWeight mo_rtape mo_n0 mo_n1 mo_n2 mo_n3 ⟨by omega, by omega⟩ ⟨by omega, by omega⟩ ⟨by omega, by omega⟩ ⟨by omega, by omega⟩ ⟨by omega, by omega⟩ ⟨by omega, by omega⟩ ⟨by omega, by omega⟩ ⟨by omega, by omega⟩ ⟨by omega, by omega⟩ ⟨by omega, by omega⟩ ⟨by omega, by omega⟩ ⟨by omega, by omega⟩ ⟨by omega, by omega⟩ ⟨by omega, by omega⟩ ⟨by omega, by omega⟩ h_mo_rnewChair h_mo_rnewWeight ⟨by omega, by omega⟩ ⟨by omega, by omega⟩ ⟨by omega, by omega⟩ ⟨by omega, by omega⟩ (by omega) (by omega) (by omega) (by omega) hh_NHall) (ci := 7) (q0 := 6) rfl rfl gX9_hallClause_X9_hallPart rfl ⟨rfl, rfl, Nat.le_of_ble_eq_true rfl, Nat.le_of_ble_eq_true rfl⟩ (by decide +kernel) rfl rfl ⟨by decide, by decide, by decide⟩ ⟨rfl, rfl, Nat.le_of_ble_eq_true rfl, Nat.le_of_ble_eq_true rfl, Nat.le_of_ble_eq_true rfl⟩ dX9_hallClause_79 (fun u56 H locs hw hP hD hS => ?_)
            obtain ⟨w58, w59, w60, w61, w62, w63, w64, w65, w66, w67, w68⟩ := u56
            have hP : va_P D vwCl ([(mo, .inr (7, [.int mo_thrown, .ref mo_ascalar, .ref mo_acane, .ref mo_ais, .ref mo_astrandOf, .ref mo_aweight, .ref mo_aheight, .ref mo_achairOf, .ref mo_anoteMinute, .ref mo_anoteWho, .ref mo_anoteIs, .ref mo_atoldCane, .ref mo_anewScalar, .ref mo_anewCane, .ref mo_anewHeight, .ref mo_anewStrand, .ref mo_anewChair, .ref mo_anewWeight, .int mo_taped, .int w59, .int w60, .int mo_slot, .int mo_rules, .int mo_entries, .int mo_deep, .int mo_counted, .int mo_opened, .int mo_words, .ref mo_atape, .ref mo_asort, .ref mo_anumber, .ref mo_aclauses, .ref mo_asumAt, .ref mo_atestAt, .ref mo_aendAt, .ref mo_aopen, .ref mo_aasked, .ref mo_astack, .ref mo_amust, .ref mo_apast, .ref mo_apastOf, .int mo_pastMany, .int mo_pastAt, .int mo_takesBack, .ref mo_acanRise, .ref mo_afirstHas, .ref mo_asecondHas, .ref mo_alay, .ref mo_ashows, .ref mo_aimages, .ref mo_aisMade, .int mo_imageAt, .int mo_goesBack])), (mo_anewCane, hcI k 4 w61), (mo_anewHeight, hcI k 8 w63), (mo_anewStrand, hcI k 8 w64), (mo_anewChair, hcI k 8 w66), (mo_anewWeight, hcI k 8 w67), (mo_atape, hcY k 400 mo_rtape), (mo_anewScalar, hcI k 4 (sc4 w58 w62 w65 w68))]) H := hP
            have hD : va_D A ([(mo, .inr (7, [.int mo_thrown, .ref mo_ascalar, .ref mo_acane, .ref mo_ais, .ref mo_astrandOf, .ref mo_aweight, .ref mo_aheight, .ref mo_achairOf, .ref mo_anoteMinute, .ref mo_anoteWho, .ref mo_anoteIs, .ref mo_atoldCane, .ref mo_anewScalar, .ref mo_anewCane, .ref mo_anewHeight, .ref mo_anewStrand, .ref mo_anewChair, .ref mo_anewWeight, .int mo_taped, .int w59, .int w60, .int mo_slot, .int mo_rules, .int mo_entries, .int mo_deep, .int mo_counted, .int mo_opened, .int mo_words, .ref mo_atape, .ref mo_asort, .ref mo_anumber, .ref mo_aclauses, .ref mo_asumAt, .ref mo_atestAt, .ref mo_aendAt, .ref mo_aopen, .ref mo_aasked, .ref mo_astack, .ref mo_amust, .ref mo_apast, .ref mo_apastOf, .int mo_pastMany, .int mo_pastAt, .int mo_takesBack, .ref mo_acanRise, .ref mo_afirstHas, .ref mo_asecondHas, .ref mo_alay, .ref mo_ashows, .ref mo_aimages, .ref mo_aisMade, .int mo_imageAt, .int mo_goesBack])), (mo_anewCane, hcI k 4 w61), (mo_anewHeight, hcI k 8 w63), (mo_anewStrand, hcI k 8 w64), (mo_anewChair, hcI k 8 w66), (mo_anewWeight, hcI k 8 w67), (mo_atape, hcY k 400 mo_rtape), (mo_anewScalar, hcI k 4 (sc4 w58 w62 w65 w68))]) := hD
            obtain ⟨bw58, bw59, bw60, bw62, bw65, h_w66, h_w67, bw68, rel69, hh70_NHall⟩ := hw
            have bw58 : iv (0) (1) w58 := bw58
            have bw58_l := bw58.1
            have bw58_u := bw58.2
            have bw59 : iv (0) (402) w59 := bw59
            have bw59_l := bw59.1
            have bw59_u := bw59.2
            have bw60 : iv (0) (4000) w60 := bw60
            have bw60_l := bw60.1
            have bw60_u := bw60.2
            have bw62 : iv (0) (4) w62 := bw62
            have bw62_l := bw62.1
            have bw62_u := bw62.2
            have bw65 : iv (0) (8) w65 := bw65
            have bw65_l := bw65.1
            have bw65_u := bw65.2
            have h_w66 : rowIn (0) (7) w66 := h_w66
            have h_w67 : rowIn (0) (20) w67 := h_w67
            have bw68 : iv (0) (8) w68 := bw68
            have bw68_l := bw68.1
            have bw68_u := bw68.2
            try dsimp only at rel69
            have hh70_NHall : NHall w60 w65 w68 w64 w66 w67 := hh70_NHall
            exact hc_endV hx hb hr hlocks (w59, w60, w61, w63, w64, w66, w67, w58, w62, w65, w68) ⟨(show iv (0) (402) w59 from ⟨by omega, by omega⟩), (show iv (0) (4000) w60 from ⟨by omega, by omega⟩), h_w66, h_w67, (show iv (0) (1) w58 from ⟨by omega, by omega⟩), (show iv (0) (4) w62 from ⟨by omega, by omega⟩), (show iv (0) (8) w65 from ⟨by omega, by omega⟩), (show iv (0) (8) w68 from ⟨by omega, by omega⟩), (by (try dsimp only); omega), hh70_NHall⟩ hP hD hS dX9_hallClause_82
          · have fc52 := cx_eq_f (a := r50.toInt) (b := 0) rfl (by decide) c52
            refine lv_aload_n hx hb dX9_hallClause_54 rfl (lv_at hl 2 rfl) ?_
            refine lv_iconst (v := 4) hx hb dX9_hallClause_55 (by decide) ?_
            refine lv_iload_n hx hb dX9_hallClause_56 rfl (lv_at hl 1 rfl) ?_
            have ql71 : (4 : Int32).toInt = 4 := by decide
            refine hc_Vv (As := [.int 4, .int w3]) (rest := []) (n := 2) (wr := [(mo_anewCane, hcI k 4 mo_rnewCane), (mo_anewHeight, hcI k 8 mo_rnewHeight), (mo_anewStrand, hcI k 8 mo_rnewStrand), (mo_anewChair, hcI k 8 mo_rnewChair), (mo_anewWeight, hcI k 8 mo_rnewWeight), (mo_atape, hcY k 400 mo_rtape), (mo_anewScalar, hcI k 4 (sc4 mo_n0 mo_n1 mo_n2 mo_n3))]) hx hb hml hown hts hG hA hP hD hS hl.1 [6] [0, 1, 2, 3, 4, 5, 7] (i_X9_fails l D k _ 4 w3 mo mo_thrown mo_ascalar mo_acane mo_ais mo_astrandOf mo_aweight mo_aheight mo_achairOf mo_anoteMinute mo_anoteWho mo_anoteIs mo_atoldCane mo_anewScalar mo_anewCane mo_anewHeight mo_anewStrand mo_anewChair mo_anewWeight mo_taped w3 mo_fault mo_slot mo_rules mo_entries mo_deep mo_counted mo_opened mo_words mo_atape mo_asort mo_anumber mo_aclauses mo_asumAt mo_atestAt mo_aendAt mo_aopen mo_aasked mo_astack mo_amust mo_apast mo_apastOf mo_pastMany mo_pastAt mo_takesBack mo_acanRise mo_afirstHas mo_asecondHas mo_alay mo_ashows mo_aimages mo_aisMade mo_imageAt mo_goesBack (iv_lit (by decide) (by decide)) ⟨by omega, by omega⟩ ⟨by omega, by omega⟩ ⟨by omega, by omega⟩ ⟨by omega, by omega⟩ ⟨by omega, by omega⟩ ⟨by omega, by omega⟩ ⟨by omega, by omega⟩ ⟨by omega, by omega⟩ ⟨by omega, by omega⟩ ⟨by omega, by omega⟩ ⟨by omega, by omega⟩ ⟨by omega, by omega⟩ ⟨by omega, by omega⟩ ⟨by omega, by omega⟩ ⟨by omega, by omega⟩) (ci := 7) (q0 := 6) rfl rfl gX9_hallClause_X9_fails rfl ⟨rfl, rfl, Nat.le_of_ble_eq_true rfl, Nat.le_of_ble_eq_true rfl⟩ (by decide +kernel) rfl rfl ⟨by decide, by decide, by decide⟩ ⟨rfl, rfl, Nat.le_of_ble_eq_true rfl, Nat.le_of_ble_eq_true rfl, Nat.le_of_ble_eq_true rfl⟩ dX9_hallClause_57 (fun u72 H locs hw hP hD hS => ?_)
            obtain ⟨w74, rfl⟩ : ∃ z, z = u72 := ⟨_, rfl⟩
            have hP : va_P D vwCl ([(mo_anewCane, hcI k 4 mo_rnewCane), (mo_anewHeight, hcI k 8 mo_rnewHeight), (mo_anewStrand, hcI k 8 mo_rnewStrand), (mo_anewChair, hcI k 8 mo_rnewChair), (mo_anewWeight, hcI k 8 mo_rnewWeight), (mo_atape, hcY k 400 mo_rtape), (mo_anewScalar, hcI k 4 (sc4 mo_n0 mo_n1 mo_n2 mo_n3)), (mo, .inr (7, [.int mo_thrown, .ref mo_ascalar, .ref mo_acane, .ref mo_ais, .ref mo_astrandOf, .ref mo_aweight, .ref mo_aheight, .ref mo_achairOf, .ref mo_anoteMinute, .ref mo_anoteWho, .ref mo_anoteIs, .ref mo_atoldCane, .ref mo_anewScalar, .ref mo_anewCane, .ref mo_anewHeight, .ref mo_anewStrand, .ref mo_anewChair, .ref mo_anewWeight, .int mo_taped, .int w3, .int w74, .int mo_slot, .int mo_rules, .int mo_entries, .int mo_deep, .int mo_counted, .int mo_opened, .int mo_words, .ref mo_atape, .ref mo_asort, .ref mo_anumber, .ref mo_aclauses, .ref mo_asumAt, .ref mo_atestAt, .ref mo_aendAt, .ref mo_aopen, .ref mo_aasked, .ref mo_astack, .ref mo_amust, .ref mo_apast, .ref mo_apastOf, .int mo_pastMany, .int mo_pastAt, .int mo_takesBack, .ref mo_acanRise, .ref mo_afirstHas, .ref mo_asecondHas, .ref mo_alay, .ref mo_ashows, .ref mo_aimages, .ref mo_aisMade, .int mo_imageAt, .int mo_goesBack]))]) H := hP
            have hD : va_D A ([(mo_anewCane, hcI k 4 mo_rnewCane), (mo_anewHeight, hcI k 8 mo_rnewHeight), (mo_anewStrand, hcI k 8 mo_rnewStrand), (mo_anewChair, hcI k 8 mo_rnewChair), (mo_anewWeight, hcI k 8 mo_rnewWeight), (mo_atape, hcY k 400 mo_rtape), (mo_anewScalar, hcI k 4 (sc4 mo_n0 mo_n1 mo_n2 mo_n3)), (mo, .inr (7, [.int mo_thrown, .ref mo_ascalar, .ref mo_acane, .ref mo_ais, .ref mo_astrandOf, .ref mo_aweight, .ref mo_aheight, .ref mo_achairOf, .ref mo_anoteMinute, .ref mo_anoteWho, .ref mo_anoteIs, .ref mo_atoldCane, .ref mo_anewScalar, .ref mo_anewCane, .ref mo_anewHeight, .ref mo_anewStrand, .ref mo_anewChair, .ref mo_anewWeight, .int mo_taped, .int w3, .int w74, .int mo_slot, .int mo_rules, .int mo_entries, .int mo_deep, .int mo_counted, .int mo_opened, .int mo_words, .ref mo_atape, .ref mo_asort, .ref mo_anumber, .ref mo_aclauses, .ref mo_asumAt, .ref mo_atestAt, .ref mo_aendAt, .ref mo_aopen, .ref mo_aasked, .ref mo_astack, .ref mo_amust, .ref mo_apast, .ref mo_apastOf, .int mo_pastMany, .int mo_pastAt, .int mo_takesBack, .ref mo_acanRise, .ref mo_afirstHas, .ref mo_asecondHas, .ref mo_alay, .ref mo_ashows, .ref mo_aimages, .ref mo_aisMade, .int mo_imageAt, .int mo_goesBack]))]) := hD
            have ql76 : (4 : Int32).toInt = 4 := by decide
            obtain ⟨bw74, rel75⟩ := hw
            have bw74 : iv (0) (4000) w74 := bw74
            have bw74_l := bw74.1
            have bw74_u := bw74.2
            try dsimp only at rel75
            have hh77 : NHall w74 mo_n2 mo_n3 mo_rnewStrand mo_rnewChair mo_rnewWeight := NHall.F hh_NHall (by omega)
            exact hc_endV hx hb hr hlocks (w3, w74, mo_rnewCane, mo_rnewHeight, mo_rnewStrand, mo_rnewChair, mo_rnewWeight, mo_n0, mo_n1, mo_n2, mo_n3) ⟨(show iv (0) (402) w3 from ⟨by omega, by omega⟩), (show iv (0) (4000) w74 from ⟨by omega, by omega⟩), h_mo_rnewChair, h_mo_rnewWeight, (show iv (0) (1) mo_n0 from ⟨by omega, by omega⟩), (show iv (0) (4) mo_n1 from ⟨by omega, by omega⟩), (show iv (0) (8) mo_n2 from ⟨by omega, by omega⟩), (show iv (0) (8) mo_n3 from ⟨by omega, by omega⟩), (by (try dsimp only); omega), hh77⟩ (hP.sub [7, 0, 1, 2, 3, 4, 5, 6] rfl) (hD.sub [7, 0, 1, 2, 3, 4, 5, 6] (by decide) rfl) hS dX9_hallClause_60
        · have fc48 := cx_ne_f (a := r46.toInt) (b := 0) rfl (by decide) c48
          obtain ⟨z78, ez78⟩ : ∃ z : Int32, z = L3_5 + 1 := ⟨_, rfl⟩
          have tz78 : z78.toInt = L3_5.toInt + (1) := ai_add rfl (by decide) ez78 (by omega) (by omega)
          refine lv_iinc (v := z78) (lv' := [(3, .int z78), (2, .int w3), (0, .ref mo), (1, .int x1)]) hx hb dX9_hallClause_27 hl (k := 0) rfl (by rw [ez78]; rfl) (by decide) rfl (fun ls hl => ?_)
          refine lv_goto (tgt := 11) hx hb dX9_hallClause_30 (by decide) ?_
          exact ih5 z78 ⟨by omega, by omega⟩ (by omega) _ _ _ hP hD hS (lv_sub hl [0, 1, 2, 3] rfl)
  exact loop5 100 0 (iv_lit (by decide) (by decide)) (by have q0 : (0 : Int32).toInt = 0 := (by decide); omega) _ _ _ hP hD hS hl
