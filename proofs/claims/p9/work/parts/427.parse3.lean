/-! what a hall's text has told so far; a rule's -/
theorem pig : ∀ (n m : Nat) (f : Nat → Nat), (∀ j, j < m → f j < n) → (∀ i j, i < j → j < m → f i ≠ f j) → m ≤ n
  | 0, m, f, h, _ => by
    cases m with
    | zero => exact Nat.le_refl _
    | succ m => exact absurd (h 0 (by omega)) (Nat.not_lt_zero _)
  | n + 1, m, f, h, hd => by
    by_cases hx : ∃ j, j < m ∧ f j = n
    · obtain ⟨j0, hj0, hf⟩ := hx
      have hm := pig n (m - 1) (fun j => if j < j0 then f j else f (j + 1)) (fun j hj => by
        have key : ∀ i, i < m → i ≠ j0 → f i < n := fun i hi hne => by
          have h1 := h i hi
          have h2 : f i ≠ f j0 := by
            rcases Nat.lt_or_gt_of_ne hne with q | q
            · exact hd i j0 q hj0
            · exact fun e => hd j0 i q hi e.symm
          omega
        by_cases q : j < j0
        · simp only [q, if_true]
          exact key j (by omega) (by omega)
        · simp only [q, if_false]
          exact key (j + 1) (by omega) (by omega)) (fun i j hij hj => by
        by_cases q : i < j0 <;> by_cases q2 : j < j0
        · simp only [q, q2, if_true]
          exact hd i j hij (by omega)
        · simp only [q, q2, if_true, if_false]
          exact hd i (j + 1) (by omega) (by omega)
        · omega
        · simp only [q, q2, if_false]
          exact hd (i + 1) (j + 1) (by omega) (by omega))
      omega
    · have := pig n m f (fun j hj => by
        have h1 := h j hj
        have h2 : f j ≠ n := fun e => hx ⟨j, hj, e⟩
        omega) hd
      omega
noncomputable def NHall (F n2 n3 : Int32) (st ch w : Nat → Int32) : Prop := F.toInt = 0 → (∀ c : Nat, (c : Int) < n2.toInt → iv 0 3 (st c)) ∧ ∀ q : Nat, (q : Int) < n3.toInt → (ch q).toInt < n2.toInt ∧ 1 ≤ (w q).toInt ∧ ∀ i, i < q → ch i ≠ ch q
theorem NHall.F {F F2 n2 n3 : Int32} {st ch w : Nat → Int32} (h : NHall F n2 n3 st ch w) (hF : F2.toInt = 0 → F.toInt = 0) : NHall F2 n2 n3 st ch w := fun q => h (hF q)
theorem NHall.no {F n2 n3 : Int32} {st ch w : Nat → Int32} (h : F.toInt ≠ 0) : NHall F n2 n3 st ch w := fun q => absurd q h
theorem NHall.nil {F : Int32} {st ch w : Nat → Int32} : NHall F 0 0 st ch w := fun _ => ⟨fun c hc => by rw [sp0] at hc; omega, fun q hq => by rw [sp0] at hq; omega⟩
theorem NHall.chair {F F2 n2 n2' n3 v : Int32} {st st2 ch w : Nat → Int32} (h : NHall F n2 n3 st ch w) (h0 : 0 ≤ n2.toInt) (hF : F2.toInt = 0 → F.toInt = 0 ∧ iv 0 3 v) (e : st2 = upd st (Int32.toNatClampNeg n2) v) (en : n2'.toInt = n2.toInt + 1) : NHall F2 n2' n3 st2 ch w := by
  intro hq
  obtain ⟨f0, fv⟩ := hF hq
  obtain ⟨h1, h2⟩ := h f0
  have ek := toNatClampNeg_toInt h0
  refine ⟨fun c hc => ?_, fun q hq => ⟨by have := (h2 q hq).1; omega, (h2 q hq).2⟩⟩
  by_cases hi : c = Int32.toNatClampNeg n2
  · rw [e, hi, pk_us]; exact fv
  · rw [e, pk_un hi]; exact h1 c (by omega)
theorem NHall.room {F n2 n3 c : Int32} {st ch w : Nat → Int32} (h : NHall F n2 n3 st ch w) (hF : F.toInt = 0) (hr : rowIn 0 7 ch) (h3 : 0 ≤ n3.toInt) (hc : 0 ≤ c.toInt ∧ c.toInt < n2.toInt) (hn : ∀ j : Nat, (j : Int) < n3.toInt → (ch j).toInt ≠ c.toInt) : n3.toInt < n2.toInt := by
  obtain ⟨_, h2⟩ := h hF
  have hp := pig n2.toInt.toNat (n3.toInt.toNat + 1) (fun j => if j < n3.toInt.toNat then (ch j).toInt.toNat else c.toInt.toNat) (fun j hj => by
    by_cases q : j < n3.toInt.toNat
    · simp only [q, if_true]
      have := (h2 j (by omega)).1
      have := (hr j).1
      omega
    · simp only [q, if_false]
      omega) (fun i j hij hj => by
    by_cases q2 : j < n3.toInt.toNat
    · have q : i < n3.toInt.toNat := by omega
      simp only [q, q2, if_true]
      have hne := (h2 j (by omega)).2.2 i hij
      have a1 := (hr i).1
      have a2 := (hr j).1
      intro e
      exact hne ((sp_eq _ _).mpr (by omega))
    · have q : i < n3.toInt.toNat := by omega
      simp only [q, q2, if_true, if_false]
      have hne := hn i (by omega)
      have a1 := (hr i).1
      omega)
  omega
theorem NHall.sit {F F2 n2 n3 n3' c v : Int32} {st ch ch2 w w2 : Nat → Int32} (h : NHall F n2 n3 st ch w) (hF : F.toInt = 0) (h3 : 0 ≤ n3.toInt) (hc : c.toInt < n2.toInt) (hv : 1 ≤ v.toInt) (hn : ∀ j : Nat, (j : Int) < n3.toInt → (ch j).toInt ≠ c.toInt) (e1 : ch2 = upd ch (Int32.toNatClampNeg n3) c) (e2 : w2 = upd w (Int32.toNatClampNeg n3) v) (en : n3'.toInt = n3.toInt + 1) : NHall F2 n2 n3' st ch2 w2 := by
  intro _
  obtain ⟨h1, h2⟩ := h hF
  have ek := toNatClampNeg_toInt h3
  refine ⟨h1, fun q hq => ?_⟩
  by_cases hi : q = Int32.toNatClampNeg n3
  · subst hi
    rw [e1, e2, pk_us, pk_us]
    refine ⟨hc, hv, fun i hlt => ?_⟩
    rw [pk_un (by omega)]
    intro e
    exact hn i (by omega) (by rw [e])
  · rw [e1, e2, pk_un hi, pk_un hi]
    have := h2 q (by omega)
    refine ⟨this.1, this.2.1, fun i hlt => ?_⟩
    rw [pk_un (by omega)]
    exact this.2.2 i hlt
theorem NHall.hall {F n2 n3 : Int32} {st ch w : Nat → Int32} (h : NHall F n2 n3 st ch w) (hF : F.toInt = 0) : HallOk n2 n3 st ch w := ⟨(h hF).1, fun q hq => ⟨((h hF).2 q hq).1, ((h hF).2 q hq).2.1⟩⟩
/-- a clause of a rule -/
noncomputable def ClF (so nu sa ta ea : Nat → Int32) (sl e : Int) (ix : Nat) : Prop := 0 ≤ (sa ix).toInt ∧ (sa ix).toInt ≤ (ta ix).toInt ∧ (ta ix).toInt ≤ (ea ix).toInt ∧ (ea ix).toInt ≤ e ∧ RunFrom so nu sl (sa ix).toInt (ta ix).toInt 0 ∧ RunFrom so nu sl (ta ix).toInt (ea ix).toInt 0
noncomputable def RcI (so nu so2 nu2 sa ta ea sa2 ta2 ea2 : Nat → Int32) (sl e e2 F : Int) (ix : Nat) : Prop := Lo so nu so2 nu2 (300 * sl + e) ∧ e ≤ e2 ∧ (∀ j, j ≠ ix → sa2 j = sa j ∧ ta2 j = ta j ∧ ea2 j = ea j) ∧ (F = 0 → ClF so2 nu2 sa2 ta2 ea2 sl e2 ix)
theorem RcI.no {so nu sa ta ea : Nat → Int32} {sl e F : Int} {ix : Nat} (h : F ≠ 0) : RcI so nu so nu sa ta ea sa ta ea sl e e F ix := ⟨Lo.rf, Int.le_refl _, fun _ _ => ⟨rfl, rfl, rfl⟩, fun q => absurd q h⟩
theorem Gr.run {so nu : Nat → Int32} {w k u : Int} {m : Nat} (h : Gr so nu (300 * w) k u m) : RunFrom so nu w k u 0 := ⟨m, by
  have := h 0
  rw [Nat.zero_add] at this
  exact this⟩
noncomputable def RI (so0 nu0 sa0 ta0 ea0 so nu sa ta ea : Nat → Int32) (sl e F n : Int) : Prop := 0 ≤ e ∧ Lo so0 nu0 so nu (300 * sl) ∧ (∀ j : Nat, (j : Int) < 12 * sl → sa j = sa0 j ∧ ta j = ta0 j ∧ ea j = ea0 j) ∧ (F = 0 → ∀ c : Nat, (c : Int) < n → ClF so nu sa ta ea sl e (12 * sl + c).toNat)
theorem RI.nil {so nu sa ta ea : Nat → Int32} {sl e F : Int} {n : Int32} (he : 0 ≤ e) (hn : n.toInt = 0) : RI so nu sa ta ea so nu sa ta ea sl e F n.toInt := ⟨he, Lo.rf, fun _ _ => ⟨rfl, rfl, rfl⟩, fun _ c hc => by omega⟩
theorem RunFrom.cg {so nu so2 nu2 : Nat → Int32} {w k u n : Int} (h : RunFrom so nu w k u n) (hl : Lo so nu so2 nu2 (300 * w + u)) (hk : 0 ≤ 300 * w + k) (hku : k ≤ u) : RunFrom so2 nu2 w k u n := by
  obtain ⟨h2, hr⟩ := h
  exact ⟨h2, run_cong _ _ _ _ (fun j q1 q2 => hl j (by omega)) hr⟩
theorem ClF.cg {so nu so2 nu2 sa ta ea sa2 ta2 ea2 : Nat → Int32} {sl e e2 : Int} {ix : Nat} (h : ClF so nu sa ta ea sl e ix) (hl : Lo so nu so2 nu2 (300 * sl + e)) (hs : 0 ≤ sl) (he : e ≤ e2) (hx : sa2 ix = sa ix ∧ ta2 ix = ta ix ∧ ea2 ix = ea ix) : ClF so2 nu2 sa2 ta2 ea2 sl e2 ix := by
  obtain ⟨q1, q2, q3, q4, q5, q6⟩ := h
  unfold ClF
  rw [hx.1, hx.2.1, hx.2.2]
  exact ⟨q1, q2, q3, by omega, q5.cg (hl.le (by omega)) (by omega) q2, q6.cg (hl.le (by omega)) (by omega) q3⟩
theorem RI.step {so0 nu0 sa0 ta0 ea0 so nu sa ta ea so2 nu2 sa2 ta2 ea2 : Nat → Int32} {sl e e2 F F2 F3 : Int} {n n2 : Int32} {ix : Nat} (h : RI so0 nu0 sa0 ta0 ea0 so nu sa ta ea sl e F n.toInt) (hc : RcI so nu so2 nu2 sa ta ea sa2 ta2 ea2 sl e e2 F2 ix) (hix : (ix : Int) = 12 * sl + n.toInt) (hs : 0 ≤ sl) (hn : 0 ≤ n.toInt) (hF : F3 = 0 → F2 = 0 ∧ F = 0) (en : n2.toInt = n.toInt + 1) : RI so0 nu0 sa0 ta0 ea0 so2 nu2 sa2 ta2 ea2 sl e2 F3 n2.toInt := by
  obtain ⟨h0, h1, h2, h3⟩ := h
  obtain ⟨c1, c2, c3, c4⟩ := hc
  refine ⟨by omega, h1.tr c1 (by omega), fun j hj => ?_, fun q c hc => ?_⟩
  · have a := h2 j hj
    have b := c3 j (by omega)
    exact ⟨b.1.trans a.1, b.2.1.trans a.2.1, b.2.2.trans a.2.2⟩
  · by_cases e9 : (c : Int) = n.toInt
    · have := c4 (hF q).1
      rw [show (12 * sl + (c : Int)).toNat = ix from by omega]
      exact this
    · exact (h3 (hF q).2 c (by omega)).cg c1 hs c2 (c3 _ (by omega))
theorem RI.fin {so0 nu0 sa0 ta0 ea0 so nu sa ta ea cl cl2 : Nat → Int32} {rl rl2 sl n : Int32} {e F : Int} (hR : RulesOk rl cl sa0 ta0 ea0 so0 nu0) (h : RI so0 nu0 sa0 ta0 ea0 so nu sa ta ea sl.toInt e F n.toInt) (hs : sl.toInt = rl.toInt) (h0 : 0 ≤ rl.toInt) (hI : ∀ r : Nat, (r : Int) < rl.toInt → ∀ c : Nat, (c : Int) < (cl r).toInt → (ta0 (12 * r + c)).toInt ≤ 300 ∧ (ea0 (12 * r + c)).toInt ≤ 300 ∧ 0 ≤ (sa0 (12 * r + c)).toInt ∧ 0 ≤ (ta0 (12 * r + c)).toInt) (e1 : cl2 = upd cl (Int32.toNatClampNeg sl) n) (hr : (F ≠ 0 ∧ rl2.toInt = rl.toInt) ∨ (F = 0 ∧ n.toInt ≤ 12 ∧ rl2.toInt = rl.toInt + 1)) : RulesOk rl2 cl2 sa ta ea so nu := by
  obtain ⟨q0, q1, q2, q3⟩ := h
  have ek := toNatClampNeg_toInt (x := sl) (by omega)
  have kq : ∀ {k u : Int} {r : Nat}, (r : Int) < rl.toInt → u ≤ 300 → 0 ≤ k → RunFrom so0 nu0 r k u 0 → RunFrom so nu r k u 0 := fun {k u r} hlt hu hk hrun => by
    by_cases hku : k ≤ u
    · exact hrun.cg (q1.le (by omega)) (by omega) hku
    · obtain ⟨h2, hr⟩ := hrun
      rw [show (u - k).toNat = 0 from by omega] at hr
      refine ⟨h2, ?_⟩
      rw [show (u - k).toNat = 0 from by omega]
      exact hr
  intro r hrl
  by_cases hq : r = Int32.toNatClampNeg sl
  · have hF : F = 0 ∧ n.toInt ≤ 12 := by
      rcases hr with g | g
      · omega
      · exact ⟨g.1, g.2.1⟩
    rw [e1, hq, pk_us]
    refine ⟨hF.2, fun c hc => ?_⟩
    have := q3 hF.1 c hc
    rw [show (12 * sl.toInt + (c : Int)).toNat = 12 * Int32.toNatClampNeg sl + c from by omega] at this
    obtain ⟨_, _, _, _, w5, w6⟩ := this
    rw [ek] at w5 w6
    exact ⟨w5, w6⟩
  · have hlt : (r : Int) < rl.toInt := by rcases hr with g | g <;> omega
    rw [e1, pk_un hq]
    obtain ⟨p1, p2⟩ := hR r hlt
    refine ⟨p1, fun c hc => ?_⟩
    obtain ⟨w1, w2⟩ := p2 c hc
    obtain ⟨i1, i2, i3, i4⟩ := hI r hlt c hc
    have hx := q2 (12 * r + c) (by omega)
    rw [hx.1, hx.2.1, hx.2.2]
    exact ⟨kq hlt i1 i3 w1, kq hlt i2 i4 w2⟩
