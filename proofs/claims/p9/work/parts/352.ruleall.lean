/-! a rule, pure: the whole of both readers -/
noncomputable def mru (mo : OB) (s : Nat) : OB := (uF mo.1 21 (nI s), mo.2.1, mo.2.2)
theorem rule_all {F : Nat} {tp ru mo : OB} {L s : Nat} (hF : 1000 ≤ F) (h1 : tp.1 1 = nI L) (h18 : mo.1 18 = nI L) (h4 : L ≤ 400) (hby : ∀ i, -128 ≤ (mo.2.1 28 i).toInt ∧ (mo.2.1 28 i).toInt ≤ 127) (h22 : mo.1 22 = nI s) (hs : s < 6) (h27 : mo.1 27 = 11) (hB : tp.2.1 0 = mo.2.1 28) : ∃ (n : Nat) (K P V : Nat → Int32), BadR (mru mo s) (tcs tp n K P V) s (mo.2.1 29) (mo.2.1 30) (mo.2.1 32) (mo.2.1 33) (mo.2.1 34) (f_X5_read F tp ru) (f_X9_rule F mo) ∨ GoodR (mru mo s) (tcs tp n K P V) ru s (mo.2.1 29) (mo.2.1 30) (mo.2.1 32) (mo.2.1 33) (mo.2.1 34) (f_X5_read F tp ru) (f_X9_rule F mo) := by
  obtain ⟨n, K, P, V, e1, hn, hT⟩ := s_cutUp (F := F) (tp := tp) (by omega) h1 h4
  rw [hB] at hT
  have hr : RB (mru mo s) L s := ⟨h18, h4, hby, rfl, hs, h27⟩
  have hx : TX ((mru mo s).2.1 28) L (tcs tp n K P V) n := ⟨h1, rfl, h4, by omega, hT⟩
  have ha : At L (tcs tp n K P V) n 0 (sk ((mru mo s).2.1 28) L 0) := ⟨hT.1, sk_le (Nat.zero_le _), hT.2.1⟩
  have cR : f_X5_read F tp ru = lp (b_X5_read_10 F) F (nI 0, tpa (tcs tp n K P V) (nI 0) 0, rus (ycl ru (nI 0) (ru.2.1 1) (ru.2.1 2) (ru.2.1 3)) (nI 0) (nI 0) (ru.2.1 0)) := by
    unfold f_X5_read
    rw [e1, bd_some, s_clear, bd_some, tpa_id (x := tcs tp n K P V) (t := nI 0) (f := 0) rfl rfl]
    rfl
  have hne : ¬ nI s = 6 := fun z => by
    have := congrArg Int32.toInt z
    rw [nI_toInt (by omega), show (6 : Int32).toInt = 6 from by decide] at this
    omega
  have rR : f_X9_rule F mo = lp (b_X9_rule_27 F) F (nI 0, 1, ps (mcl (mru mo s) (mo.2.1 32) (mo.2.1 33) (mo.2.1 34)) (nI 0) 0 (nI 0) (nI 0) (nI 0) (mo.1 26) (mo.2.1 29) (mo.2.1 30) (mo.2.1 35)) := by
    unfold f_X9_rule f_X9_starts
    rw [h22, if_neg hne, bd_some]
    unfold ps mcl mru
    try dsimp only
    rw [uF_id (f := mo.2.1) (i := 32), uF_id (f := mo.2.1) (i := 33), uF_id (f := mo.2.1) (i := 34), uF_id (f := mo.2.1) (i := 29), uF_id (f := mo.2.1) (i := 30), uF_id (f := mo.2.1) (i := 35), show mo.1 26 = (uF (uF (uF (uF (uF (uF mo.1 21 (nI s)) 19 (nI 0)) 20 0) 23 (nI 0)) 24 (nI 0)) 25 (nI 0)) 26 from rfl, uF_id]
    rfl
  refine ⟨n, K, P, V, ?_⟩
  rw [cR, rR]
  exact rule_loop hr hF hx h22 13 0 _ 0 0 0 0 F F _ _ _ _ _ _ _ _ _ _ _ rfl (by omega) ha (Nat.zero_le _) rfl (by omega) (fun j hj => absurd hj (Nat.not_lt_zero _)) (by omega) (fun j hj => absurd hj (Nat.not_lt_zero _)) (by omega) (by omega)
