/-! a rule, pure: both readers, clause by clause -/
noncomputable def ycl (y : OB) (c : Int32) (sf su te : Nat → Int32) : OB := (uF y.1 6 c, uF (uF (uF y.2.1 1 sf) 2 su) 3 te, y.2.2)
noncomputable def mcl (m : OB) (sa ta ea : Nat → Int32) : OB := (m.1, uF (uF (uF m.2.1 32 sa) 33 ta) 34 ea, m.2.2)
theorem tpa_id {x : OB} {t f : Int32} (h6 : x.1 6 = t) (h7 : x.1 7 = f) : tpa x t f = x := by
  unfold tpa
  rw [← h6, ← h7, uF_id, uF_id]
section RU1
variable {F : Nat} {m y : OB} {L s : Nat} {p f e d c o : Int32} {so nu op sa ta ea sf su te st : Nat → Int32}
theorem RB.cl (h : RB m L s) : RB (mcl m sa ta ea) L s := h
theorem s_clear {ru : OB} : f_X4_clear F ru = some (rus (ycl ru (nI 0) (ru.2.1 1) (ru.2.1 2) (ru.2.1 3)) (nI 0) (nI 0) (ru.2.1 0)) := by
  unfold f_X4_clear rus ycl
  try dsimp only
  rw [uF_id (f := ru.2.1) (i := 1), uF_id (f := ru.2.1) (i := 2), uF_id (f := ru.2.1) (i := 3), uF_id (f := ru.2.1) (i := 0), nI_0, uF_cm (f := ru.1) (i := 5) (j := 6) (by decide)]
theorem s_close {c len : Nat} {a b u : Int32} (hc : c < 12) : f_X4_closeClause F a b (rus (ycl y (nI c) sf su te) (nI len) u st) = some (rus (ycl y (nI (c + 1)) (upd sf c a) (upd su c b) (upd te c (nI len))) (nI len) u st) := by
  unfold f_X4_closeClause b_X4_closeClause_52
  rw [show (rus (ycl y (nI c) sf su te) (nI len) u st).1 6 = nI c from rfl, if_neg (show ¬ (12 : Int32) ≤ nI c from by
    rw [sp_le, nI_toInt (by omega), show (12 : Int32).toInt = 12 from by decide]
    omega), if_pos (ib_n hc (by decide)), nI_clamp (by omega), nI_1, show (rus (ycl y (nI c) sf su te) (nI len) u st).2.1 1 = sf from rfl, show (rus (ycl y (nI c) sf su te) (nI len) u st).2.1 2 = su from rfl, show (rus (ycl y (nI c) sf su te) (nI len) u st).2.1 3 = te from rfl, show (rus (ycl y (nI c) sf su te) (nI len) u st).1 5 = nI len from rfl]
  unfold rus ycl
  try dsimp only
  rw [uF_cm (i := 7) (j := 6) (by decide), uF_cm (i := 5) (j := 6) (by decide), uF_uF]
  rw [uF_cm (i := 0) (j := 1) (by decide), uF_cm (i := 3) (j := 1) (by decide), uF_cm (i := 2) (j := 1) (by decide), uF_uF]
  rw [uF_cm (i := 0) (j := 2) (by decide), uF_cm (i := 3) (j := 2) (by decide), uF_uF]
  rw [uF_cm (i := 0) (j := 3) (by decide), uF_uF]
theorem ps_32 {v : Int32} {r : Nat → Int32} : ((uF (ps (mcl m sa ta ea) p f e d c o so nu op).1 19 v, uF (ps (mcl m sa ta ea) p f e d c o so nu op).2.1 32 r, (ps (mcl m sa ta ea) p f e d c o so nu op).2.2) : OB) = ps (mcl m r ta ea) v f e d c o so nu op := by
  rw [show ps (mcl m r ta ea) v f e d c o so nu op = (uF (ps (mcl m r ta ea) p f e d c o so nu op).1 19 v, (ps (mcl m r ta ea) p f e d c o so nu op).2.1, (ps (mcl m r ta ea) p f e d c o so nu op).2.2) from ps_p.symm]
  unfold ps mcl
  try dsimp only
  rw [uF_cm (i := 35) (j := 32) (by decide), uF_cm (i := 30) (j := 32) (by decide), uF_cm (i := 29) (j := 32) (by decide), uF_cm (i := 34) (j := 32) (by decide), uF_cm (i := 33) (j := 32) (by decide), uF_uF]
theorem ps_33 {r : Nat → Int32} : (((ps (mcl m sa ta ea) p f e d c o so nu op).1, uF (ps (mcl m sa ta ea) p f e d c o so nu op).2.1 33 r, (ps (mcl m sa ta ea) p f e d c o so nu op).2.2) : OB) = ps (mcl m sa r ea) p f e d c o so nu op := by
  unfold ps mcl
  try dsimp only
  rw [uF_cm (i := 35) (j := 33) (by decide), uF_cm (i := 30) (j := 33) (by decide), uF_cm (i := 29) (j := 33) (by decide), uF_cm (i := 34) (j := 33) (by decide), uF_uF]
theorem ps_34 {r : Nat → Int32} : (((ps (mcl m sa ta ea) p f e d c o so nu op).1, uF (ps (mcl m sa ta ea) p f e d c o so nu op).2.1 34 r, (ps (mcl m sa ta ea) p f e d c o so nu op).2.2) : OB) = ps (mcl m sa ta r) p f e d c o so nu op := by
  unfold ps mcl
  try dsimp only
  rw [uF_cm (i := 35) (j := 34) (by decide), uF_cm (i := 30) (j := 34) (by decide), uF_cm (i := 29) (j := 34) (by decide), uF_uF]
theorem lp_off {g : Nat} {w : Int32} {mo : OB} : lp (b_X9_test_9 F) (g + 1) (w, 0, mo) = some mo := by
  rw [lp_S, b_X9_test_9]
  unfold b_X9_test_201
  try dsimp only
  rw [if_pos rfl]
end RU1
section RU2
variable {F : Nat} {m x y : OB} {L s n : Nat}
/-- a whole test -/
theorem test_all {i t p u len : Nat} {o : Int32} {st so nu op : Nat → Int32} (hr : RB m L s) (hF : 1000 ≤ F) (hx : TX (m.2.1 28) L x n) (ha : At L x n t i) (hp : p ≤ L) (hk : sk (m.2.1 28) L p = i) (hu : u ≤ 60) (hc : CE s len st so nu) (hb : 3 * len ≤ 14 * u + 3) :
    (∃ (φ p2 : Nat) (e2 d2 c2 o2 t2 : Int32) (so2 nu2 op2 : Nat → Int32) (ru2 : OB), 0 < φ ∧ φ < 4000 ∧ p2 ≤ L + 1 ∧ FrS s so so2 ∧ FrS s nu nu2 ∧ f_X5_readTest F 0 (tpa x (nI t) 0) (rus y (nI len) (nI u) st) = some (0, tpa x t2 (nI φ), ru2) ∧ f_X9_test F (ps m (nI p) 0 (nI len) (nI 0) (nI u) o so nu op) = some (ps m (nI p2) (nI φ) e2 d2 c2 o2 so2 nu2 op2))
    ∨ (∃ (i2 t2 u2 len2 : Nat) (st2 so2 nu2 op2 : Nat → Int32), At L x n t2 i2 ∧ i < i2 ∧ u < u2 ∧ u2 ≤ 60 ∧ 3 * len2 ≤ 14 * u2 ∧ len < len2 ∧ CE s len2 st2 so2 nu2 ∧ FrS s so so2 ∧ FrS s nu nu2 ∧ (∀ j, j < len → st2 j = st j) ∧ Seg false st2 len len2 1 ∧ f_X5_readTest F 0 (tpa x (nI t) 0) (rus y (nI len) (nI u) st) = some (1, tpa x (nI t2) 0, rus y (nI len2) (nI u2) st2) ∧ f_X9_test F (ps m (nI p) 0 (nI len) (nI 0) (nI u) o so nu op) = some (ps m (nI i2) 0 (nI len2) (nI 0) (nI u2) (nI 0) so2 nu2 op2)) := by
  have h4 := hr.2.1
  have hi := ha.2.1
  have hf : FactP F m x y L s n 11 0 := fact_sim hr hF hx 10 0 rfl
  have hS0 : Stk op 0 false false := ⟨Or.inl rfl, (fun h => by cases h), (fun h => by cases h)⟩
  have cT : f_X5_readTest F 0 (tpa x (nI t) 0) (rus y (nI len) (nI u) st) = lp (b_X5_readTest_o_8 F (f_RF 11)) F (nI 0, bi false, bi false, nI 0, tpa x (nI t) 0, rus y (nI len) (nI u) st) := rfl
  have rT : f_X9_test F (ps m (nI p) 0 (nI len) (nI 0) (nI u) o so nu op) = lp (b_X9_test_9 F) F (1, 1, ps m (nI p) 0 (nI len) (nI 0) (nI u) (nI 0) so nu op) := by
    unfold f_X9_test
    rw [ps_o]
    rfl
  rw [cT, rT]
  rcases test_sim hr hF hx hf (by omega) len (L - i + 1) i t p u len 0 0 0 F false false st so nu op (by omega) ha hp hk hu hc (by show 3 * (len + 0 + 0 + 0) ≤ _; omega) (by omega) hS0 (by omega) (by omega) Seg.z with hq | hq
  · obtain ⟨φ, p2, k, e2, d2, c2, o2, t2, so2, nu2, op2, ru2, a1, a2, a3, a4, a5, a6, a7, a8⟩ := hq
    refine Or.inl ⟨φ, p2, e2, d2, c2, o2, t2, so2, nu2, op2, ru2, a1, a2, a3, a4, a5, a7, ?_⟩
    have z := a8 (F - k)
    rw [show F - k + k = F from by omega] at z
    exact z
  · obtain ⟨i2, t2, p2, u2, len2, k, st2, so2, nu2, op2, a1, a2, a3, a4, a5, a6, a7, a8, a9, a10, a11, a12, a13, a14, a15, a16, a17, a18⟩ := hq
    have hi2 := a1.2.1
    refine Or.inr ⟨i2, t2, u2, len2, st2, so2, nu2, op2, a1, a2, a5, a6, by omega, a8, a9, a10, a11, a12, a13, a17, ?_⟩
    have z := a18 (F - k - 1)
    rw [show F - k - 1 + 1 + k = F from by omega] at z
    refine z.trans ?_
    have hS2 : Stk op2 0 false false := ⟨Or.inl rfl, (fun h => by cases h), (fun h => by cases h)⟩
    have w := nw_st (F := F) (g := F - k - 1) (p := p2) (len := len2) (dp := 0) (ol := 0) (c := nI u2) (e := false) (b := false) (so := so2) (nu := nu2) (op := op2) hr (by omega) a3 (by omega) (by omega) hS2
    rw [a4, if_neg a16.1, if_neg a16.2, if_pos rfl] at w
    rw [lt_n, ans_no (ol := 0) (by decide) (by omega) (by omega) (Or.inl rfl), bd_some]
    refine w.trans ?_
    rw [show F - k - 1 = (F - k - 2) + 1 from by omega]
    exact lp_off
end RU2
