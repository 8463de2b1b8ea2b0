/-! the hall, pure: strands and chairs by both -/
section RMH
variable {y : OB} {t a b q : Nat} {tc he so co we r r2 : Nat → Int32}
theorem rmh_st : ((uF (rmh y t a b q tc he so co we).1 1 (nI (a + 1)), uF (rmh y t a b q tc he so co we).2.1 4 r, (rmh y t a b q tc he so co we).2.2) : OB) = rmh y t (a + 1) b q r he so co we := by
  unfold rmh
  try dsimp only
  rw [uF_cm (i := 3) (j := 1) (by decide), uF_cm (i := 2) (j := 1) (by decide), uF_uF, uF_cm (i := 8) (j := 4) (by decide), uF_cm (i := 7) (j := 4) (by decide), uF_cm (i := 6) (j := 4) (by decide), uF_cm (i := 5) (j := 4) (by decide), uF_uF]
theorem rmh_ch : ((uF (rmh y t a b q tc he so co we).1 2 (nI (b + 1)), uF (uF (rmh y t a b q tc he so co we).2.1 5 r) 6 r2, (rmh y t a b q tc he so co we).2.2) : OB) = rmh y t a (b + 1) q tc r r2 co we := by
  unfold rmh
  try dsimp only
  rw [uF_cm (i := 3) (j := 2) (by decide), uF_uF, uF_cm (i := 8) (j := 5) (by decide), uF_cm (i := 7) (j := 5) (by decide), uF_cm (i := 6) (j := 5) (by decide), uF_uF, uF_cm (i := 8) (j := 6) (by decide), uF_cm (i := 7) (j := 6) (by decide), uF_uF]
theorem rmh_si : ((uF (rmh y t a b q tc he so co we).1 3 (nI (q + 1)), uF (uF (rmh y t a b q tc he so co we).2.1 7 r) 8 r2, (rmh y t a b q tc he so co we).2.2) : OB) = rmh y t a b (q + 1) tc he so r r2 := by
  unfold rmh
  try dsimp only
  rw [uF_uF, uF_cm (i := 8) (j := 7) (by decide), uF_uF, uF_uF]
theorem rmh_to : ((uF (rmh y t a b q tc he so co we).1 0 1, (rmh y t a b q tc he so co we).2.1, (rmh y t a b q tc he so co we).2.2) : OB) = rmh y 1 a b q tc he so co we := by
  unfold rmh
  try dsimp only
  rw [uF_cm (i := 3) (j := 0) (by decide), uF_cm (i := 2) (j := 0) (by decide), uF_cm (i := 1) (j := 0) (by decide), uF_uF]
  rfl
end RMH
section HCL
variable {F : Nat} {m x y : OB} {L s n : Nat} {e d c o : Int32} {s1 n1 o1 : Nat → Int32}
theorem g_amount {p : Nat} {f lo b : Int32} (hr : RB m L s) (hF : 600 ≤ F) (hf : ¬ f = 0) (hp : p ≤ L) : f_X9_amount F lo b (ps m (nI p) f e d c o s1 n1 o1) = some (0, ps m (nI (sk (m.2.1 28) L p)) f e d c o s1 n1 o1) := by
  unfold f_X9_amount
  rw [s_blanks hr hF hp, bd_some, show (ps m (nI (sk (m.2.1 28) L p)) f e d c o s1 n1 o1).1 20 = f from rfl, if_neg hf]
  unfold b_X9_amount_26 b_X9_amount_54
  rw [show (ps m (nI (sk (m.2.1 28) L p)) f e d c o s1 n1 o1).1 20 = f from rfl, if_neg hf]
noncomputable def BadH (m x rm2 : OB) (L : Nat) (e d c o : Int32) (s1 n1 o1 : Nat → Int32) (rc : Option (Int32 × OB × OB)) (rr : Option OB) : Prop := ∃ (φ p2 : Nat) (t2 : Int32) (ns nc nh nt nr nw : Nat → Int32), 0 < φ ∧ φ < 4000 ∧ p2 ≤ L ∧ rc = some (0, tpa x t2 (nI φ), rm2) ∧ rr = some (ps (hm m ns nc nh nt nr nw) (nI p2) (nI φ) e d c o s1 n1 o1)
noncomputable def GoodH (m x y : OB) (L n i : Nat) (e d c o : Int32) (s1 n1 o1 : Nat → Int32) (rc : Option (Int32 × OB × OB)) (rr : Option OB) : Prop := ∃ (t2 i2 p2 a b q : Nat) (tc he so co we ns nc nh nt nr nw : Nat → Int32), At L x n t2 i2 ∧ i < i2 ∧ p2 ≤ L ∧ sk (m.2.1 28) L p2 = i2 ∧ HR 1 a b q tc he so co we ns nc nh nt nr nw ∧ rc = some (1, tpa x (nI t2) 0, rmh y 1 a b q tc he so co we) ∧ rr = some (ps (hm m ns nc nh nt nr nw) (nI p2) 0 e d c o s1 n1 o1)
variable {t i p a b q : Nat} {tc he so co we ns nc nh nt nr nw : Nat → Int32}
theorem st_part (hr : RB m L s) (hF : 600 ≤ F) (hx : TX (m.2.1 28) L x n) (ha : At L x n t i) (hp : p ≤ L) (hk : sk (m.2.1 28) L p = i) (hR : HR 1 a b q tc he so co we ns nc nh nt nr nw) (h4 : a < 4) : BadH m x (rmh y 1 a b q tc he so co we) L e d c o s1 n1 o1 (f_X1_readStrand F (tpa x (nI t) 0) (rmh y 1 a b q tc he so co we)) (f_X9_hallPart F 1 (ps (hm m ns nc nh nt nr nw) (nI p) 0 e d c o s1 n1 o1)) ∨ GoodH m x y L n i e d c o s1 n1 o1 (f_X1_readStrand F (tpa x (nI t) 0) (rmh y 1 a b q tc he so co we)) (f_X9_hallPart F 1 (ps (hm m ns nc nh nt nr nw) (nI p) 0 e d c o s1 n1 o1)) := by
  have hr2 : RB (hm m ns nc nh nt nr nw) L s := hr
  have hs1 := hR.1.2.1
  have rf : ∀ (v : Int32) (p2 f2 : Int32), f_X9_amount F 0 99 (ps (hm m ns nc nh nt nr nw) (nI p) 0 e d c o s1 n1 o1) = some (v, ps (hm m ns nc nh nt nr nw) p2 f2 e d c o s1 n1 o1) → f_X9_hallPart F 1 (ps (hm m ns nc nh nt nr nw) (nI p) 0 e d c o s1 n1 o1) = some (ps (hm m (upd ns 1 (nI (a + 1))) (upd nc a v) nh nt nr nw) p2 f2 e d c o s1 n1 o1) := by
    intro v p2 f2 hA
    unfold f_X9_hallPart b_X9_hallPart_125
    rw [if_neg (show ¬ (1 : Int32) = 0 by decide), if_pos rfl, hA, bd_some]
    dsimp only
    rw [show (ps (hm m ns nc nh nt nr nw) (nI p) 0 e d c o s1 n1 o1).2.1 12 = ns from rfl, show (ps (hm m ns nc nh nt nr nw) p2 f2 e d c o s1 n1 o1).2.1 12 = ns from rfl, show (ps (hm m ns nc nh nt nr nw) p2 f2 e d c o s1 n1 o1).2.1 13 = nc from rfl, show Int32.toNatClampNeg 1 = 1 from by decide, hs1, if_pos (ib_n (show a < 4 from h4) (by decide)), nI_1, nI_clamp (by omega), ps_1213]
  have cl : ∀ (v : Int32) (T : OB), f_X7_takeNumber F 0 99 (tpa x (nI t) 0) = some (v, T) → f_X1_readStrand F (tpa x (nI t) 0) (rmh y 1 a b q tc he so co we) = if v = -1 then some (0, T, rmh y 1 a b q tc he so co we) else some (1, T, rmh y 1 (a + 1) b q (upd tc a v) he so co we) := by
    intro v T hT
    unfold f_X1_readStrand b_X1_readStrand_21
    rw [hT, bd_some]
    dsimp only
    rw [show (rmh y 1 a b q tc he so co we).1 1 = nI a from rfl, show (rmh y 1 a b q tc he so co we).2.1 4 = tc from rfl, if_pos (show nI a < 4 from nI_lt (b := 4) h4 (by decide)), if_pos (ib_n (show a < 4 from h4) (by decide)), nI_1, nI_clamp (by omega), rmh_st]
  rcases amt (m := hm m ns nc nh nt nr nw) (lo := 0) (b := 99) (e := e) (d := d) (c := c) (o := o) (so := s1) (nu := n1) (op := o1) hr2 hF hx ha hp hk (by decide) with ⟨φ, p2, v, h1, h2, h3, h5, h6⟩ | ⟨v, p2, h1, h2, h3, h5, h6, h7, h8, h9⟩
  · refine Or.inl ⟨φ, p2, nI t, _, _, _, _, _, _, h1, h2, h3, ?_, rf v _ _ h6⟩
    rw [cl _ _ h5, if_pos rfl]
  · have hv : v ≤ 99 := by
      rw [nI_toInt (by omega), show (99 : Int32).toInt = 99 from by decide] at h2
      omega
    refine Or.inr ⟨t + 1, sk (m.2.1 28) L p2, p2, a + 1, b, q, _, _, _, _, _, _, _, _, _, _, _, h7, ?_, h6, rfl, hR.strand h4 hv, ?_, rf _ _ _ h9⟩
    · have := sk_ge (B := m.2.1 28) h6
      omega
    · rw [cl _ _ h8, if_neg (fun z => by
        have := congrArg Int32.toInt z
        rw [nI_toInt (by omega), show (-1 : Int32).toInt = -1 from by decide] at this
        omega)]
end HCL
