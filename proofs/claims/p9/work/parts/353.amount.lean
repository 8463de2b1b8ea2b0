/-! the hall, pure: an amount by both -/
theorem s_in32 {F : Nat} {x a b : Int32} : f_X9_in F x.toInt64 a.toInt64 b.toInt64 = some (if a.toInt ≤ x.toInt ∧ x.toInt ≤ b.toInt then 1 else 0) := by
  rw [s_in]
  simp only [Int32.toInt_toInt64]
section AMT
variable {F : Nat} {m x : OB} {L s n : Nat} {e d c o : Int32} {so nu op : Nat → Int32}
/-- a number between bounds by both -/
theorem amt {i t p lo : Nat} {b : Int32} (hr : RB m L s) (hF : 600 ≤ F) (hx : TX (m.2.1 28) L x n) (ha : At L x n t i) (hp : p ≤ L) (hk : sk (m.2.1 28) L p = i) (hlo : lo ≤ 100) :
    (∃ (φ p2 : Nat) (v : Int32), 0 < φ ∧ φ < 4000 ∧ p2 ≤ L ∧ f_X7_takeNumber F (nI lo) b (tpa x (nI t) 0) = some (-1, tpa x (nI t) (nI φ)) ∧ f_X9_amount F (nI lo) b (ps m (nI p) 0 e d c o so nu op) = some (v, ps m (nI p2) (nI φ) e d c o so nu op))
    ∨ (∃ (v p2 : Nat), lo ≤ v ∧ (nI v).toInt ≤ b.toInt ∧ v < 100000 ∧ i < p2 ∧ p2 ≤ L ∧ At L x n (t + 1) (sk (m.2.1 28) L p2) ∧ f_X7_takeNumber F (nI lo) b (tpa x (nI t) 0) = some (nI v, tpa x (nI (t + 1)) 0) ∧ f_X9_amount F (nI lo) b (ps m (nI p) 0 e d c o so nu op) = some (nI v, ps m (nI p2) 0 e d c o so nu op)) := by
  have h4 := hr.2.1
  have hi := ha.2.1
  have e0 : (1 : Int32) + 8 * nI i + 0 = nI (1 + 8 * i + 0) := flt (k := 0)
  have e1 : (1 : Int32) + 8 * nI i + 1 = nI (1 + 8 * i + 1) := flt (k := 1)
  have eR : f_X9_amount F (nI lo) b (ps m (nI p) 0 e d c o so nu op) = Option.bind (f_X9_digits F 99999 (ps m (nI i) 0 e d c o so nu op)) (fun q7 => (b_X9_amount_26 F (nI lo) b (nI i) q7.1 q7.2)) := by
    unfold f_X9_amount
    rw [s_blanks hr hF hp, bd_some, hk, show (ps m (nI i) 0 e d c o so nu op).1 20 = 0 from rfl, if_pos rfl]
    rfl
  have bad1 : f_X7_takeNumber F (nI lo) b (tpa x (nI t) 0) = b_X7_takeNumber_33 F (tpa x (nI t) 0) → f_X7_takeNumber F (nI lo) b (tpa x (nI t) 0) = some (-1, tpa x (nI t) (nI (1 + 8 * i + 1))) := fun q => by
    rw [q]
    unfold b_X7_takeNumber_33
    rw [s_fail hx ha, bd_some, e1]
  rw [eR]
  by_cases hd : dB (m.2.1 28) L i = true
  · have hK := lexK_d.mpr hd
    have hiL : i < L := by
      by_cases z : i < L
      · exact z
      · rw [dB_out i (by omega)] at hd
        cases hd
    have hnl : ¬ lB (m.2.1 28) L i = true := fun q => by
      have a := (isL_i _).mp (of_decide_eq_true q)
      have b := (isD_i _).mp (of_decide_eq_true hd)
      omega
    have hE : lexE (m.2.1 28) L i = re (dB (m.2.1 28) L) L i := by
      unfold lexE
      rw [if_neg hnl, if_pos hd]
    have hV : lexV (m.2.1 28) L i = if re (dB (m.2.1 28) L) L i - i ≤ 5 then dv (m.2.1 28) L i (re (dB (m.2.1 28) L) L i - i) else -1 := by
      unfold lexV
      rw [if_neg hnl, if_pos hd]
    have hgt := lexE_gt (B := m.2.1 28) hiL
    rw [hE] at hgt
    have hin := re_in (P := dB (m.2.1 28) L) (L := L) _ i rfl
    have hAt := (ha.at hx).2.2.2 hiL
    rw [hE] at hAt
    have cl : f_X7_takeNumber F (nI lo) b (tpa x (nI t) 0) = if lexV (m.2.1 28) L i < nI lo then b_X7_takeNumber_33 F (tpa x (nI t) 0) else if lexV (m.2.1 28) L i ≤ b then some (lexV (m.2.1 28) L i, tpa x (nI (t + 1)) 0) else b_X7_takeNumber_33 F (tpa x (nI t) 0) := by
      unfold f_X7_takeNumber
      rw [s_kind hx ha, bd_some, hK, if_pos rfl, s_value hx ha, bd_some, s_skip hx ha hiL, bd_some]
    rw [s_digits hr hF hiL hd, bd_some]
    try dsimp only
    unfold b_X9_amount_26 b_X9_amount_54
    by_cases h5 : re (dB (m.2.1 28) L) L i - i ≤ 5
    · obtain ⟨v, e5, hv⟩ := dv_b (B := m.2.1 28) (L := L) (i := i) (re (dB (m.2.1 28) L) L i - i) h5 (fun k hk => hin (i + k) (by omega) (by omega))
      have h9 : 10 ^ (re (dB (m.2.1 28) L) L i - i) ≤ 10 ^ 5 := Nat.pow_le_pow_right (by decide) h5
      have hv5 : v < 100000 := by omega
      rw [show min 5 (re (dB (m.2.1 28) L) L i - i) = re (dB (m.2.1 28) L) L i - i from by omega, e5, if_neg (show ¬ ((0 : Int32) = 0 ∧ 5 < re (dB (m.2.1 28) L) L i - i) from fun z => by omega), show (ps m (nI (re (dB (m.2.1 28) L) L i)) 0 e d c o so nu op).1 20 = 0 from rfl, if_pos rfl, s_in32, bd_some]
      rw [hV, if_pos h5, e5] at cl
      have tv : (nI v).toInt = v := nI_toInt (by omega)
      have tl : (nI lo).toInt = lo := nI_toInt (by omega)
      by_cases hb : (nI lo).toInt ≤ (nI v).toInt ∧ (nI v).toInt ≤ b.toInt
      · rw [if_neg (show ¬ nI v < nI lo from fun z => by
          rw [Int32.lt_iff_toInt_lt] at z
          omega), if_pos (show nI v ≤ b from Int32.le_iff_toInt_le.mpr hb.2)] at cl
        rw [if_pos hb, if_neg (show ¬ (1 : Int32) = 0 by decide)]
        exact Or.inr ⟨v, re (dB (m.2.1 28) L) L i, by omega, hb.2, hv5, hgt.1, hgt.2, hAt, cl, rfl⟩
      · rw [if_neg hb, if_pos rfl, s_fails, bd_some, if_pos rfl, e1]
        refine Or.inl ⟨1 + 8 * i + 1, re (dB (m.2.1 28) L) L i, nI v, by omega, by omega, hgt.2, bad1 ?_, rfl⟩
        by_cases h6 : nI v < nI lo
        · rw [if_pos h6] at cl
          exact cl
        · rw [if_neg h6, if_neg (show ¬ nI v ≤ b from fun z => hb ⟨by
            rw [Int32.lt_iff_toInt_lt] at h6
            omega, Int32.le_iff_toInt_le.mp z⟩)] at cl
          exact cl
    · rw [hV, if_neg h5, if_pos (show (-1 : Int32) < nI lo from by
        rw [Int32.lt_iff_toInt_lt, nI_toInt (by omega), show (-1 : Int32).toInt = -1 from by decide]
        omega)] at cl
      rw [if_pos (show (0 : Int32) = 0 ∧ 5 < re (dB (m.2.1 28) L) L i - i from ⟨rfl, by omega⟩), e1, show (ps m (nI (re (dB (m.2.1 28) L) L i)) (nI (1 + 8 * i + 1)) e d c o so nu op).1 20 = nI (1 + 8 * i + 1) from rfl, if_neg (nI_ne0 (by omega) (by omega))]
      exact Or.inl ⟨1 + 8 * i + 1, re (dB (m.2.1 28) L) L i, _, by omega, by omega, hgt.2, bad1 cl, rfl⟩
  · have hK : ¬ lexK (m.2.1 28) L i = 259 := fun z => hd (lexK_d.mp z)
    have hD : ¬ isD (cb (m.2.1 28) L i) := fun z => hd (decide_eq_true z)
    have cl : f_X7_takeNumber F (nI lo) b (tpa x (nI t) 0) = some (-1, tpa x (nI t) (nI (1 + 8 * i + 0))) := by
      unfold f_X7_takeNumber
      rw [s_kind hx ha, bd_some, if_neg hK, s_fail hx ha, bd_some, e0]
    have dg : f_X9_digits F 99999 (ps m (nI i) 0 e d c o so nu op) = some (0, ps m (nI i) (nI (1 + 8 * i + 0)) e d c o so nu op) := by
      unfold f_X9_digits
      rw [s_isDigit9 hr (by omega), bd_some, if_neg hD, if_pos rfl, s_fails, bd_some, if_pos rfl, show (ps m (nI i) 0 e d c o so nu op).1 19 = nI i from rfl, e0]
    rw [dg, bd_some]
    unfold b_X9_amount_26 b_X9_amount_54
    try dsimp only
    rw [show (ps m (nI i) (nI (1 + 8 * i + 0)) e d c o so nu op).1 20 = nI (1 + 8 * i + 0) from rfl, if_neg (nI_ne0 (by omega) (by omega))]
    exact Or.inl ⟨1 + 8 * i + 0, i, 0, by omega, by omega, hi, cl, rfl⟩
end AMT
