/-! reading, pure: the reference's own steps -/
theorem s_cmp (x y : Int64) : (lg_cmp x y < 0 ↔ x.toInt < y.toInt) ∧ (0 < lg_cmp x y ↔ y.toInt < x.toInt) := by
  unfold lg_cmp
  by_cases h1 : x > y
  · have h2 : y.toInt < x.toInt := Int64.lt_iff_toInt_lt.mp h1
    rw [if_pos h1]
    exact ⟨⟨fun h => absurd h (by decide), fun h => absurd h (by omega)⟩, ⟨fun _ => h2, fun _ => by decide⟩⟩
  · have h2 : ¬ y.toInt < x.toInt := fun q => h1 (Int64.lt_iff_toInt_lt.mpr q)
    rw [if_neg h1]
    by_cases h3 : x = y
    · rw [if_pos h3, h3]
      exact ⟨⟨fun h => absurd h (by decide), fun h => absurd h (by omega)⟩, ⟨fun h => absurd h (by decide), fun h => absurd h (by omega)⟩⟩
    · have h4 : ¬ x.toInt = y.toInt := fun q => h3 (Int64.toInt_inj.mp q)
      rw [if_neg h3]
      exact ⟨⟨fun _ => by omega, fun _ => by decide⟩, ⟨fun h => absurd h (by decide), fun h => absurd h h2⟩⟩
theorem s_in (F : Nat) (x a b : Int64) : f_X9_in F x a b = some (if a.toInt ≤ x.toInt ∧ x.toInt ≤ b.toInt then 1 else 0) := by
  unfold f_X9_in b_X9_in_17 b_X9_in_18
  by_cases h1 : lg_cmp x a < 0
  · have := (s_cmp x a).1.mp h1
    rw [if_pos h1, if_pos (Or.inl rfl), if_neg (by omega)]
  · have h1' : ¬ x.toInt < a.toInt := fun q => h1 ((s_cmp x a).1.mpr q)
    rw [if_neg h1]
    by_cases h2 : 0 < lg_cmp x b
    · have := (s_cmp x b).2.mp h2
      rw [if_pos h2, if_pos (Or.inl rfl), if_neg (by omega)]
    · have h2' : ¬ b.toInt < x.toInt := fun q => h2 ((s_cmp x b).2.mpr q)
      rw [if_neg h2, if_pos (Or.inr rfl), if_pos (by omega)]
theorem s_bo01 {c : Prop} [Decidable c] : bo (if c then 1 else 0) := by
  by_cases h : c
  · rw [if_pos h]; exact Or.inr rfl
  · rw [if_neg h]; exact Or.inl rfl
/-- the reference while it reads -/
noncomputable def ps (m : OB) (p f e d c o : Int32) (so nu op : Nat → Int32) : OB := (uF (uF (uF (uF (uF (uF m.1 19 p) 20 f) 23 e) 24 d) 25 c) 26 o, uF (uF (uF m.2.1 29 so) 30 nu) 35 op, m.2.2)
section PS
variable {m : OB} {p f e d c o : Int32} {so nu op : Nat → Int32} {v : Int32}
theorem ps_p : ((uF (ps m p f e d c o so nu op).1 19 v, (ps m p f e d c o so nu op).2.1, (ps m p f e d c o so nu op).2.2) : OB) = ps m v f e d c o so nu op := by
  unfold ps
  try dsimp only
  rw [uF_cm (i := 26) (j := 19) (by decide), uF_cm (i := 25) (j := 19) (by decide), uF_cm (i := 24) (j := 19) (by decide), uF_cm (i := 23) (j := 19) (by decide), uF_cm (i := 20) (j := 19) (by decide), uF_uF]
theorem ps_f : ((uF (ps m p f e d c o so nu op).1 20 v, (ps m p f e d c o so nu op).2.1, (ps m p f e d c o so nu op).2.2) : OB) = ps m p v e d c o so nu op := by
  unfold ps
  try dsimp only
  rw [uF_cm (i := 26) (j := 20) (by decide), uF_cm (i := 25) (j := 20) (by decide), uF_cm (i := 24) (j := 20) (by decide), uF_cm (i := 23) (j := 20) (by decide), uF_uF]
theorem ps_d : ((uF (ps m p f e d c o so nu op).1 24 v, (ps m p f e d c o so nu op).2.1, (ps m p f e d c o so nu op).2.2) : OB) = ps m p f e v c o so nu op := by
  unfold ps
  try dsimp only
  rw [uF_cm (i := 26) (j := 24) (by decide), uF_cm (i := 25) (j := 24) (by decide), uF_uF]
theorem ps_c : ((uF (ps m p f e d c o so nu op).1 25 v, (ps m p f e d c o so nu op).2.1, (ps m p f e d c o so nu op).2.2) : OB) = ps m p f e d v o so nu op := by
  unfold ps
  try dsimp only
  rw [uF_cm (i := 26) (j := 25) (by decide), uF_uF]
theorem ps_o : ((uF (ps m p f e d c o so nu op).1 26 v, (ps m p f e d c o so nu op).2.1, (ps m p f e d c o so nu op).2.2) : OB) = ps m p f e d c v so nu op := by
  unfold ps
  try dsimp only
  rw [uF_uF]
theorem ps_en {so2 nu2 : Nat → Int32} : ((uF (ps m p f e d c o so nu op).1 23 v, uF (uF (ps m p f e d c o so nu op).2.1 29 so2) 30 nu2, (ps m p f e d c o so nu op).2.2) : OB) = ps m p f v d c o so2 nu2 op := by
  unfold ps
  try dsimp only
  rw [uF_cm (i := 26) (j := 23) (by decide), uF_cm (i := 25) (j := 23) (by decide), uF_cm (i := 24) (j := 23) (by decide), uF_uF]
  rw [uF_cm (i := 35) (j := 29) (by decide), uF_cm (i := 30) (j := 29) (by decide), uF_uF]
  rw [uF_cm (i := 35) (j := 30) (by decide), uF_uF]
theorem ps_op {op2 : Nat → Int32} : ((uF (ps m p f e d c o so nu op).1 26 v, uF (ps m p f e d c o so nu op).2.1 35 op2, (ps m p f e d c o so nu op).2.2) : OB) = ps m p f e d c v so nu op2 := by
  unfold ps
  try dsimp only
  rw [uF_uF, uF_uF]
theorem ps_pdo {v2 v3 : Int32} : ((uF (uF (uF (ps m p f e d c o so nu op).1 19 v) 24 v2) 26 v3, (ps m p f e d c o so nu op).2.1, (ps m p f e d c o so nu op).2.2) : OB) = ps m v f e v2 c v3 so nu op := by
  unfold ps
  try dsimp only
  rw [uF_cm (i := 26) (j := 19) (by decide), uF_cm (i := 25) (j := 19) (by decide), uF_cm (i := 24) (j := 19) (by decide), uF_cm (i := 23) (j := 19) (by decide), uF_cm (i := 20) (j := 19) (by decide), uF_uF, uF_cm (i := 26) (j := 24) (by decide), uF_cm (i := 25) (j := 24) (by decide), uF_uF, uF_uF]
theorem ps_od {v2 : Int32} : ((uF (uF (ps m p f e d c o so nu op).1 26 v) 24 v2, (ps m p f e d c o so nu op).2.1, (ps m p f e d c o so nu op).2.2) : OB) = ps m p f e v2 c v so nu op := by
  unfold ps
  try dsimp only
  rw [uF_uF, uF_cm (i := 26) (j := 24) (by decide), uF_cm (i := 25) (j := 24) (by decide), uF_uF]
end PS
/-- what the readers rest on: the tape, its length; the slot; eleven words -/
noncomputable def RB (m : OB) (L s : Nat) : Prop := m.1 18 = nI L ∧ L ≤ 400 ∧ (∀ i, -128 ≤ (m.2.1 28 i).toInt ∧ (m.2.1 28 i).toInt ≤ 127) ∧ m.1 21 = nI s ∧ s < 6 ∧ m.1 27 = 11
section RD
variable {F : Nat} {m : OB} {L s p : Nat} {f e d c o : Int32} {so nu op : Nat → Int32}
theorem s_sign (h : RB m L s) (hp : p < 2 ^ 30) : f_X9_sign F (ps m (nI p) f e d c o so nu op) = some (cb (m.2.1 28) L p) := by
  unfold f_X9_sign b_X9_sign_28
  have e1 : (ps m (nI p) f e d c o so nu op).1 18 = nI L := h.1
  have e2 : (ps m (nI p) f e d c o so nu op).1 19 = nI p := rfl
  have e3 : (ps m (nI p) f e d c o so nu op).2.1 28 = m.2.1 28 := rfl
  rw [e1, e2, e3]
  have h4 := h.2.1
  by_cases q : p < L
  · rw [if_neg (nI_ge q (by omega)), if_pos (ib_n (by omega) (by decide)), nI_clamp (by omega), cb_in q]
  · rw [if_pos (nI_le (by omega) (by omega)), cb_out (by omega)]
theorem s_blanks (h : RB m L s) (hF : 600 ≤ F) (hp : p ≤ L) : f_X9_blanks F (ps m (nI p) f e d c o so nu op) = some (ps m (nI (sk (m.2.1 28) L p)) f e d c o so nu op) := by
  have h4 := h.2.1
  unfold f_X9_blanks
  rw [lp_run (st := fun j => ps m (nI j) f e d c o so nu op) (r := fun j => some (ps m (nI j) f e d c o so nu op)) (P := sB (m.2.1 28) L) (L := L) (i0 := 0) (fun k j _ hj hb => by
      unfold b_X9_blanks_0
      try dsimp only
      rw [s_sign h (by omega), bd_some, if_pos (of_decide_eq_true hb), show (ps m (nI j) f e d c o so nu op).1 19 = nI j from rfl, nI_1, ps_p])
    (fun k j _ hj hb => by
      unfold b_X9_blanks_0
      try dsimp only
      rw [s_sign h (by omega), bd_some]
      by_cases q : j < L
      · rw [if_neg (of_decide_eq_false (hb q))]
      · rw [cb_out (by omega), if_neg (by decide)]) F p (Nat.zero_le _) hp (by omega)]
theorem s_isDigit9 (h : RB m L s) (hp : p < 2 ^ 30) : f_X9_isDigit F (ps m (nI p) f e d c o so nu op) = some (if isD (cb (m.2.1 28) L p) then 1 else 0) := by
  unfold f_X9_isDigit
  rw [s_sign h hp, bd_some, s_in, bd_some, if_pos s_bo01]
  congr 1
  rw [Int32.toInt_toInt64, show (48 : Int64).toInt = 48 from by decide, show (57 : Int64).toInt = 57 from by decide]
  by_cases q : isD (cb (m.2.1 28) L p)
  · rw [if_pos q, if_pos ((isD_i _).mp q)]
  · rw [if_neg q, if_neg (fun z => q ((isD_i _).mpr z))]
theorem s_byte {x : Int32} (h : -128 ≤ x.toInt ∧ x.toInt ≤ 127) : (0 ≤ x.toInt → x &&& 255 = x) ∧ (x.toInt < 0 → 128 ≤ (x &&& 255).toInt) := by
  have e := pk_and x (m := 255) 8 (by decide)
  have hb : x.toInt = x.toBitVec.toInt := rfl
  have hlt := x.toBitVec.isLt
  rw [hb, BitVec.toInt_eq_toNat_cond] at h
  constructor
  · intro h0
    rw [hb, BitVec.toInt_eq_toNat_cond] at h0
    by_cases q : 2 * x.toBitVec.toNat < 2 ^ 32
    · rw [if_pos q] at h h0
      rw [e, Nat.mod_eq_of_lt (by omega)]
      rw [sp_eq, nI_toInt (by omega), hb, BitVec.toInt_eq_toNat_cond, if_pos q]
    · rw [if_neg q] at h0
      omega
  · intro h0
    rw [hb, BitVec.toInt_eq_toNat_cond] at h0
    by_cases q : 2 * x.toBitVec.toNat < 2 ^ 32
    · rw [if_pos q] at h0
      omega
    · rw [if_neg q] at h h0
      rw [e, nI_toInt (by have := Nat.mod_lt x.toBitVec.toNat (show 0 < 2 ^ 8 by decide); omega)]
      omega
theorem s_byteL {x : Int32} (h : -128 ≤ x.toInt ∧ x.toInt ≤ 127) : (¬ x < 97 ∧ ¬ 122 < x) ↔ isL (x &&& 255) := by
  rw [isL_i, sp_lt, sp_lt, show (97 : Int32).toInt = 97 from by decide, show (122 : Int32).toInt = 122 from by decide]
  by_cases q : 0 ≤ x.toInt
  · rw [(s_byte h).1 q]
    omega
  · have := (s_byte h).2 (by omega)
    omega
theorem s_stood {w : Nat} (h : RB m L s) (hF : 600 ≤ F) (hp : p ≤ L) (hw : w < 18) (hw0 : 0 < xl w) : f_X9_stood F w (ps m (nI p) f e d c o so nu op) = some (if isW (m.2.1 28) L p (re (lB (m.2.1 28) L) L p) w = true then 1 else 0) := by
  have h4 := h.2.1
  have hx := xl_b w
  have e19 : (ps m (nI p) f e d c o so nu op).1 19 = nI p := rfl
  have e18 : (ps m (nI p) f e d c o so nu op).1 18 = nI L := h.1
  have e28 : (ps m (nI p) f e d c o so nu op).2.1 28 = m.2.1 28 := rfl
  have key : ∀ j, j < L → (lB (m.2.1 28) L j = true ↔ ¬ m.2.1 28 j < 97 ∧ ¬ 122 < m.2.1 28 j) := fun j hj => by
    rw [s_byteL (h.2.2.1 j)]
    unfold lB
    rw [decide_eq_true_eq, cb_in hj]
  unfold f_X9_stood
  rw [e19]
  rw [lp_run (st := fun j => (w, nI j)) (r := fun j => b_X9_stood_41 F (ps m (nI p) f e d c o so nu op) w (nI j)) (P := lB (m.2.1 28) L) (L := L) (i0 := 0) (fun k j _ hj hb => by
      have hb := (key j hj).mp hb
      unfold b_X9_stood_5
      try dsimp only
      rw [e18, e28, if_neg (nI_ge hj (by omega)), if_pos (ib_n (by omega) (by decide)), nI_clamp (by omega), if_neg hb.1, if_neg hb.2, nI_1])
    (fun k j _ hj hb => by
      unfold b_X9_stood_5
      try dsimp only
      rw [e18, e28]
      by_cases q : j < L
      · have hb : ¬ (¬ m.2.1 28 j < 97 ∧ ¬ 122 < m.2.1 28 j) := fun z => by
          have := (key j q).mpr z
          rw [hb q] at this
          cases this
        rw [if_neg (nI_ge q (by omega)), if_pos (ib_n (by omega) (by decide)), nI_clamp (by omega)]
        by_cases a1 : m.2.1 28 j < 97
        · rw [if_pos a1]
        · rw [if_neg a1, if_pos (Classical.byContradiction (fun a2 => hb ⟨a1, a2⟩))]
      · rw [if_pos (nI_le (by omega) (by omega))]) F p (Nat.zero_le _) hp (by omega)]
  have hge := re_ge (P := lB (m.2.1 28) L) hp
  have hle := re_le (P := lB (m.2.1 28) L) hp
  have hin := re_in (P := lB (m.2.1 28) L) (L := L) _ p rfl
  generalize re (lB (m.2.1 28) L) L p = j at hge hle hin ⊢
  unfold b_X9_stood_41 b_X9_stood_59
  rw [if_pos hw, e19, pk_sub hge]
  by_cases ej : j - p = xl w
  · rw [if_pos (by rw [ej])]
    have main : ∀ (n q : Nat), q ≤ xl w → xl w - q < n → (∀ k, k < q → cb (m.2.1 28) L (p + k) = xc w k &&& 255) → lp (b_X9_stood_63 F (ps m (nI p) f e d c o so nu op)) n (w, 1, nI q) = some (if isW (m.2.1 28) L p j w = true then 1 else 0) := by
      intro n
      induction n with
      | zero => intro q _ h; exact absurd h (by omega)
      | succ n ih =>
        intro q hq hn hk
        rw [lp_S]
        unfold b_X9_stood_63 b_X9_stood_102 b_X9_stood_109
        try dsimp only
        rw [if_pos hw]
        by_cases hq2 : q = xl w
        · rw [if_pos (nI_le (by omega) (by omega)), if_pos (Or.inr rfl), if_pos (by
            unfold isW
            rw [decide_eq_true ej, decide_eq_true (by rw [← hq2]; exact hk)]
            rfl)]
        · have hpq : p + q < L := by omega
          have hlt := (key (p + q) hpq).mp (hin (p + q) (by omega) (by omega))
          have hb := h.2.2.1 (p + q)
          have hself : m.2.1 28 (p + q) &&& 255 = m.2.1 28 (p + q) := (s_byte hb).1 (by
            have := hlt.1
            rw [sp_lt, show (97 : Int32).toInt = 97 from by decide] at this
            omega)
          rw [if_neg (nI_ge (by omega) (by omega)), if_neg (by decide), e19, nI_add, if_pos (ib_n (by omega) (by decide)), if_pos (ib_n (by omega) (by omega)), nI_clamp (by omega), nI_clamp (by omega), e28, nI_1]
          by_cases hc : m.2.1 28 (p + q) = xc w q &&& 255
          · rw [if_pos hc]
            exact ih (q + 1) (by omega) (by omega) (fun k hk2 => by
              by_cases ek : k = q
              · rw [ek, cb_in hpq, hself]; exact hc
              · exact hk k (by omega))
          · rw [if_neg hc]
            have hf : isW (m.2.1 28) L p j w = false := by
              cases hz : isW (m.2.1 28) L p j w with
              | false => rfl
              | true =>
                unfold isW at hz
                rw [Bool.and_eq_true, decide_eq_true_eq, decide_eq_true_eq] at hz
                have := hz.2 q (by omega)
                rw [cb_in hpq, hself] at this
                exact absurd this hc
            cases n with
            | zero => exact absurd hn (by omega)
            | succ n =>
              rw [lp_S]
              try unfold b_X9_stood_63 b_X9_stood_109
              try dsimp only
              rw [if_pos hw, hf]
              by_cases hz : q + 1 = xl w
              · rw [if_pos (nI_le (by omega) (by omega)), if_pos (Or.inl rfl), if_neg (by decide)]
              · rw [if_neg (nI_ge (by omega) (by omega)), if_pos rfl, if_pos (Or.inl rfl), if_neg (by decide)]
    exact main F 0 (Nat.zero_le _) (by omega) (fun k hk => absurd hk (by omega))
  · rw [if_neg (fun q => ej (by
      have := (nI_eq (by omega) (by omega)).mp q
      omega))]
    have hf : isW (m.2.1 28) L p j w = false := by
      cases hz : isW (m.2.1 28) L p j w with
      | false => rfl
      | true =>
        unfold isW at hz
        rw [Bool.and_eq_true, decide_eq_true_eq] at hz
        exact absurd hz.1 ej
    rw [hf, if_neg (by decide)]
    obtain ⟨n, rfl⟩ : ∃ n, F = n + 1 := ⟨F - 1, by omega⟩
    rw [lp_S]
    unfold b_X9_stood_63 b_X9_stood_109
    try dsimp only
    rw [if_pos hw, if_neg (show ¬ nI (xl w) ≤ 0 from nI_nle hw0 (by omega)), if_pos rfl, if_pos (Or.inl rfl)]
end RD
