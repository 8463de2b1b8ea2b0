/-! the hall, pure: sitters by both -/
section HSI
variable {F : Nat} {m x y : OB} {L s n : Nat} {e d c o : Int32} {s1 n1 o1 : Nat → Int32}
variable {t i p a b q : Nat} {tc he so co we ns nc nh nt nr nw : Nat → Int32}
theorem tk_num {lo bb : Int32} (hx : TX (m.2.1 28) L x n) (ha : At L x n t i) (hK : lexK (m.2.1 28) L i = 259) : f_X7_takeNumber F lo bb (tpa x (nI t) 0) = if lexV (m.2.1 28) L i < lo then some (-1, tpa x (nI t) (1 + 8 * nI i + 1)) else if lexV (m.2.1 28) L i ≤ bb then some (lexV (m.2.1 28) L i, tpa x (nI (t + 1)) 0) else some (-1, tpa x (nI t) (1 + 8 * nI i + 1)) := by
  have hd := lexK_d.mp hK
  have hiL : i < L := by
    by_cases z : i < L
    · exact z
    · rw [dB_out i (by omega)] at hd
      cases hd
  unfold f_X7_takeNumber b_X7_takeNumber_33
  rw [s_kind hx ha, bd_some, hK, if_pos rfl, s_value hx ha, bd_some, s_skip hx ha hiL, bd_some, s_fail hx ha, bd_some]
theorem tk_no {lo bb : Int32} (hx : TX (m.2.1 28) L x n) (ha : At L x n t i) (hK : ¬ lexK (m.2.1 28) L i = 259) : f_X7_takeNumber F lo bb (tpa x (nI t) 0) = some (-1, tpa x (nI t) (1 + 8 * nI i + 0)) := by
  unfold f_X7_takeNumber
  rw [s_kind hx ha, bd_some, if_neg hK, s_fail hx ha, bd_some]
/-- behind the last sitter the weight is read -/
noncomputable def xsi (F : Nat) (v q : Int32) (M : OB) : Option OB := Option.bind (f_X9_amount F 1 20 M) (fun q2 => (if (q2.2.1 20) = 0 then (if ib q 8 then (b_X9_sitterPart_110 F (q2.2.1, (uF (uF (uF q2.2.2.1 12 (upd (q2.2.2.1 12) (Int32.toNatClampNeg 3) (((q2.2.2.1 12) (Int32.toNatClampNeg 3)) + 1))) 16 (upd (q2.2.2.1 16) (Int32.toNatClampNeg q) v)) 17 (upd (q2.2.2.1 17) (Int32.toNatClampNeg q) q2.1)), q2.2.2.2)) else none) else (b_X9_sitterPart_110 F q2.2)))
theorem seek_end {g : Nat} {v j : Int32} {M : OB} {k : Nat} (hk : q ≤ k) (h8 : k ≤ 8) : lp (b_X9_sitterPart_33 F) (g + 1) (j, v, nI q, nI k, M) = xsi F v (nI q) M := by
  rw [lp_S, b_X9_sitterPart_33]
  dsimp only
  rw [if_pos (nI_le hk (by omega))]
  rfl
/-- in a fault nothing is looked for -/
theorem seek_g {v j p2 f : Int32} (hq : q ≤ 8) (hf : ¬ f = 0) : ∀ (r g k : Nat), k + r = q → r < g → lp (b_X9_sitterPart_33 F) g (j, v, nI q, nI k, ps (hm m ns nc nh nt nr nw) p2 f e d c o s1 n1 o1) = xsi F v (nI q) (ps (hm m ns nc nh nt nr nw) p2 f e d c o s1 n1 o1)
  | 0, g, k, h1, h2 => by
    obtain ⟨g, rfl⟩ : ∃ g', g = g' + 1 := ⟨g - 1, by omega⟩
    exact seek_end (by omega) (by omega)
  | r + 1, g, k, h1, h2 => by
    obtain ⟨g, rfl⟩ : ∃ g', g = g' + 1 := ⟨g - 1, by omega⟩
    rw [lp_S, b_X9_sitterPart_33]
    dsimp only
    rw [if_neg (nI_ge (a := k) (b := q) (by omega) (by omega)), show (ps (hm m ns nc nh nt nr nw) p2 f e d c o s1 n1 o1).1 20 = f from rfl, if_neg hf]
    unfold b_X9_sitterPart_63
    rw [nI_1]
    exact seek_g hq hf r g (k + 1) (by omega) (by omega)
/-- nobody has that chair -/
theorem seek_n {v j p2 : Int32} (hq : q ≤ 8) (hn : ∀ u, u < q → ¬ nr u = v) : ∀ (r g k : Nat), k + r = q → r < g → lp (b_X9_sitterPart_33 F) g (j, v, nI q, nI k, ps (hm m ns nc nh nt nr nw) p2 0 e d c o s1 n1 o1) = xsi F v (nI q) (ps (hm m ns nc nh nt nr nw) p2 0 e d c o s1 n1 o1)
  | 0, g, k, h1, h2 => by
    obtain ⟨g, rfl⟩ : ∃ g', g = g' + 1 := ⟨g - 1, by omega⟩
    exact seek_end (by omega) (by omega)
  | r + 1, g, k, h1, h2 => by
    obtain ⟨g, rfl⟩ : ∃ g', g = g' + 1 := ⟨g - 1, by omega⟩
    rw [lp_S, b_X9_sitterPart_33]
    dsimp only
    rw [if_neg (nI_ge (a := k) (b := q) (by omega) (by omega)), show (ps (hm m ns nc nh nt nr nw) p2 0 e d c o s1 n1 o1).1 20 = 0 from rfl, if_pos rfl, if_pos (ib_n (show k < 8 by omega) (by decide)), show (ps (hm m ns nc nh nt nr nw) p2 0 e d c o s1 n1 o1).2.1 16 = nr from rfl, nI_clamp (by omega), if_neg (hn k (by omega))]
    unfold b_X9_sitterPart_63
    rw [nI_1]
    exact seek_n hq hn r g (k + 1) (by omega) (by omega)
/-- somebody has it -/
theorem seek_y {v j p2 : Int32} (hq : q ≤ 8) (hj : ¬ 1 + 8 * j + 1 = 0) : ∀ (r g k : Nat), k + r = q → r < g → (∃ u, k ≤ u ∧ u < q ∧ nr u = v) → lp (b_X9_sitterPart_33 F) g (j, v, nI q, nI k, ps (hm m ns nc nh nt nr nw) p2 0 e d c o s1 n1 o1) = xsi F v (nI q) (ps (hm m ns nc nh nt nr nw) p2 (1 + 8 * j + 1) e d c o s1 n1 o1)
  | 0, g, k, h1, h2, ⟨u, h3, h4, h5⟩ => absurd h3 (by omega)
  | r + 1, g, k, h1, h2, hu => by
    obtain ⟨g, rfl⟩ : ∃ g', g = g' + 1 := ⟨g - 1, by omega⟩
    rw [lp_S, b_X9_sitterPart_33]
    dsimp only
    rw [if_neg (nI_ge (a := k) (b := q) (by omega) (by omega)), show (ps (hm m ns nc nh nt nr nw) p2 0 e d c o s1 n1 o1).1 20 = 0 from rfl, if_pos rfl, if_pos (ib_n (show k < 8 by omega) (by decide)), show (ps (hm m ns nc nh nt nr nw) p2 0 e d c o s1 n1 o1).2.1 16 = nr from rfl, nI_clamp (by omega)]
    unfold b_X9_sitterPart_63
    rw [nI_1]
    by_cases z : nr k = v
    · rw [if_pos z, s_fails, bd_some, if_pos rfl]
      exact seek_g hq hj r g (k + 1) (by omega) (by omega)
    · rw [if_neg z]
      obtain ⟨u, h3, h4, h5⟩ := hu
      exact seek_y hq hj r g (k + 1) (by omega) (by omega) ⟨u, by
        have : u ≠ k := fun w => z (w ▸ h5)
        omega, h4, h5⟩
theorem xs_bad {p2 : Nat} {f v qq : Int32} (hr : RB m L s) (hF : 600 ≤ F) (hf : ¬ f = 0) (hp : p2 ≤ L) : xsi F v qq (ps (hm m ns nc nh nt nr nw) (nI p2) f e d c o s1 n1 o1) = some (ps (hm m ns nc nh nt nr nw) (nI (sk (m.2.1 28) L p2)) f e d c o s1 n1 o1) := by
  unfold xsi
  rw [g_amount (m := hm m ns nc nh nt nr nw) hr hF hf hp, bd_some]
  dsimp only
  rw [show (ps (hm m ns nc nh nt nr nw) (nI (sk ((hm m ns nc nh nt nr nw).2.1 28) L p2)) f e d c o s1 n1 o1).1 20 = f from rfl, if_neg hf]
  rfl
theorem xs_no {p2 p3 f v w qq : Int32} (hf : ¬ f = 0) (hA : f_X9_amount F 1 20 (ps (hm m ns nc nh nt nr nw) p2 0 e d c o s1 n1 o1) = some (w, ps (hm m ns nc nh nt nr nw) p3 f e d c o s1 n1 o1)) : xsi F v qq (ps (hm m ns nc nh nt nr nw) p2 0 e d c o s1 n1 o1) = some (ps (hm m ns nc nh nt nr nw) p3 f e d c o s1 n1 o1) := by
  unfold xsi
  rw [hA, bd_some]
  dsimp only
  rw [show (ps (hm m ns nc nh nt nr nw) p3 f e d c o s1 n1 o1).1 20 = f from rfl, if_neg hf]
  rfl
theorem xs_yes {p2 p3 v w : Int32} (hq : q < 8) (h3 : ns 3 = nI q) (hA : f_X9_amount F 1 20 (ps (hm m ns nc nh nt nr nw) p2 0 e d c o s1 n1 o1) = some (w, ps (hm m ns nc nh nt nr nw) p3 0 e d c o s1 n1 o1)) : xsi F v (nI q) (ps (hm m ns nc nh nt nr nw) p2 0 e d c o s1 n1 o1) = some (ps (hm m (upd ns 3 (nI (q + 1))) nc nh nt (upd nr q v) (upd nw q w)) p3 0 e d c o s1 n1 o1) := by
  unfold xsi b_X9_sitterPart_110
  rw [hA, bd_some]
  dsimp only
  rw [show (ps (hm m ns nc nh nt nr nw) p3 0 e d c o s1 n1 o1).1 20 = 0 from rfl, if_pos rfl, if_pos (ib_n hq (by decide)), show (ps (hm m ns nc nh nt nr nw) p3 0 e d c o s1 n1 o1).2.1 12 = ns from rfl, show (ps (hm m ns nc nh nt nr nw) p3 0 e d c o s1 n1 o1).2.1 16 = nr from rfl, show (ps (hm m ns nc nh nt nr nw) p3 0 e d c o s1 n1 o1).2.1 17 = nw from rfl, show Int32.toNatClampNeg 3 = 3 from by decide, h3, nI_1, nI_clamp (by omega), ps_121617]
theorem si_part (hr : RB m L s) (hF : 600 ≤ F) (hx : TX (m.2.1 28) L x n) (ha : At L x n t i) (hp : p ≤ L) (hk : sk (m.2.1 28) L p = i) (hR : HR 1 a b q tc he so co we ns nc nh nt nr nw) : BadH m x (rmh y 1 a b q tc he so co we) L e d c o s1 n1 o1 (f_X1_readSitter F (tpa x (nI t) 0) (rmh y 1 a b q tc he so co we)) (f_X9_hallPart F 3 (ps (hm m ns nc nh nt nr nw) (nI p) 0 e d c o s1 n1 o1)) ∨ GoodH m x y L n i e d c o s1 n1 o1 (f_X1_readSitter F (tpa x (nI t) 0) (rmh y 1 a b q tc he so co we)) (f_X9_hallPart F 3 (ps (hm m ns nc nh nt nr nw) (nI p) 0 e d c o s1 n1 o1)) := by
  have h4 := hr.2.1
  have hi := ha.2.1
  have hb8 := hR.2.1.2.1
  have hqb := hR.2.1.2.2
  have hs2 := hR.1.2.2.1
  have hs3 := hR.1.2.2.2
  have e1 : (1 : Int32) + 8 * nI i + 1 = nI (1 + 8 * i + 1) := flt (k := 1)
  have hne : ¬ (1 : Int32) + 8 * nI i + 1 = 0 := by
    rw [e1]
    exact nI_ne0 (by omega) (by omega)
  have rf : ∀ (v p2 f2 : Int32), f_X9_amount F 0 (nI b - 1) (ps (hm m ns nc nh nt nr nw) (nI i) 0 e d c o s1 n1 o1) = some (v, ps (hm m ns nc nh nt nr nw) p2 f2 e d c o s1 n1 o1) → f_X9_hallPart F 3 (ps (hm m ns nc nh nt nr nw) (nI p) 0 e d c o s1 n1 o1) = Option.bind (lp (b_X9_sitterPart_33 F) F (nI i, v, nI q, nI 0, ps (hm m ns nc nh nt nr nw) p2 f2 e d c o s1 n1 o1)) (fun q9 => some q9) := by
    intro v p2 f2 hA
    unfold f_X9_hallPart f_X9_sitterPart b_X9_hallPart_125
    rw [if_neg (show ¬ (3 : Int32) = 0 by decide), if_neg (show ¬ (3 : Int32) = 1 by decide), if_neg (show ¬ (3 : Int32) = 2 by decide), s_blanks (m := hm m ns nc nh nt nr nw) hr hF hp, bd_some, show sk ((hm m ns nc nh nt nr nw).2.1 28) L p = i from hk, show (ps (hm m ns nc nh nt nr nw) (nI i) 0 e d c o s1 n1 o1).2.1 12 = ns from rfl, show Int32.toNatClampNeg 2 = 2 from by decide, hs2, hA, bd_some]
    dsimp only
    rw [show (ps (hm m ns nc nh nt nr nw) p2 f2 e d c o s1 n1 o1).2.1 12 = ns from rfl, show Int32.toNatClampNeg 3 = 3 from by decide, hs3]
    rfl
  have c28 : ∀ T : OB, f_X7_takeNumber F 0 (nI b - 1) (tpa x (nI t) 0) = some (-1, T) → b_X1_readSitter_28 F (tpa x (nI t) 0) (rmh y 1 a b q tc he so co we) = some (0, T, rmh y 1 a b q tc he so co we) := by
    intro T hT
    unfold b_X1_readSitter_28
    rw [show (rmh y 1 a b q tc he so co we).1 2 = nI b from rfl, hT, bd_some]
    dsimp only
    rw [if_pos rfl]
  have c29 : ∀ (v w : Int32) (T T2 : OB), ¬ v = -1 → q < 8 → f_X7_takeNumber F 0 (nI b - 1) (tpa x (nI t) 0) = some (v, T) → f_X7_takeNumber F 1 20 T = some (w, T2) → b_X1_readSitter_28 F (tpa x (nI t) 0) (rmh y 1 a b q tc he so co we) = if w = -1 then some (0, T2, rmh y 1 a b q tc he so co we) else some (1, T2, rmh y 1 a b (q + 1) tc he so (upd co q v) (upd we q w)) := by
    intro v w T T2 hv hq8 hT hT2
    unfold b_X1_readSitter_28 b_X1_readSitter_69
    rw [show (rmh y 1 a b q tc he so co we).1 2 = nI b from rfl, hT, bd_some]
    dsimp only
    rw [if_neg hv, hT2, bd_some]
    dsimp only
    rw [show (rmh y 1 a b q tc he so co we).1 3 = nI q from rfl, show (rmh y 1 a b q tc he so co we).2.1 7 = co from rfl, show (rmh y 1 a b q tc he so co we).2.1 8 = we from rfl, if_pos (show nI q < 8 from nI_lt (b := 8) hq8 (by decide)), if_pos (ib_n hq8 (by decide)), nI_1, nI_clamp (by omega), rmh_si]
  have rs : f_X1_readSitter F (tpa x (nI t) 0) (rmh y 1 a b q tc he so co we) = if lexK (m.2.1 28) L i = 259 then Option.bind (f_X3_sitterOn F (lexV (m.2.1 28) L i) (rmh y 1 a b q tc he so co we)) (fun q10 => (if q10 = (-1) then (b_X1_readSitter_28 F (tpa x (nI t) 0) (rmh y 1 a b q tc he so co we)) else some (0, tpa x (nI t) (1 + 8 * nI i + 1), rmh y 1 a b q tc he so co we))) else b_X1_readSitter_28 F (tpa x (nI t) 0) (rmh y 1 a b q tc he so co we) := by
    unfold f_X1_readSitter
    rw [s_kind hx ha, bd_some, s_value hx ha, bd_some, s_fail hx ha, bd_some]
    dsimp only
    rw [if_pos (Or.inl rfl)]
  have hq8 : q ≤ 8 := by omega
  rcases amt (m := hm m ns nc nh nt nr nw) (p := i) (lo := 0) (b := nI b - 1) (e := e) (d := d) (c := c) (o := o) (so := s1) (nu := n1) (op := o1) hr hF hx ha hi (at_sk hx ha) (by decide) with ⟨φ, p2, v, h1, h2, h3, h5, h6⟩ | ⟨v, p2, h1, h2, h3, h5, h6, h7, h9, h10⟩
  · have hφ := nI_ne0 h1 (show φ < 2 ^ 31 by omega)
    refine Or.inl ⟨φ, sk (m.2.1 28) L p2, nI t, _, _, _, _, _, _, h1, h2, sk_le h3, ?_, by rw [rf v _ _ h6, seek_g hq8 hφ q F 0 (by omega) (by omega), xs_bad hr hF hφ h3]; rfl⟩
    rw [rs]
    by_cases hK : lexK (m.2.1 28) L i = 259
    · rw [if_pos hK]
      rcases s_sitterOn (F := F) (y := y) (t := 1) (a := a) (b := b) (tc := tc) (he := he) (so := so) (we := we) (co := co) (x := lexV (m.2.1 28) L i) hF hq8 with ⟨j, hj, ej, er⟩ | ⟨hn, er⟩
      · obtain ⟨u, hu, eu⟩ := (hR.2.2.2.2.1 j hj).2.2.1
        have hT := tk_num (F := F) (lo := 0) (bb := nI b - 1) hx ha hK
        rw [← ej, eu, if_neg (show ¬ nI u < 0 from nI_pos (by omega)), if_pos (show nI u ≤ nI b - 1 from Int32.le_iff_toInt_le.mpr (by
          rw [nI_toInt (by omega), nI_m1 hb8]
          omega))] at hT
        have z := congrArg Prod.fst (Option.some.inj (hT.symm.trans h5))
        exact absurd z (nI_nm1 (by omega))
      · rw [er, bd_some, if_pos rfl]
        exact c28 _ h5
    · rw [if_neg hK]
      exact c28 _ h5
  · have hvb : v < b := by
      rw [nI_toInt (by omega), nI_m1 hb8] at h2
      omega
    have hK : lexK (m.2.1 28) L i = 259 := Classical.byContradiction (fun z => by
      have hT := tk_no (F := F) (lo := 0) (bb := nI b - 1) hx ha z
      have w := congrArg Prod.fst (Option.some.inj (h9.symm.trans hT))
      exact absurd w (nI_nm1 (by omega)))
    have hV : lexV (m.2.1 28) L i = nI v := by
      have hT := tk_num (F := F) (lo := 0) (bb := nI b - 1) hx ha hK
      rw [show f_X7_takeNumber F 0 (nI b - 1) (tpa x (nI t) 0) = some (nI v, tpa x (nI (t + 1)) 0) from h9] at hT
      by_cases z1 : lexV (m.2.1 28) L i < 0
      · rw [if_pos z1] at hT
        exact absurd (congrArg Prod.fst (Option.some.inj hT)) (nI_nm1 (by omega))
      · rw [if_neg z1] at hT
        by_cases z2 : lexV (m.2.1 28) L i ≤ nI b - 1
        · rw [if_pos z2] at hT
          exact (congrArg Prod.fst (Option.some.inj hT)).symm
        · rw [if_neg z2] at hT
          exact absurd (congrArg Prod.fst (Option.some.inj hT)) (nI_nm1 (by omega))
    rw [rs, if_pos hK, hV]
    rcases s_sitterOn (F := F) (y := y) (t := 1) (a := a) (b := b) (tc := tc) (he := he) (so := so) (we := we) (co := co) (x := nI v) hF hq8 with ⟨j, hj, ej, er⟩ | ⟨hn, er⟩
    · refine Or.inl ⟨1 + 8 * i + 1, sk (m.2.1 28) L p2, nI t, _, _, _, _, _, _, by omega, by omega, sk_le h6, ?_, by rw [rf _ _ _ h10, seek_y hq8 hne q F 0 (by omega) (by omega) ⟨j, by omega, hj, by rw [← (hR.2.2.2.2.1 j hj).1]; exact ej⟩, xs_bad hr hF hne h6, e1]; rfl⟩
      rw [er, bd_some, if_neg (nI_nm1 (by omega)), e1]
    · have hqlt := hR.room hvb hn
      have hnr : ∀ u, u < q → ¬ nr u = nI v := fun u hu z => hn u hu (by rw [(hR.2.2.2.2.1 u hu).1]; exact z)
      rw [er, bd_some, if_pos rfl]
      rcases amt (m := hm m ns nc nh nt nr nw) (lo := 1) (b := 20) (e := e) (d := d) (c := c) (o := o) (so := s1) (nu := n1) (op := o1) hr hF hx h7 h6 rfl (by decide) with ⟨φ, p3, w, g1, g2, g3, g5, g6⟩ | ⟨w, p3, g1, g2, g3, g5, g6, g7, g9, g10⟩
      · refine Or.inl ⟨φ, p3, nI (t + 1), _, _, _, _, _, _, g1, g2, g3, ?_, by rw [rf _ _ _ h10, seek_n hq8 hnr q F 0 (by omega) (by omega), xs_no (nI_ne0 g1 (by omega)) g6]; rfl⟩
        rw [c29 _ _ _ _ (nI_nm1 (by omega)) (by omega) h9 g5, if_pos rfl]
      · have hw : w ≤ 20 := by
          rw [nI_toInt (by omega), show (20 : Int32).toInt = 20 from by decide] at g2
          omega
        have k1 := sk_ge (B := m.2.1 28) h6
        have k2 := sk_ge (B := m.2.1 28) g6
        have k3 : sk (m.2.1 28) L p2 < p3 := g5
        refine Or.inr ⟨t + 1 + 1, sk (m.2.1 28) L p3, p3, a, b, q + 1, _, _, _, _, _, _, _, _, _, _, _, g7, by omega, g6, rfl, hR.sit hqlt hvb g1 hw hn, ?_, by rw [rf _ _ _ h10, seek_n hq8 hnr q F 0 (by omega) (by omega), xs_yes (by omega) hs3 g10]; rfl⟩
        rw [c29 _ _ _ _ (nI_nm1 (by omega)) (by omega) h9 g9, if_neg (nI_nm1 (by omega))]
end HSI
