/-! the hall, pure: one clause by both, whole -/
theorem bd_id {α : Type} (x : Option α) : Option.bind x (fun q => some q) = x := by
  cases x <;> rfl
theorem bo_id {r : Option (Int32 × OB × OB)} {v : Int32} {T R : OB} (h : r = some (v, T, R)) (hv : bo v) : Option.bind r (fun q => if bo q.1 then some (q.1, q.2.1, q.2.2) else none) = r := by
  rw [h, bd_some]
  dsimp only
  rw [if_pos hv]
section HCB
variable {F : Nat} {m x y : OB} {L s n : Nat} {e d c o : Int32} {s1 n1 o1 : Nat → Int32}
variable {t i p a b q t0 cN : Nat} {tc he so co we ns nc nh nt nr nw : Nat → Int32}
theorem c40 (h : cN ≤ 40) : (nI cN = 40 ↔ cN = 40) ∧ ((40 : Int32) ≤ nI cN ↔ cN = 40) ∧ (nI cN = 0 ↔ cN = 0) ∧ ¬ (40 : Int32) < nI cN := by
  have e1 : (nI cN).toInt = cN := nI_toInt (by omega)
  have e2 : (40 : Int32).toInt = 40 := by decide
  refine ⟨?_, ?_, ?_, ?_⟩
  · rw [sp_eq, e1, e2]
    omega
  · rw [sp_le, e1, e2]
    omega
  · rw [sp_eq, e1, sp0]
    omega
  · rw [sp_lt, e1, e2]
    omega
theorem hk_full {k : Nat} (hk : k < 4) (hf : f_X9_isFull F (nI k) (nI cN) (ps (hm m ns nc nh nt nr nw) (nI i) 0 e d c o s1 n1 o1) = some 1) : b_X9_hallClause_33 F (nI cN) (nI i) (nI k) (ps (hm m ns nc nh nt nr nw) (nI i) 0 e d c o s1 n1 o1) = some (ps (hm m ns nc nh nt nr nw) (nI i) (nI (1 + 8 * i + 4)) e d c o s1 n1 o1) := by
  have e4 : (1 : Int32) + 8 * nI i + 4 = nI (1 + 8 * i + 4) := flt (k := 4)
  unfold b_X9_hallClause_33
  rw [if_neg (show ¬ nI k = 4 from fun z => by
    have := congrArg Int32.toInt z
    rw [nI_toInt (by omega), show (4 : Int32).toInt = 4 from by decide] at this
    omega), hf, bd_some, if_neg (show ¬ (1 : Int32) = 0 by decide), s_fails, bd_some, if_pos rfl, e4]
theorem hk_go {k w : Nat} (hk : k < 4) (hw : wdH (nI k) = w) (h18 : w < 18) (hf : f_X9_isFull F (nI k) (nI cN) (ps (hm m ns nc nh nt nr nw) (nI i) 0 e d c o s1 n1 o1) = some 0) : b_X9_hallClause_33 F (nI cN) (nI i) (nI k) (ps (hm m ns nc nh nt nr nw) (nI i) 0 e d c o s1 n1 o1) = f_X9_hallPart F (nI k) (ps (hm m ns nc nh nt nr nw) (nI (i + xl w)) 0 e d c o s1 n1 o1) := by
  unfold b_X9_hallClause_33
  rw [if_neg (show ¬ nI k = 4 from fun z => by
    have := congrArg Int32.toInt z
    rw [nI_toInt (by omega), show (4 : Int32).toInt = 4 from by decide] at this
    omega), hf, bd_some, if_pos rfl, hw, if_pos h18, show (ps (hm m ns nc nh nt nr nw) (nI i) 0 e d c o s1 n1 o1).1 19 = nI i from rfl, nI_add, ps_p]
  exact bd_id _
theorem H_up {i2 : Nat} {R : OB} {rc rc2 : Option (Int32 × OB × OB)} {rr rr2 : Option OB} (h : BadH m x R L e d c o s1 n1 o1 rc rr ∨ GoodH m x y L n i2 e d c o s1 n1 o1 rc rr) (hc : rc2 = Option.bind rc (fun q => if bo q.1 then some (q.1, q.2.1, q.2.2) else none)) (hr : rr2 = rr) (hi : i < i2) : BadH m x R L e d c o s1 n1 o1 rc2 rr2 ∨ GoodH m x y L n i e d c o s1 n1 o1 rc2 rr2 := by
  rw [hr]
  rcases h with ⟨φ, p2, t2, ns, nc, nh, nt, nr, nw, h1, h2, h3, h4, h5⟩ | ⟨t2, i3, p2, a, b, q, tc, he, so, co, we, ns, nc, nh, nt, nr, nw, h1, h2, h3, h4, h5, h6, h7⟩
  · exact Or.inl ⟨φ, p2, t2, ns, nc, nh, nt, nr, nw, h1, h2, h3, by rw [hc, bo_id h4 (Or.inl rfl), h4], h5⟩
  · exact Or.inr ⟨t2, i3, p2, a, b, q, tc, he, so, co, we, ns, nc, nh, nt, nr, nw, h1, by omega, h3, h4, h5, by rw [hc, bo_id h6 (Or.inr rfl), h6], h7⟩
theorem hcl_all (hr : RB m L s) (hF : 600 ≤ F) (hx : TX (m.2.1 28) L x n) (ha : At L x n t i) (hp : p ≤ L) (hk : sk (m.2.1 28) L p = i) (hR : HR t0 a b q tc he so co we ns nc nh nt nr nw) (hc : cN ≤ 40) (ht : (cN = 0 ∧ t0 = 0) ∨ (0 < cN ∧ t0 = 1)) : BadH m x (rmh y t0 a b q tc he so co we) L e d c o s1 n1 o1 (f_X1_readClause F (nI cN) (tpa x (nI t) 0) (rmh y t0 a b q tc he so co we)) (f_X9_hallClause F (nI cN) (ps (hm m ns nc nh nt nr nw) (nI p) 0 e d c o s1 n1 o1)) ∨ cN < 40 ∧ GoodH m x y L n i e d c o s1 n1 o1 (f_X1_readClause F (nI cN) (tpa x (nI t) 0) (rmh y t0 a b q tc he so co we)) (f_X9_hallClause F (nI cN) (ps (hm m ns nc nh nt nr nw) (nI p) 0 e d c o s1 n1 o1)) := by
  have hi := ha.2.1
  have h4 := hr.2.1
  obtain ⟨z40, z40', z0, -⟩ := c40 hc
  have hb0 : Option.bind (f_X7_fail F 0 (tpa x (nI t) 0)) (fun q27 => (if bo q27.1 then (some (q27.1, q27.2, rmh y t0 a b q tc he so co we)) else none)) = some (0, tpa x (nI t) (nI (1 + 8 * i + 0)), rmh y t0 a b q tc he so co we) := c_bad (k := 0) hx ha
  have kf64 : b_X1_readClause_64 F (tpa x (nI t) 0) (rmh y t0 a b q tc he so co we) = some (0, tpa x (nI t) (nI (1 + 8 * i + 4)), rmh y t0 a b q tc he so co we) := c_bad (k := 4) hx ha
  have kf101 : b_X1_readClause_101 F (tpa x (nI t) 0) (rmh y t0 a b q tc he so co we) = some (0, tpa x (nI t) (nI (1 + 8 * i + 4)), rmh y t0 a b q tc he so co we) := c_bad (k := 4) hx ha
  have e0 : (1 : Int32) + 8 * nI i + 0 = nI (1 + 8 * i + 0) := flt (k := 0)
  have ht1 : (rmh y t0 a b q tc he so co we).1 0 = nI t0 := rfl
  have ha1 : (rmh y t0 a b q tc he so co we).1 1 = nI a := rfl
  have hb1 : (rmh y t0 a b q tc he so co we).1 2 = nI b := rfl
  have hab := hR.2.1
  have eR : f_X9_hallClause F (nI cN) (ps (hm m ns nc nh nt nr nw) (nI p) 0 e d c o s1 n1 o1) = lp (b_X9_hallClause_11 F) F (nI cN, nI i, nI 0, ps (hm m ns nc nh nt nr nw) (nI i) 0 e d c o s1 n1 o1) := by
    unfold f_X9_hallClause
    rw [s_blanks (m := hm m ns nc nh nt nr nw) hr hF hp, bd_some, show sk ((hm m ns nc nh nt nr nw).2.1 28) L p = i from hk]
    rfl
  rw [h_words (m := hm m ns nc nh nt nr nw) hr hF hi (by omega)] at eR
  rw [show (hm m ns nc nh nt nr nw).2.1 28 = m.2.1 28 from rfl] at eR
  have eC : f_X1_readClause F (nI cN) (tpa x (nI t) 0) (rmh y t0 a b q tc he so co we) = if lexK (m.2.1 28) L i = 271 then b_X1_readClause_39 F (nI cN) (lexK (m.2.1 28) L i) (tpa x (nI t) 0) (rmh y t0 a b q tc he so co we) else if lexK (m.2.1 28) L i = 272 then b_X1_readClause_39 F (nI cN) (lexK (m.2.1 28) L i) (tpa x (nI t) 0) (rmh y t0 a b q tc he so co we) else if lexK (m.2.1 28) L i = 261 then b_X1_readClause_39 F (nI cN) (lexK (m.2.1 28) L i) (tpa x (nI t) 0) (rmh y t0 a b q tc he so co we) else if lexK (m.2.1 28) L i = 260 then b_X1_readClause_39 F (nI cN) (lexK (m.2.1 28) L i) (tpa x (nI t) 0) (rmh y t0 a b q tc he so co we) else some (0, tpa x (nI t) (nI (1 + 8 * i + 0)), rmh y t0 a b q tc he so co we) := by
    unfold f_X1_readClause
    rw [s_kind hx ha, bd_some, hb0]
  have bad4 : ∀ {rc : Option (Int32 × OB × OB)} {rr : Option OB}, rc = some (0, tpa x (nI t) (nI (1 + 8 * i + 4)), rmh y t0 a b q tc he so co we) → rr = some (ps (hm m ns nc nh nt nr nw) (nI i) (nI (1 + 8 * i + 4)) e d c o s1 n1 o1) → BadH m x (rmh y t0 a b q tc he so co we) L e d c o s1 n1 o1 rc rr := fun h1 h2 => ⟨1 + 8 * i + 4, i, nI t, ns, nc, nh, nt, nr, nw, by omega, by omega, hi, h1, h2⟩
  have word : ∀ w, w < 18 → lexK (m.2.1 28) L i = nI (260 + w) → i < L ∧ i + xl w ≤ L ∧ At L x n (t + 1) (sk (m.2.1 28) L (i + xl w)) ∧ i < sk (m.2.1 28) L (i + xl w) := fun w hw h => by
    obtain ⟨g1, g2⟩ := isW_end hw ((lexK_w hw).mp h)
    have hl : i < L := by
      by_cases z : i < L
      · exact z
      · rw [lB_out i (by omega)] at g2
        cases g2
    have hE := lexE_gt (B := m.2.1 28) hl
    have hAt := (ha.at hx).2.2.2 hl
    rw [g1] at hE hAt
    have hge := sk_ge (B := m.2.1 28) hE.2
    exact ⟨hl, hE.2, hAt, by omega⟩
  rw [eC, eR]
  by_cases k1 : lexK (m.2.1 28) L i = 271
  · obtain ⟨hl, hE, hAt, hlt⟩ := word 11 (by decide) k1
    rw [if_pos k1, if_pos k1, k1]
    by_cases h40 : cN = 40
    · refine Or.inl (bad4 ?_ (hk_full (by decide) (by rw [h40]; exact full_40)))
      unfold b_X1_readClause_39
      rw [if_pos (z40'.mpr h40)]
      exact kf64
    · by_cases h0 : cN = 0
      · have t00 : t0 = 0 := by omega
        have full : f_X9_isFull F (nI 0) (nI cN) (ps (hm m ns nc nh nt nr nw) (nI i) 0 e d c o s1 n1 o1) = some 0 := (full_y (fun z => h40 (z40.mp z)) (Or.inl ⟨rfl, z0.mpr h0⟩)).trans (by
          rw [if_neg (fun u => by
            rcases u with u | u
            · exact absurd u.1 (by decide)
            · exact absurd u.1 (by decide))])
        refine Or.inr ⟨by omega, t + 1, sk (m.2.1 28) L (i + xl 11), i + xl 11, a, b, q, tc, he, so, co, we, upd ns 0 (nI 1), nc, nh, nt, nr, nw, hAt, hlt, hE, rfl, hR.told, ?_, ?_⟩
        · unfold b_X1_readClause_39 b_X1_readClause_57 b_X1_readClause_85 b_X1_readClause_107
          rw [if_neg (fun z => h40 (z40'.mp z)), if_pos (show (271 : Int32) = 271 from rfl), ht1, if_neg (show ¬ (1 : Int32) = nI t0 by rw [t00]; decide), if_neg (show ¬ (271 : Int32) = 272 by decide), if_neg (show ¬ (271 : Int32) = 261 by decide), s_skip hx ha hl, bd_some, if_neg (show ¬ (271 : Int32) = 260 by decide), if_neg (show ¬ (271 : Int32) = 261 by decide), if_neg (show ¬ (271 : Int32) = 272 by decide), rmh_to]
        · rw [hk_go (w := 11) (by decide) (by decide) (by decide) full]
          unfold f_X9_hallPart b_X9_hallPart_125
          rw [if_pos (show nI 0 = 0 from rfl), show Int32.toNatClampNeg 0 = 0 from by decide]
          exact congrArg some (ps_12 (r := upd ns 0 (nI 1)))
      · have t01 : t0 = 1 := by omega
        refine Or.inl (bad4 ?_ (hk_full (by decide) (full_n (fun z => h40 (z40.mp z)) (Or.inl ⟨rfl, fun z => h0 (z0.mp z)⟩))))
        unfold b_X1_readClause_39 b_X1_readClause_57
        rw [if_neg (fun z => h40 (z40'.mp z)), if_pos (show (271 : Int32) = 271 from rfl), ht1, if_pos (show (1 : Int32) = nI t0 by rw [t01]; rfl)]
        exact kf64
  · rw [if_neg k1, if_neg k1]
    have full40 : ∀ {k : Nat} {K : Int32}, k < 4 → cN = 40 → BadH m x (rmh y t0 a b q tc he so co we) L e d c o s1 n1 o1 (b_X1_readClause_39 F (nI cN) K (tpa x (nI t) 0) (rmh y t0 a b q tc he so co we)) (b_X9_hallClause_33 F (nI cN) (nI i) (nI k) (ps (hm m ns nc nh nt nr nw) (nI i) 0 e d c o s1 n1 o1)) := fun hk4 h40 => bad4 (by
      unfold b_X1_readClause_39
      rw [if_pos (z40'.mpr h40)]
      exact kf64) (hk_full hk4 (by rw [h40]; exact full_40))
    have full0 : ∀ {k : Nat} {K : Int32}, k < 4 → ¬ nI k = 0 → ¬ K = 271 → cN = 0 → BadH m x (rmh y t0 a b q tc he so co we) L e d c o s1 n1 o1 (b_X1_readClause_39 F (nI cN) K (tpa x (nI t) 0) (rmh y t0 a b q tc he so co we)) (b_X9_hallClause_33 F (nI cN) (nI i) (nI k) (ps (hm m ns nc nh nt nr nw) (nI i) 0 e d c o s1 n1 o1)) := fun hk4 hk0 hK h0 => bad4 (by
      have t00 : t0 = 0 := by omega
      unfold b_X1_readClause_39 b_X1_readClause_57
      rw [if_neg (fun z => absurd (z40'.mp z) (by omega)), if_neg hK, ht1, if_pos (show (0 : Int32) = nI t0 by rw [t00]; rfl)]
      exact kf64) (hk_full hk4 (full_n (fun z => absurd (z40.mp z) (by omega)) (Or.inr ⟨hk0, z0.mpr h0⟩)))
    by_cases k2 : lexK (m.2.1 28) L i = 272
    · obtain ⟨hl, hE, hAt, hlt⟩ := word 12 (by decide) k2
      rw [if_pos k2, if_pos k2, k2]
      by_cases h40 : cN = 40
      · exact Or.inl (full40 (by decide) h40)
      · by_cases h0 : cN = 0
        · exact Or.inl (full0 (by decide) (by decide) (by decide) h0)
        · obtain rfl : t0 = 1 := by omega
          have c57 : b_X1_readClause_39 F (nI cN) 272 (tpa x (nI t) 0) (rmh y 1 a b q tc he so co we) = if (4 : Int32) ≤ nI a then b_X1_readClause_101 F (tpa x (nI t) 0) (rmh y 1 a b q tc he so co we) else b_X1_readClause_85 F 272 (tpa x (nI t) 0) (rmh y 1 a b q tc he so co we) := by
            unfold b_X1_readClause_39 b_X1_readClause_57
            rw [if_neg (fun z => h40 (z40'.mp z)), if_neg (show ¬ (272 : Int32) = 271 by decide), ht1, if_neg (show ¬ (0 : Int32) = nI 1 by decide), if_pos (show (272 : Int32) = 272 from rfl), ha1]
          have fy := full_y (F := F) (k := nI 1) (v := nI cN) (M := ps (hm m ns nc nh nt nr nw) (nI i) 0 e d c o s1 n1 o1) (fun z => h40 (z40.mp z)) (Or.inr ⟨by decide, fun z => h0 (z0.mp z)⟩)
          have ens : (ps (hm m ns nc nh nt nr nw) (nI i) 0 e d c o s1 n1 o1).2.1 12 1 = nI a := hR.1.2.1
          by_cases ha4 : a = 4
          · refine Or.inl (bad4 ?_ (hk_full (by decide) (fy.trans (by
              rw [if_pos (Or.inl ⟨rfl, by rw [ens, ha4]; rfl⟩)]))))
            rw [c57, if_pos (by rw [ha4]; decide)]
            exact kf101
          · have ha4' : a < 4 := by omega
            rw [if_neg (fun u => by
              rcases u with u | u
              · rw [ens] at u
                exact ha4 ((nI_eq (by omega) (by decide)).mp (show nI a = nI 4 from u.2))
              · exact absurd u.1 (by decide))] at fy
            refine (H_up (st_part (p := i + xl 12) hr hF hx hAt hE rfl hR ha4') ?_ (hk_go (w := 12) (by decide) (by decide) (by decide) fy) hlt).imp_right (fun z => ⟨by omega, z⟩)
            rw [c57, if_neg (show ¬ (4 : Int32) ≤ nI a from nI_ge (a := a) (b := 4) ha4' (by decide))]
            unfold b_X1_readClause_85 b_X1_readClause_107
            rw [if_neg (show ¬ (272 : Int32) = 261 by decide), s_skip hx ha hl, bd_some, if_neg (show ¬ (272 : Int32) = 260 by decide), if_neg (show ¬ (272 : Int32) = 261 by decide), if_pos (show (272 : Int32) = 272 from rfl)]
    · rw [if_neg k2, if_neg k2]
      by_cases k3 : lexK (m.2.1 28) L i = 261
      · obtain ⟨hl, hE, hAt, hlt⟩ := word 1 (by decide) k3
        rw [if_pos k3, if_pos k3, k3]
        by_cases h40 : cN = 40
        · exact Or.inl (full40 (by decide) h40)
        · by_cases h0 : cN = 0
          · exact Or.inl (full0 (by decide) (by decide) (by decide) h0)
          · obtain rfl : t0 = 1 := by omega
            have c57 : b_X1_readClause_39 F (nI cN) 261 (tpa x (nI t) 0) (rmh y 1 a b q tc he so co we) = if nI b < 8 then b_X1_readClause_107 F 261 (tpa x (nI t) 0) (rmh y 1 a b q tc he so co we) else b_X1_readClause_101 F (tpa x (nI t) 0) (rmh y 1 a b q tc he so co we) := by
              unfold b_X1_readClause_39 b_X1_readClause_57 b_X1_readClause_85
              rw [if_neg (fun z => h40 (z40'.mp z)), if_neg (show ¬ (261 : Int32) = 271 by decide), ht1, if_neg (show ¬ (0 : Int32) = nI 1 by decide), if_neg (show ¬ (261 : Int32) = 272 by decide), if_pos (show (261 : Int32) = 261 from rfl), hb1]
            have fy := full_y (F := F) (k := nI 2) (v := nI cN) (M := ps (hm m ns nc nh nt nr nw) (nI i) 0 e d c o s1 n1 o1) (fun z => h40 (z40.mp z)) (Or.inr ⟨by decide, fun z => h0 (z0.mp z)⟩)
            have ens : (ps (hm m ns nc nh nt nr nw) (nI i) 0 e d c o s1 n1 o1).2.1 12 2 = nI b := hR.1.2.2.1
            by_cases hb8 : b = 8
            · refine Or.inl (bad4 ?_ (hk_full (by decide) (fy.trans (by
                rw [if_pos (Or.inr ⟨rfl, by rw [ens, hb8]; rfl⟩)]))))
              rw [c57, if_neg (by rw [hb8]; decide)]
              exact kf101
            · have hb8' : b < 8 := by omega
              rw [if_neg (fun u => by
                rcases u with u | u
                · exact absurd u.1 (by decide)
                · rw [ens] at u
                  exact hb8 ((nI_eq (by omega) (by decide)).mp (show nI b = nI 8 from u.2)))] at fy
              refine (H_up (ch_part (p := i + xl 1) hr hF hx hAt hE rfl hR hb8') ?_ (hk_go (w := 1) (by decide) (by decide) (by decide) fy) hlt).imp_right (fun z => ⟨by omega, z⟩)
              rw [c57, if_pos (show nI b < 8 from nI_lt (a := b) (b := 8) hb8' (by decide))]
              unfold b_X1_readClause_107
              rw [s_skip hx ha hl, bd_some, if_neg (show ¬ (261 : Int32) = 260 by decide), if_pos (show (261 : Int32) = 261 from rfl)]
      · rw [if_neg k3, if_neg k3]
        by_cases k4 : lexK (m.2.1 28) L i = 260
        · obtain ⟨hl, hE, hAt, hlt⟩ := word 0 (by decide) k4
          rw [if_pos k4, if_pos k4, k4]
          by_cases h40 : cN = 40
          · exact Or.inl (full40 (by decide) h40)
          · by_cases h0 : cN = 0
            · exact Or.inl (full0 (by decide) (by decide) (by decide) h0)
            · obtain rfl : t0 = 1 := by omega
              have fy := full_y (F := F) (k := nI 3) (v := nI cN) (M := ps (hm m ns nc nh nt nr nw) (nI i) 0 e d c o s1 n1 o1) (fun z => h40 (z40.mp z)) (Or.inr ⟨by decide, fun z => h0 (z0.mp z)⟩)
              rw [if_neg (fun u => by
                rcases u with u | u
                · exact absurd u.1 (by decide)
                · exact absurd u.1 (by decide))] at fy
              refine (H_up (si_part (p := i + xl 0) hr hF hx hAt hE rfl hR) ?_ (hk_go (w := 0) (by decide) (by decide) (by decide) fy) hlt).imp_right (fun z => ⟨by omega, z⟩)
              unfold b_X1_readClause_39 b_X1_readClause_57 b_X1_readClause_85 b_X1_readClause_107
              rw [if_neg (fun z => h40 (z40'.mp z)), if_neg (show ¬ (260 : Int32) = 271 by decide), ht1, if_neg (show ¬ (0 : Int32) = nI 1 by decide), if_neg (show ¬ (260 : Int32) = 272 by decide), if_neg (show ¬ (260 : Int32) = 261 by decide), s_skip hx ha hl, bd_some, if_pos (show (260 : Int32) = 260 from rfl)]
        · rw [if_neg k4, if_neg k4]
          refine Or.inl ⟨1 + 8 * i + 0, i, nI t, ns, nc, nh, nt, nr, nw, by omega, by omega, hi, rfl, ?_⟩
          unfold b_X9_hallClause_33
          rw [if_pos (show nI 4 = 4 from rfl), s_fails, bd_some, if_pos rfl, e0]
end HCB
