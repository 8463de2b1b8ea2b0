/-! the hall, pure: chairs by both -/
theorem nI_m1 {a : Nat} (h : a ≤ 8) : (nI a - 1).toInt = (a : Int) - 1 := (show ∀ a, a < 9 → (nI a - 1).toInt = (a : Int) - 1 from by decide) a (by omega)
theorem nI_nm1 {v : Nat} (h : v < 2 ^ 31) : ¬ nI v = -1 := fun z => by
  have := congrArg Int32.toInt z
  rw [nI_toInt h, show (-1 : Int32).toInt = -1 from by decide] at this
  omega
section HCH
variable {F : Nat} {m x y : OB} {L s n : Nat} {e d c o : Int32} {s1 n1 o1 : Nat → Int32}
variable {t i p a b q : Nat} {tc he so co we ns nc nh nt nr nw : Nat → Int32}
theorem ch_part (hr : RB m L s) (hF : 600 ≤ F) (hx : TX (m.2.1 28) L x n) (ha : At L x n t i) (hp : p ≤ L) (hk : sk (m.2.1 28) L p = i) (hR : HR 1 a b q tc he so co we ns nc nh nt nr nw) (h8 : b < 8) : BadH m x (rmh y 1 a b q tc he so co we) L e d c o s1 n1 o1 (f_X1_readChair F (tpa x (nI t) 0) (rmh y 1 a b q tc he so co we)) (f_X9_hallPart F 2 (ps (hm m ns nc nh nt nr nw) (nI p) 0 e d c o s1 n1 o1)) ∨ GoodH m x y L n i e d c o s1 n1 o1 (f_X1_readChair F (tpa x (nI t) 0) (rmh y 1 a b q tc he so co we)) (f_X9_hallPart F 2 (ps (hm m ns nc nh nt nr nw) (nI p) 0 e d c o s1 n1 o1)) := by
  have hr2 : ∀ ns nc nh nt nr nw : Nat → Int32, RB (hm m ns nc nh nt nr nw) L s := fun _ _ _ _ _ _ => hr
  have ha4 := hR.2.1.1
  have hs1 := hR.1.2.1
  have hs2 := hR.1.2.2.1
  have rf : ∀ (v w : Int32) (p2 f2 p3 f3 : Int32), f_X9_amount F 1 60 (ps (hm m ns nc nh nt nr nw) (nI p) 0 e d c o s1 n1 o1) = some (v, ps (hm m ns nc nh nt nr nw) p2 f2 e d c o s1 n1 o1) → f_X9_amount F 0 (nI a - 1) (ps (hm m ns nc (upd nh b v) nt nr nw) p2 f2 e d c o s1 n1 o1) = some (w, ps (hm m ns nc (upd nh b v) nt nr nw) p3 f3 e d c o s1 n1 o1) → f_X9_hallPart F 2 (ps (hm m ns nc nh nt nr nw) (nI p) 0 e d c o s1 n1 o1) = some (ps (hm m (upd ns 2 (nI (b + 1))) nc (upd nh b v) (upd nt b w) nr nw) p3 f3 e d c o s1 n1 o1) := by
    intro v w p2 f2 p3 f3 hA hB
    unfold f_X9_hallPart b_X9_hallPart_125
    rw [if_neg (show ¬ (2 : Int32) = 0 by decide), if_neg (show ¬ (2 : Int32) = 1 by decide), if_pos rfl, hA, bd_some]
    dsimp only
    rw [show (ps (hm m ns nc nh nt nr nw) (nI p) 0 e d c o s1 n1 o1).2.1 12 = ns from rfl, show (ps (hm m ns nc nh nt nr nw) p2 f2 e d c o s1 n1 o1).2.1 12 = ns from rfl, show (ps (hm m ns nc nh nt nr nw) p2 f2 e d c o s1 n1 o1).2.1 14 = nh from rfl, show Int32.toNatClampNeg 1 = 1 from by decide, show Int32.toNatClampNeg 2 = 2 from by decide, hs1, hs2, if_pos (ib_n (show b < 8 from h8) (by decide)), nI_clamp (by omega), ps_14, hB, bd_some]
    dsimp only
    rw [show (ps (hm m ns nc (upd nh b v) nt nr nw) p3 f3 e d c o s1 n1 o1).2.1 12 = ns from rfl, show (ps (hm m ns nc (upd nh b v) nt nr nw) p3 f3 e d c o s1 n1 o1).2.1 15 = nt from rfl, hs2, nI_1, ps_1215]
  have c1 : ∀ T : OB, f_X7_takeNumber F 1 60 (tpa x (nI t) 0) = some (-1, T) → f_X1_readChair F (tpa x (nI t) 0) (rmh y 1 a b q tc he so co we) = some (0, T, rmh y 1 a b q tc he so co we) := by
    intro T hT
    unfold f_X1_readChair
    rw [hT, bd_some]
    dsimp only
    rw [if_pos rfl]
  have c2 : ∀ (v w : Int32) (T T2 : OB), ¬ v = -1 → f_X7_takeNumber F 1 60 (tpa x (nI t) 0) = some (v, T) → f_X7_takeNumber F 0 (nI a - 1) T = some (w, T2) → f_X1_readChair F (tpa x (nI t) 0) (rmh y 1 a b q tc he so co we) = if w = -1 then some (0, T2, rmh y 1 a b q tc he so co we) else some (1, T2, rmh y 1 a (b + 1) q tc (upd he b v) (upd so b w) co we) := by
    intro v w T T2 hv hT hT2
    unfold f_X1_readChair b_X1_readChair_41
    rw [hT, bd_some]
    dsimp only
    rw [if_neg hv, show (rmh y 1 a b q tc he so co we).1 1 = nI a from rfl, hT2, bd_some]
    dsimp only
    rw [show (rmh y 1 a b q tc he so co we).1 2 = nI b from rfl, show (rmh y 1 a b q tc he so co we).2.1 5 = he from rfl, show (rmh y 1 a b q tc he so co we).2.1 6 = so from rfl, if_pos (show nI b < 8 from nI_lt (b := 8) h8 (by decide)), if_pos (ib_n (show b < 8 from h8) (by decide)), nI_1, nI_clamp (by omega), rmh_ch]
  rcases amt (m := hm m ns nc nh nt nr nw) (lo := 1) (b := 60) (e := e) (d := d) (c := c) (o := o) (so := s1) (nu := n1) (op := o1) (hr2 _ _ _ _ _ _) hF hx ha hp hk (by decide) with ⟨φ, p2, v, h1, h2, h3, h5, h6⟩ | ⟨v, p2, h1, h2, h3, h5, h6, h7, h9, h10⟩
  · have hg := g_amount (F := F) (m := hm m ns nc (upd nh b v) nt nr nw) (p := p2) (f := nI φ) (lo := 0) (b := nI a - 1) (e := e) (d := d) (c := c) (o := o) (s1 := s1) (n1 := n1) (o1 := o1) (hr2 _ _ _ _ _ _) hF (nI_ne0 h1 (by omega)) h3
    exact Or.inl ⟨φ, sk (m.2.1 28) L p2, nI t, _, _, _, _, _, _, h1, h2, sk_le h3, c1 _ h5, rf v 0 _ _ _ _ h6 hg⟩
  · have hv : v ≤ 60 := by
      rw [nI_toInt (by omega), show (60 : Int32).toInt = 60 from by decide] at h2
      omega
    rcases amt (m := hm m ns nc (upd nh b (nI v)) nt nr nw) (lo := 0) (b := nI a - 1) (e := e) (d := d) (c := c) (o := o) (so := s1) (nu := n1) (op := o1) (hr2 _ _ _ _ _ _) hF hx h7 h6 rfl (by decide) with ⟨φ, p3, w, g1, g2, g3, g5, g6⟩ | ⟨w, p3, g1, g2, g3, g5, g6, g7, g9, g10⟩
    · refine Or.inl ⟨φ, p3, nI (t + 1), _, _, _, _, _, _, g1, g2, g3, ?_, rf _ w _ _ _ _ h10 g6⟩
      rw [c2 _ _ _ _ (nI_nm1 (by omega)) h9 g5, if_pos rfl]
    · have hw : w < a := by
        rw [nI_toInt (by omega), nI_m1 (by omega)] at g2
        omega
      have k1 := sk_ge (B := m.2.1 28) h6
      have k2 := sk_ge (B := m.2.1 28) g6
      refine Or.inr ⟨t + 1 + 1, sk (m.2.1 28) L p3, p3, a, b + 1, q, _, _, _, _, _, _, _, _, _, _, _, g7, ?_, g6, rfl, hR.chair h8 h1 hv hw, ?_, rf _ _ _ _ _ _ h10 g10⟩
      · have : sk (m.2.1 28) L p2 < p3 := g5
        omega
      · rw [c2 _ _ _ _ (nI_nm1 (by omega)) h9 g9, if_neg (nI_nm1 (by omega))]
end HCH
