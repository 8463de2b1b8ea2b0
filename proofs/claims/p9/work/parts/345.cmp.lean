/-! a comparison, pure: both readers -/
noncomputable def kc (B : Nat → Int32) (L i : Nat) : Int32 := if cb B L i = 61 then 6 else if cb B L i = 60 then (if cb B L (i + 1) = 61 then 5 else 4) else (if cb B L (i + 1) = 61 then 7 else 8)
abbrev sg (B : Nat → Int32) (L i : Nat) : Prop := cb B L i = 60 ∨ cb B L i = 61 ∨ cb B L i = 62
theorem sg_K {B : Nat → Int32} {L i : Nat} (h : sg B L i) : i < L ∧ lexK B L i = tr (kc B L i) 0 ∧ VE (kc B L i) 0 ∧ cmK (tr (kc B L i) 0) ∧ (lexK B L i = 60 ∨ lexK B L i = 256 ∨ lexK B L i = 61 ∨ lexK B L i = 257 ∨ lexK B L i = 62) ∧ lexE B L i = if cb B L i = 61 then i + 1 else if cb B L (i + 1) = 61 then i + 2 else i + 1 := by
  have hl : i < L := by
    by_cases z : i < L
    · exact z
    · rw [sg, cb_out (by omega)] at h
      exact absurd h (by decide)
  have nl : ∀ c : Int32, ¬ isL c → ¬ isD c → cb B L i = c → lB B L i ≠ true ∧ dB B L i ≠ true := fun c h1 h2 e => ⟨fun q => h1 (e ▸ of_decide_eq_true q), fun q => h2 (e ▸ of_decide_eq_true q)⟩
  refine ⟨hl, ?_⟩
  unfold kc lexK lexE
  rcases h with h | h | h
  · obtain ⟨a, b⟩ := nl 60 (by decide) (by decide) h
    rw [if_neg a, if_neg b, if_neg a, if_neg b, h, if_neg (show ¬ (60 : Int32) = 61 by decide), if_pos rfl, if_neg (show ¬ (60 : Int32) = 61 by decide), if_pos rfl]
    by_cases q : cb B L (i + 1) = 61
    · rw [if_pos q, if_pos ⟨Or.inl rfl, q⟩, if_pos ⟨Or.inl rfl, q⟩, if_pos q]
      exact ⟨by decide, VE_lit (q := 5) (by decide) rfl, by decide, Or.inr (Or.inl rfl), rfl⟩
    · rw [if_neg q, if_neg (fun z => q z.2), if_neg (fun z => q z.2), if_neg q]
      exact ⟨by decide, VE_lit (q := 4) (by decide) rfl, by decide, Or.inl rfl, rfl⟩
  · obtain ⟨a, b⟩ := nl 61 (by decide) (by decide) h
    rw [if_neg a, if_neg b, if_neg a, if_neg b, h, if_pos rfl, if_pos rfl, if_neg (fun z => absurd z.1 (by decide)), if_neg (fun z => absurd z.1 (by decide))]
    exact ⟨by decide, VE_lit (q := 6) (by decide) rfl, by decide, Or.inr (Or.inr (Or.inl rfl)), rfl⟩
  · obtain ⟨a, b⟩ := nl 62 (by decide) (by decide) h
    rw [if_neg a, if_neg b, if_neg a, if_neg b, h, if_neg (show ¬ (62 : Int32) = 61 by decide), if_neg (show ¬ (62 : Int32) = 60 by decide), if_neg (show ¬ (62 : Int32) = 61 by decide), if_neg (show ¬ (62 : Int32) = 60 by decide)]
    by_cases q : cb B L (i + 1) = 61
    · rw [if_pos q, if_pos ⟨Or.inr rfl, q⟩, if_pos ⟨Or.inr rfl, q⟩, if_pos q]
      exact ⟨by decide, VE_lit (q := 7) (by decide) rfl, by decide, Or.inr (Or.inr (Or.inr (Or.inl rfl))), rfl⟩
    · rw [if_neg q, if_neg (fun z => q z.2), if_neg (fun z => q z.2), if_neg q]
      exact ⟨by decide, VE_lit (q := 8) (by decide) rfl, by decide, Or.inr (Or.inr (Or.inr (Or.inr rfl))), rfl⟩
theorem sg_no {B : Nat → Int32} {L i : Nat} (h : ¬ sg B L i) : ¬ lexK B L i = 60 ∧ ¬ lexK B L i = 256 ∧ ¬ lexK B L i = 61 ∧ ¬ lexK B L i = 257 ∧ ¬ lexK B L i = 62 := by
  have n60 : ¬ cb B L i = 60 := fun q => h (Or.inl q)
  have n61 : ¬ cb B L i = 61 := fun q => h (Or.inr (Or.inl q))
  have n62 : ¬ cb B L i = 62 := fun q => h (Or.inr (Or.inr q))
  unfold lexK
  by_cases h1 : lB B L i = true
  · rw [if_pos h1]
    rcases kw_r (B := B) (L := L) (i := i) (j := re (lB B L) L i) 18 (Nat.le_refl _) with q | ⟨w, hw, _, q⟩
    · rw [q]
      decide
    · rw [q]
      exact (show ∀ w, w < 18 → ¬ nI (260 + w) = (60 : Int32) ∧ ¬ nI (260 + w) = (256 : Int32) ∧ ¬ nI (260 + w) = (61 : Int32) ∧ ¬ nI (260 + w) = (257 : Int32) ∧ ¬ nI (260 + w) = (62 : Int32) from by decide) w hw
  · rw [if_neg h1]
    by_cases h2 : dB B L i = true
    · rw [if_pos h2]
      decide
    · rw [if_neg h2, if_neg (fun z => z.1.elim n60 n62)]
      have hr := cb_r B L i
      refine ⟨n60, fun q => ?_, n61, fun q => ?_, n62⟩
      · rw [q] at hr
        exact absurd hr (by decide)
      · rw [q] at hr
        exact absurd hr (by decide)
section CM
variable {F : Nat} {m x y : OB} {L s n : Nat} {d o : Int32} {op : Nat → Int32}
theorem r_cmp {i : Nat} {f e c : Int32} {so nu : Nat → Int32} (hr : RB m L s) (h : sg (m.2.1 28) L i) : b_X9_compared_37 F (cb (m.2.1 28) L i) (ps m (nI i) f e d c o so nu op) = (f_X9_sum F (ps m (nI (lexE (m.2.1 28) L i)) (if c = 60 ∧ f = 0 then 1 + 8 * nI i + 3 else f) e d (c + 1) o so nu op)).bind fun q => (f_X9_entry F (kc (m.2.1 28) L i) 0 q).bind fun q => some q := by
  have h4 := hr.2.1
  obtain ⟨hl, _, _, _, _, hE⟩ := sg_K h
  rw [hE]
  unfold b_X9_compared_37 b_X9_compared_74 b_X9_compared_75 b_X9_compared_90 b_X9_compared_139 kc
  rw [show (ps m (nI i) f e d c o so nu op).1 19 = nI i from rfl, s_counted, bd_some]
  have e19 : ∀ (pp f c : Int32), (ps m pp f e d c o so nu op).1 19 = pp := fun _ _ _ => rfl
  rw [e19, nI_1, ps_p, s_sign hr (by omega), e19, nI_1]
  have z0 : nI (i + 1) + 0 = nI (i + 1) := nI_add _ 0
  have n61 : ¬ (60 : Int32) = 61 := by decide
  have n62 : ¬ (62 : Int32) = 61 := by decide
  have n60 : ¬ (62 : Int32) = 60 := by decide
  have n1 : ¬ (1 : Int32) = 0 := by decide
  rcases h with h | h | h
  · rw [h, if_neg n61, if_neg n61, if_neg n61, bd_some, if_pos (rfl : (60 : Int32) = 60)]
    by_cases q : cb (m.2.1 28) L (i + 1) = 61
    · rw [if_pos q, if_pos q, if_pos q, if_neg n1, ps_p]
      refine congrArg (Option.bind _) (funext fun q2 => ?_)
      rw [if_neg n61, if_pos (rfl : (60 : Int32) = 60), if_neg n1]
    · rw [if_neg q, if_neg q, if_neg q, if_pos (rfl : (0 : Int32) = 0), z0, ps_p]
      refine congrArg (Option.bind _) (funext fun q2 => ?_)
      rw [if_neg n61, if_pos (rfl : (60 : Int32) = 60), if_pos (rfl : (0 : Int32) = 0)]
  · rw [h, if_pos (rfl : (61 : Int32) = 61), if_pos (rfl : (61 : Int32) = 61), if_pos (rfl : (61 : Int32) = 61), if_pos (rfl : (0 : Int32) = 0), z0, ps_p]
    refine congrArg (Option.bind _) (funext fun q2 => ?_)
    rw [if_pos (rfl : (61 : Int32) = 61)]
  · rw [h, if_neg n62, if_neg n62, if_neg n62, bd_some, if_neg n60]
    by_cases q : cb (m.2.1 28) L (i + 1) = 61
    · rw [if_pos q, if_pos q, if_pos q, if_neg n1, ps_p]
      refine congrArg (Option.bind _) (funext fun q2 => ?_)
      rw [if_neg n62, if_neg n60, if_neg n1]
    · rw [if_neg q, if_neg q, if_neg q, if_pos (rfl : (0 : Int32) = 0), z0, ps_p]
      refine congrArg (Option.bind _) (funext fun q2 => ?_)
      rw [if_neg n62, if_neg n60, if_pos (rfl : (0 : Int32) = 0)]
theorem r_comp {mo : OB} {i : Nat} {f e c : Int32} {so nu : Nat → Int32} (hr : RB m L s) (hi : i ≤ L) (h : f_X9_sum F mo = some (ps m (nI i) f e d c o so nu op)) : f_X9_compared F mo = if sg (m.2.1 28) L i then ((f_X9_sum F (ps m (nI (lexE (m.2.1 28) L i)) (if c = 60 ∧ f = 0 then 1 + 8 * nI i + 3 else f) e d (c + 1) o so nu op)).bind fun q => (f_X9_entry F (kc (m.2.1 28) L i) 0 q).bind fun q => some q) else some (ps m (nI i) (if f = 0 then 1 + 8 * nI i + 0 else f) e d c o so nu op) := by
  have h4 := hr.2.1
  unfold f_X9_compared
  rw [h, bd_some, s_sign hr (by omega), bd_some]
  by_cases h1 : cb (m.2.1 28) L i = 60
  · rw [if_pos h1, if_pos (Or.inl h1), r_cmp hr (Or.inl h1)]
  · rw [if_neg h1]
    by_cases h2 : cb (m.2.1 28) L i = 61
    · rw [if_pos h2, if_pos (Or.inr (Or.inl h2)), r_cmp hr (Or.inr (Or.inl h2))]
    · rw [if_neg h2]
      by_cases h3 : cb (m.2.1 28) L i = 62
      · rw [if_pos h3, if_pos (Or.inr (Or.inr h3)), r_cmp hr (Or.inr (Or.inr h3))]
      · rw [if_neg h3, if_neg (fun z => z.elim h1 (fun z => z.elim h2 h3)), show (ps m (nI i) f e d c o so nu op).1 19 = nI i from rfl, s_fails, bd_some]
/-- a comparison that is read by both -/
noncomputable def GoodC (m x y : OB) (L s n i u len : Nat) (d o : Int32) (op st so nu : Nat → Int32) (rc : Option (Int32 × OB × OB)) (rr : Option OB) : Prop := ∃ (i2 t2 u2 len2 : Nat) (st2 so2 nu2 : Nat → Int32), At L x n t2 i2 ∧ i < i2 ∧ u + 3 ≤ u2 ∧ u2 ≤ 60 ∧ len2 + 3 ≤ len + 2 * (u2 - u) ∧ len < len2 ∧ CE s len2 st2 so2 nu2 ∧ FrS s so so2 ∧ FrS s nu nu2 ∧ (∀ j, j < len → st2 j = st j) ∧ Seg false st2 len len2 1 ∧ rc = some (1, tpa x (nI t2) 0, rus y (nI len2) (nI u2) st2) ∧ rr = some (ps m (nI i2) 0 (nI len2) d (nI u2) o so2 nu2 op)
theorem cmp_all {i t p u len : Nat} {st so nu : Nat → Int32} (hr : RB m L s) (hF : 600 ≤ F) (hx : TX (m.2.1 28) L x n) (ha : At L x n t i) (hp : p ≤ L) (hk : sk (m.2.1 28) L p = i) (hu : u ≤ 60) (hc : CE s len st so nu) (hb : 3 * len ≤ 14 * u + 36) : Bad m x L s d o op so nu (f_X5_readComparison F (tpa x (nI t) 0) (rus y (nI len) (nI u) st)) (f_X9_compared F (ps m (nI p) 0 (nI len) d (nI u) o so nu op)) ∨ GoodC m x y L s n i u len d o op st so nu (f_X5_readComparison F (tpa x (nI t) 0) (rus y (nI len) (nI u) st)) (f_X9_compared F (ps m (nI p) 0 (nI len) d (nI u) o so nu op)) := by
  have h4 := hr.2.1
  unfold f_X5_readComparison
  rcases sum_all (y := y) (d := d) (o := o) (op := op) hr hF hx ha hp hk hu hc hb with hq | hq
  · obtain ⟨φ, p2, e2, c2, t2, so2, nu2, ru2, a1, a2, a3, a4, a5, a6, a7⟩ := hq
    have hφ : ¬ nI φ = 0 := nI_ne0 a1 (by omega)
    have hz : ¬ (c2 = 60 ∧ nI φ = 0) := fun z => hφ z.2
    rw [a6, bd_some, if_pos rfl, r_comp hr a3 a7, if_neg hz, if_neg hφ]
    by_cases hs : sg (m.2.1 28) L p2
    · rw [if_pos hs]
      have hl := (sg_K hs).1
      obtain ⟨p3, c3, g1, g2⟩ := g_sum (d := d) (o := o) (op := op) (e := e2) (c := c2 + 1) (so := so2) (nu := nu2) hr hF hφ (lexE_gt (B := m.2.1 28) hl).2
      rw [g2, bd_some, g_entry hφ, bd_some]
      exact Or.inl ⟨φ, p3, e2, c3, t2, so2, nu2, ru2, a1, a2, g1, a4, a5, rfl, rfl⟩
    · rw [if_neg hs]
      exact Or.inl ⟨φ, p2, e2, c2, t2, so2, nu2, ru2, a1, a2, a3, a4, a5, rfl, rfl⟩
  · obtain ⟨i1, t1, u1, len1, st1, so1, nu1, a1, a2, a3, a4, a5, a6, a7, a8, a9, a10, a11, a12, a13⟩ := hq
    have hi1 := a1.2.1
    rw [a12, bd_some, r_comp hr hi1 a13]
    try dsimp only
    rw [if_neg (show ¬ (1 : Int32) = 0 by decide), s_kind hx a1, bd_some]
    by_cases hs : sg (m.2.1 28) L i1
    · obtain ⟨hl, hK, hV, hB, hS, hE⟩ := sg_K hs
      have hE2 := lexE_gt (B := m.2.1 28) hl
      have hA := (a1.at hx).2.2.2 hl
      have hsk := sk_ge (B := m.2.1 28) hE2.2
      rw [if_pos hs]
      have cl : (if lexK (m.2.1 28) L i1 = 60 then b_X5_readComparison_53 F (lexK (m.2.1 28) L i1) (tpa x (nI t1) 0) (rus y (nI len1) (nI u1) st1) else if lexK (m.2.1 28) L i1 = 256 then b_X5_readComparison_53 F (lexK (m.2.1 28) L i1) (tpa x (nI t1) 0) (rus y (nI len1) (nI u1) st1) else if lexK (m.2.1 28) L i1 = 61 then b_X5_readComparison_53 F (lexK (m.2.1 28) L i1) (tpa x (nI t1) 0) (rus y (nI len1) (nI u1) st1) else if lexK (m.2.1 28) L i1 = 257 then b_X5_readComparison_53 F (lexK (m.2.1 28) L i1) (tpa x (nI t1) 0) (rus y (nI len1) (nI u1) st1) else if lexK (m.2.1 28) L i1 = 62 then b_X5_readComparison_53 F (lexK (m.2.1 28) L i1) (tpa x (nI t1) 0) (rus y (nI len1) (nI u1) st1) else (Option.bind (f_X7_fail F 0 (tpa x (nI t1) 0)) (fun q16 => (if bo q16.1 then (some (q16.1, q16.2, rus y (nI len1) (nI u1) st1)) else none)))) = b_X5_readComparison_53 F (lexK (m.2.1 28) L i1) (tpa x (nI t1) 0) (rus y (nI len1) (nI u1) st1) := by
        by_cases k1 : lexK (m.2.1 28) L i1 = 60
        · rw [if_pos k1]
        · rw [if_neg k1]
          by_cases k2 : lexK (m.2.1 28) L i1 = 256
          · rw [if_pos k2]
          · rw [if_neg k2]
            by_cases k3 : lexK (m.2.1 28) L i1 = 61
            · rw [if_pos k3]
            · rw [if_neg k3]
              by_cases k4 : lexK (m.2.1 28) L i1 = 257
              · rw [if_pos k4]
              · rw [if_neg k4]
                by_cases k5 : lexK (m.2.1 28) L i1 = 62
                · rw [if_pos k5]
                · exact absurd hS (fun z => z.elim k1 (fun z => z.elim k2 (fun z => z.elim k3 (fun z => z.elim k4 k5))))
      rw [cl]
      unfold b_X5_readComparison_53
      rw [show (rus y (nI len1) (nI u1) st1).1 7 = nI u1 from rfl, nI_1, rus_u]
      by_cases h6 : u1 < 60
      · rw [if_pos ((l60 (by omega)).mpr h6), s_skip hx a1 hl, bd_some, if_neg (show ¬ (nI u1 = 60 ∧ (0 : Int32) = 0) from fun z => by have := (c60 (by omega)).mp z.1; omega)]
        rcases sum_all (y := y) (d := d) (o := o) (op := op) hr hF hx hA hE2.2 rfl (show u1 + 1 ≤ 60 by omega) a7 (show 3 * len1 ≤ 14 * (u1 + 1) + 36 by omega) with hq | hq
        · obtain ⟨φ, p2, e2, c2, t2, so2, nu2, ru2, b1, b2, b3, b4, b5, b6, b7⟩ := hq
          rw [b6, bd_some, if_pos rfl, b7, bd_some, g_entry (nI_ne0 b1 (by omega)), bd_some]
          exact Or.inl ⟨φ, p2, e2, c2, t2, so2, nu2, ru2, b1, b2, b3, a8.tr b4, a9.tr b5, rfl, rfl⟩
        · obtain ⟨i2, t2, u2, len2, st2, so2, nu2, b1, b2, b3, b4, b5, b6, b7, b8, b9, b10, b11, b12, b13⟩ := hq
          rw [b12, bd_some, b13, bd_some]
          try dsimp only
          rw [if_neg (show ¬ (1 : Int32) = 0 by decide), s_add (by omega), bd_some, s_entry hr (by omega), bd_some, hK]
          have hseg : Seg true st2 len len2 2 := (a11.cg (fun j _ hj => b10 j hj)).tr b11
          exact Or.inr ⟨i2, t2, u2, len2 + 1, upd st2 len2 (tr (kc (m.2.1 28) L i1) 0), upd so2 (300 * s + len2) (kc (m.2.1 28) L i1), upd nu2 (300 * s + len2) 0, b1, by omega, by omega, b4, by omega, by omega, b7.app hV rfl, (a8.tr b8).up (by omega), (a9.tr b9).up (by omega), fun j hj => by rw [pk_un (by omega), b10 j (by omega), a10 j hj], Seg.c hseg hB, rfl, rfl⟩
      · have hu6 : u1 = 60 := by omega
        have e1 : (1 : Int32) + 8 * nI i1 + 3 = nI (1 + 8 * i1 + 3) := flt (k := 3)
        rw [if_neg (fun z => h6 ((l60 (by omega)).mp z)), if_pos ⟨(c60 (by omega)).mpr hu6, rfl⟩, e1, show Option.bind (f_X7_fail F 3 (tpa x (nI t1) 0)) (fun q6 => if bo q6.1 then some (q6.1, q6.2, rus y (nI len1) (nI u1) st1) else none) = some (0, tpa x (nI t1) (nI (1 + 8 * i1 + 3)), rus y (nI len1) (nI u1) st1) from c_bad (k := 3) hx a1]
        have hφ : ¬ nI (1 + 8 * i1 + 3) = 0 := nI_ne0 (by omega) (by omega)
        obtain ⟨p3, c3, g1, g2⟩ := g_sum (d := d) (o := o) (op := op) (e := nI len1) (c := nI (u1 + 1)) (so := so1) (nu := nu1) hr hF hφ hE2.2
        rw [g2, bd_some, g_entry hφ, bd_some]
        exact Or.inl ⟨_, p3, _, c3, nI t1, so1, nu1, _, by omega, by omega, g1, a8, a9, rfl, rfl⟩
    · obtain ⟨k1, k2, k3, k4, k5⟩ := sg_no hs
      rw [if_neg k1, if_neg k2, if_neg k3, if_neg k4, if_neg k5, if_neg hs, if_pos rfl]
      have e1 : (1 : Int32) + 8 * nI i1 + 0 = nI (1 + 8 * i1 + 0) := flt (k := 0)
      rw [e1, show Option.bind (f_X7_fail F 0 (tpa x (nI t1) 0)) (fun q16 => if bo q16.1 then some (q16.1, q16.2, rus y (nI len1) (nI u1) st1) else none) = some (0, tpa x (nI t1) (nI (1 + 8 * i1 + 0)), rus y (nI len1) (nI u1) st1) from c_bad (k := 0) hx a1]
      exact Or.inl ⟨_, i1, _, _, nI t1, so1, nu1, _, by omega, by omega, hi1, a8, a9, rfl, rfl⟩
end CM
