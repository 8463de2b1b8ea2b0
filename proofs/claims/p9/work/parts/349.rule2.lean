/-! a rule, pure: the clauses, the end -/
noncomputable def ClT (s c len : Nat) (st sf su te sa ta ea : Nat → Int32) : Prop := ∀ j, j < c → ∃ a b d : Nat, sf j = nI a ∧ su j = nI b ∧ te j = nI d ∧ sa (12 * s + j) = nI a ∧ ta (12 * s + j) = nI b ∧ ea (12 * s + j) = nI d ∧ a < b ∧ b ≤ d ∧ d ≤ len ∧ Seg true st a b 1 ∧ (b < d → Seg false st b d 1)
noncomputable def Fr12 (s : Nat) (f g : Nat → Int32) : Prop := ∀ j, j < 12 * s ∨ 12 * s + 12 ≤ j → g j = f j
theorem Fr12.rf {s : Nat} {f : Nat → Int32} : Fr12 s f f := fun _ _ => rfl
theorem Fr12.tr {s : Nat} {f g h : Nat → Int32} (a : Fr12 s f g) (b : Fr12 s g h) : Fr12 s f h := fun j q => (b j q).trans (a j q)
theorem Fr12.up {s n : Nat} {f g : Nat → Int32} {v : Int32} (a : Fr12 s f g) (hn : n < 12) : Fr12 s f (upd g (12 * s + n) v) := fun j q => by
  rw [pk_un (by omega)]
  exact a j q
theorem ClT.app {s c len len2 la lb : Nat} {st st2 sf su te sa ta ea : Nat → Int32} (h : ClT s c len st sf su te sa ta ea) (hst : ∀ j, j < len → st2 j = st j) (h1 : la < lb) (h2 : lb ≤ len2) (hl : len ≤ la) (hs : Seg true st2 la lb 1) (ht : lb < len2 → Seg false st2 lb len2 1) : ClT s (c + 1) len2 st2 (upd sf c (nI la)) (upd su c (nI lb)) (upd te c (nI len2)) (upd sa (12 * s + c) (nI la)) (upd ta (12 * s + c) (nI lb)) (upd ea (12 * s + c) (nI len2)) := by
  intro j hj
  by_cases e : j = c
  · subst e
    exact ⟨la, lb, len2, pk_us, pk_us, pk_us, pk_us, pk_us, pk_us, h1, h2, Nat.le_refl _, hs, ht⟩
  · obtain ⟨a, b, d, q1, q2, q3, q4, q5, q6, q7, q8, q9, q10, q11⟩ := h j (by omega)
    refine ⟨a, b, d, ?_, ?_, ?_, ?_, ?_, ?_, q7, q8, by omega, q10.cg (fun k _ hk => hst k (by omega)), fun z => (q11 z).cg (fun k _ hk => hst k (by omega))⟩
    · rw [pk_un e]; exact q1
    · rw [pk_un e]; exact q2
    · rw [pk_un e]; exact q3
    · rw [pk_un (by omega)]; exact q4
    · rw [pk_un (by omega)]; exact q5
    · rw [pk_un (by omega)]; exact q6
noncomputable def finR (M : OB) (s : Nat) (n r : Int32) : OB := (uF (uF M.1 18 0) 22 r, uF M.2.1 31 (upd (M.2.1 31) s n), M.2.2)
section RL
variable {F : Nat} {m x y : OB} {L s n : Nat}
theorem r_end0 {g : Nat} {k : Int32} {M : OB} (h21 : M.1 21 = nI s) (hs : s < 6) (h22 : M.1 22 = nI s) (hf : M.1 20 = 0) : lp (b_X9_rule_27 F) (g + 1) (k, 0, M) = some (nI s, finR M s k (nI (s + 1))) := by
  rw [lp_S, b_X9_rule_27]
  unfold b_X9_rule_79 b_X9_rule_106
  try dsimp only
  rw [if_pos rfl, h21, if_pos (ib_n hs (by decide)), hf, if_pos rfl, if_pos (show (uF M.1 18 0) 20 ≤ 0 from by
    show M.1 20 ≤ 0
    rw [hf]
    decide), h22, nI_1, nI_pred, nI_clamp (by omega)]
  rfl
theorem r_endφ {g φ : Nat} {k : Int32} {M : OB} (h21 : M.1 21 = nI s) (hs : s < 6) (h22 : M.1 22 = nI s) (hf : M.1 20 = nI φ) (h0 : 0 < φ) (h4 : φ < 4000) : lp (b_X9_rule_27 F) (g + 1) (k, 0, M) = some (-2 - nI φ, finR M s k (nI s)) := by
  rw [lp_S, b_X9_rule_27]
  unfold b_X9_rule_79 b_X9_rule_106
  try dsimp only
  rw [if_pos rfl, h21, if_pos (ib_n hs (by decide)), hf, if_neg (nI_ne0 h0 (by omega)), if_neg (show ¬ (uF M.1 18 0) 20 ≤ 0 from by
    show ¬ M.1 20 ≤ 0
    rw [hf]
    exact nI_nle h0 (by omega)), show (uF M.1 18 0) 20 = M.1 20 from rfl, hf, h22, show nI s + 0 = nI s from nI_add _ 0, nI_clamp (by omega)]
  rfl
theorem s_blanksO {p : Nat} {f e d c o : Int32} {so nu op : Nat → Int32} (hr : RB m L s) (hF : 600 ≤ F) (hp : p = L + 1) : f_X9_blanks F (ps m (nI p) f e d c o so nu op) = some (ps m (nI p) f e d c o so nu op) := by
  have h4 := hr.2.1
  obtain ⟨g, rfl⟩ : ∃ g, F = g + 1 := ⟨F - 1, by omega⟩
  unfold f_X9_blanks
  rw [lp_S, b_X9_blanks_0, s_sign hr (by omega), bd_some, cb_out (by omega), if_neg (by decide)]
theorem g_goes {p : Nat} {f e d c o : Int32} {so nu op : Nat → Int32} (hr : RB m L s) (hF : 600 ≤ F) (hf : ¬ f = 0) (hp : p ≤ L + 1) : ∃ p2 : Int32, f_X9_goesOn F (ps m (nI p) f e d c o so nu op) = some (0, ps m p2 f e d c o so nu op) := by
  have tail : ∀ pp : Int32, (if (ps m pp f e d c o so nu op).1 20 = 0 then (if (ps m pp f e d c o so nu op).1 18 ≤ (ps m pp f e d c o so nu op).1 19 then (b_X9_goesOn_40 F (ps m pp f e d c o so nu op)) else (Option.bind (f_X9_sign F (ps m pp f e d c o so nu op)) (fun q7 => (if q7 = 59 then (b_X9_goesOn_40 F (ps m pp f e d c o so nu op)) else (Option.bind (f_X9_fails F 0 ((ps m pp f e d c o so nu op).1 19) (ps m pp f e d c o so nu op)) (fun q9 => (b_X9_goesOn_40 F q9))))))) else (b_X9_goesOn_40 F (ps m pp f e d c o so nu op))) = some (0, ps m (pp + 1) f e d c o so nu op) := fun pp => by
    rw [show (ps m pp f e d c o so nu op).1 20 = f from rfl, if_neg hf]
    unfold b_X9_goesOn_40 b_X9_goesOn_62 b_X9_goesOn_63
    rw [show (ps m pp f e d c o so nu op).1 20 = f from rfl, if_neg hf, if_pos (Or.inl rfl), show (ps m pp f e d c o so nu op).1 19 = pp from rfl, ps_p]
  unfold f_X9_goesOn
  by_cases h : p ≤ L
  · rw [s_blanks hr hF h, bd_some]
    exact ⟨_, tail _⟩
  · rw [s_blanksO hr hF (by omega), bd_some]
    exact ⟨_, tail _⟩
theorem s_goes {p i : Nat} {e d c o : Int32} {so nu op : Nat → Int32} (hr : RB m L s) (hF : 600 ≤ F) (hp : p ≤ L) (hk : sk (m.2.1 28) L p = i) : f_X9_goesOn F (ps m (nI p) 0 e d c o so nu op) = if i = L then some (0, ps m (nI (i + 1)) 0 e d c o so nu op) else if cb (m.2.1 28) L i = 59 then some (1, ps m (nI (i + 1)) 0 e d c o so nu op) else some (0, ps m (nI (i + 1)) (1 + 8 * nI i + 0) e d c o so nu op) := by
  have h4 := hr.2.1
  have hi : i ≤ L := hk ▸ sk_le (B := m.2.1 28) hp
  have e18 : ∀ f : Int32, (ps m (nI i) f e d c o so nu op).1 18 = nI L := fun _ => hr.1
  have e19 : ∀ f : Int32, (ps m (nI i) f e d c o so nu op).1 19 = nI i := fun _ => rfl
  have e20 : ∀ f : Int32, (ps m (nI i) f e d c o so nu op).1 20 = f := fun _ => rfl
  unfold f_X9_goesOn
  rw [s_blanks hr hF hp, bd_some, hk, e20, if_pos rfl, e18, e19]
  by_cases h1 : i = L
  · rw [if_pos (nI_le (by omega) (by omega)), if_pos h1]
    unfold b_X9_goesOn_40 b_X9_goesOn_62 b_X9_goesOn_63
    rw [e20, if_pos rfl, e18, e19, if_pos (nI_le (by omega) (by omega)), if_pos (Or.inl rfl), nI_1, ps_p]
  · rw [if_neg (nI_ge (by omega) (by omega)), if_neg h1, s_sign hr (by omega), bd_some]
    by_cases h2 : cb (m.2.1 28) L i = 59
    · rw [if_pos h2, if_pos h2]
      unfold b_X9_goesOn_40 b_X9_goesOn_62 b_X9_goesOn_63
      rw [e20, if_pos rfl, e18, e19, if_neg (nI_ge (by omega) (by omega)), if_pos (Or.inr rfl), nI_1, ps_p]
    · rw [if_neg h2, if_neg h2, s_fails, bd_some, if_pos rfl]
      have e1 : (1 : Int32) + 8 * nI i + 0 = nI (1 + 8 * i + 0) := flt (k := 0)
      unfold b_X9_goesOn_40 b_X9_goesOn_62 b_X9_goesOn_63
      rw [e20, e1, if_neg (nI_ne0 (by omega) (by omega)), if_pos (Or.inl rfl), e19, nI_1, ps_p]
end RL
