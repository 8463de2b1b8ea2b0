/-! the hall, pure: its words by both; rooms while they are read -/
section HAL
variable {F : Nat} {m x : OB} {L s n : Nat} {e d c o : Int32} {so nu op : Nat → Int32}
theorem h_word1 {g i k w : Nat} {v : Int32} {f : Int32} (hr : RB m L s) (hF : 600 ≤ F) (hi : i ≤ L) (hk : k < 4) (hw : wdH (nI k) = w) (h18 : w < 18) : lp (b_X9_hallClause_11 F) (g + 1) (v, nI i, nI k, ps m (nI i) f e d c o so nu op) = if lexK (m.2.1 28) L i = nI (260 + w) then b_X9_hallClause_33 F v (nI i) (nI k) (ps m (nI i) f e d c o so nu op) else lp (b_X9_hallClause_11 F) g (v, nI i, nI (k + 1), ps m (nI i) f e d c o so nu op) := by
  rw [lp_S, b_X9_hallClause_11]
  dsimp only
  rw [if_neg (show ¬ (4 : Int32) ≤ nI k from nI_ge (a := k) (b := 4) hk (by decide)), hw, s_stood hr hF hi h18 (xl_pos h18), bd_some]
  by_cases h : isW (m.2.1 28) L i (re (lB (m.2.1 28) L) L i) w = true
  · rw [if_pos h, if_neg (show ¬ (1 : Int32) = 0 by decide), if_pos ((lexK_w h18).mpr h)]
  · rw [if_neg h, if_pos rfl, if_neg (fun q => h ((lexK_w h18).mp q)), nI_1]
theorem h_words {g i : Nat} {v f : Int32} (hr : RB m L s) (hF : 600 ≤ F) (hi : i ≤ L) (hg : 5 ≤ g) : lp (b_X9_hallClause_11 F) g (v, nI i, nI 0, ps m (nI i) f e d c o so nu op) = if lexK (m.2.1 28) L i = 271 then b_X9_hallClause_33 F v (nI i) (nI 0) (ps m (nI i) f e d c o so nu op) else if lexK (m.2.1 28) L i = 272 then b_X9_hallClause_33 F v (nI i) (nI 1) (ps m (nI i) f e d c o so nu op) else if lexK (m.2.1 28) L i = 261 then b_X9_hallClause_33 F v (nI i) (nI 2) (ps m (nI i) f e d c o so nu op) else if lexK (m.2.1 28) L i = 260 then b_X9_hallClause_33 F v (nI i) (nI 3) (ps m (nI i) f e d c o so nu op) else b_X9_hallClause_33 F v (nI i) (nI 4) (ps m (nI i) f e d c o so nu op) := by
  obtain ⟨j, rfl⟩ : ∃ j, g = j + 1 + 1 + 1 + 1 + 1 := ⟨g - 5, by omega⟩
  have z : lp (b_X9_hallClause_11 F) (j + 1) (v, nI i, nI (3 + 1), ps m (nI i) f e d c o so nu op) = b_X9_hallClause_33 F v (nI i) (nI 4) (ps m (nI i) f e d c o so nu op) := by
    rw [lp_S, b_X9_hallClause_11]
    dsimp only
    rw [if_pos (show (4 : Int32) ≤ nI (3 + 1) from nI_le (a := 4) (b := 4) (Nat.le_refl _) (by decide))]
  rw [h_word1 (w := 11) hr hF hi (by decide) (by decide) (by decide), h_word1 (w := 12) hr hF hi (by decide) (by decide) (by decide), h_word1 (w := 1) hr hF hi (by decide) (by decide) (by decide), h_word1 (w := 0) hr hF hi (by decide) (by decide) (by decide), z]
  rfl
end HAL
noncomputable def hm (m : OB) (ns nc nh nt nr nw : Nat → Int32) : OB := (m.1, uF (uF (uF (uF (uF (uF m.2.1 12 ns) 13 nc) 14 nh) 15 nt) 16 nr) 17 nw, m.2.2)
theorem RB.hm {m : OB} {L s : Nat} {ns nc nh nt nr nw : Nat → Int32} (h : RB m L s) : RB (hm m ns nc nh nt nr nw) L s := h
/-- the class's room while it is read -/
noncomputable def rmh (y : OB) (t a b q : Nat) (tc he so co we : Nat → Int32) : OB := (uF (uF (uF (uF y.1 0 (nI t)) 1 (nI a)) 2 (nI b)) 3 (nI q), uF (uF (uF (uF (uF y.2.1 4 tc) 5 he) 6 so) 7 co) 8 we, y.2.2)
/-- the first n of a row are at most M -/
noncomputable def Rw (f : Nat → Int32) (n M : Nat) : Prop := ∀ k, k < n → ∃ v, v ≤ M ∧ f k = nI v
theorem Rw.up {f : Nat → Int32} {n M i v : Nat} (h : Rw f n M) (hv : v ≤ M) : Rw (upd f i (nI v)) n M := fun k hk => by
  by_cases e : k = i
  · rw [e, pk_us]
    exact ⟨v, hv, rfl⟩
  · rw [pk_un e]
    exact h k hk
/-- what the class has read is what the reference has read -/
noncomputable def HR (t a b q : Nat) (tc he so co we ns nc nh nt nr nw : Nat → Int32) : Prop :=
  (ns 0 = nI t ∧ ns 1 = nI a ∧ ns 2 = nI b ∧ ns 3 = nI q) ∧ (a ≤ 4 ∧ b ≤ 8 ∧ q ≤ b) ∧
  (∀ j, j < a → tc j = nc j ∧ ∃ v, v ≤ 99 ∧ tc j = nI v) ∧
  (∀ j, j < b → he j = nh j ∧ so j = nt j ∧ (∃ v, 1 ≤ v ∧ v ≤ 60 ∧ he j = nI v) ∧ ∃ v, v < a ∧ so j = nI v) ∧
  (∀ j, j < q → co j = nr j ∧ we j = nw j ∧ (∃ v, v < b ∧ co j = nI v) ∧ ∃ v, 1 ≤ v ∧ v ≤ 20 ∧ we j = nI v) ∧
  (∀ i j, i < j → j < q → co i ≠ co j) ∧ Rw tc 4 99
section HRS
variable {t a b q : Nat} {tc he so co we ns nc nh nt nr nw : Nat → Int32}
theorem HR.nil (hw : Rw tc 4 99) : ns 0 = nI 0 → ns 1 = nI 0 → ns 2 = nI 0 → ns 3 = nI 0 → HR 0 0 0 0 tc he so co we ns nc nh nt nr nw := fun h0 h1 h2 h3 => ⟨⟨h0, h1, h2, h3⟩, ⟨by omega, by omega, by omega⟩, fun j h => absurd h (Nat.not_lt_zero _), fun j h => absurd h (Nat.not_lt_zero _), fun j h => absurd h (Nat.not_lt_zero _), fun i j _ h => absurd h (Nat.not_lt_zero _), hw⟩
theorem HR.told (h : HR t a b q tc he so co we ns nc nh nt nr nw) : HR 1 a b q tc he so co we (upd ns 0 (nI 1)) nc nh nt nr nw := ⟨⟨pk_us, (pk_un (by decide)).trans h.1.2.1, (pk_un (by decide)).trans h.1.2.2.1, (pk_un (by decide)).trans h.1.2.2.2⟩, h.2⟩
theorem HR.strand {v : Nat} (h : HR t a b q tc he so co we ns nc nh nt nr nw) (ha : a < 4) (hv : v ≤ 99) : HR t (a + 1) b q (upd tc a (nI v)) he so co we (upd ns 1 (nI (a + 1))) (upd nc a (nI v)) nh nt nr nw := by
  obtain ⟨h1, h2, h3, h4, h5, h6⟩ := h
  refine ⟨⟨(pk_un (by decide)).trans h1.1, pk_us, (pk_un (by decide)).trans h1.2.2.1, (pk_un (by decide)).trans h1.2.2.2⟩, ⟨by omega, h2.2.1, h2.2.2⟩, fun j hj => ?_, fun j hj => ?_, h5, h6.1, h6.2.up hv⟩
  · by_cases e : j = a
    · subst e
      rw [pk_us, pk_us]
      exact ⟨rfl, v, hv, rfl⟩
    · rw [pk_un e, pk_un e]
      exact h3 j (by omega)
  · obtain ⟨q1, q2, q3, w, q4, q5⟩ := h4 j hj
    exact ⟨q1, q2, q3, w, by omega, q5⟩
theorem HR.chair {v w : Nat} (h : HR t a b q tc he so co we ns nc nh nt nr nw) (hb : b < 8) (h1 : 1 ≤ v) (hv : v ≤ 60) (hw : w < a) : HR t a (b + 1) q tc (upd he b (nI v)) (upd so b (nI w)) co we (upd ns 2 (nI (b + 1))) nc (upd nh b (nI v)) (upd nt b (nI w)) nr nw := by
  obtain ⟨g1, h2, h3, h4, h5, h6⟩ := h
  refine ⟨⟨(pk_un (by decide)).trans g1.1, (pk_un (by decide)).trans g1.2.1, pk_us, (pk_un (by decide)).trans g1.2.2.2⟩, ⟨h2.1, by omega, by omega⟩, h3, fun j hj => ?_, fun j hj => ?_, h6⟩
  · by_cases e : j = b
    · subst e
      rw [pk_us, pk_us, pk_us, pk_us]
      exact ⟨rfl, rfl, ⟨v, h1, hv, rfl⟩, w, hw, rfl⟩
    · rw [pk_un e, pk_un e, pk_un e, pk_un e]
      exact h4 j (by omega)
  · obtain ⟨q1, q2, ⟨u, q3, q4⟩, q5⟩ := h5 j hj
    exact ⟨q1, q2, ⟨u, by omega, q4⟩, q5⟩
theorem HR.sit {v w : Nat} (h : HR t a b q tc he so co we ns nc nh nt nr nw) (hq : q < b) (hv : v < b) (h1 : 1 ≤ w) (hw : w ≤ 20) (hn : ∀ j, j < q → co j ≠ nI v) : HR t a b (q + 1) tc he so (upd co q (nI v)) (upd we q (nI w)) (upd ns 3 (nI (q + 1))) nc nh nt (upd nr q (nI v)) (upd nw q (nI w)) := by
  obtain ⟨g1, h2, h3, h4, h5, h6⟩ := h
  refine ⟨⟨(pk_un (by decide)).trans g1.1, (pk_un (by decide)).trans g1.2.1, (pk_un (by decide)).trans g1.2.2.1, pk_us⟩, ⟨h2.1, h2.2.1, by omega⟩, h3, h4, fun j hj => ?_, fun i j hij hj => ?_, h6.2⟩
  · by_cases e : j = q
    · subst e
      rw [pk_us, pk_us, pk_us, pk_us]
      exact ⟨rfl, rfl, ⟨v, hv, rfl⟩, w, h1, hw, rfl⟩
    · rw [pk_un e, pk_un e, pk_un e, pk_un e]
      exact h5 j (by omega)
  · by_cases e : j = q
    · subst e
      rw [pk_us, pk_un (by omega)]
      exact hn i hij
    · rw [pk_un e, pk_un (by omega)]
      exact h6.1 i j hij (by omega)
end HRS
