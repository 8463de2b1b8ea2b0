/-! the hall, pure: who sits where -/
theorem pigH : ∀ (n m : Nat) (f : Nat → Nat), (∀ j, j < m → f j < n) → (∀ i j, i < j → j < m → f i ≠ f j) → m ≤ n
  | 0, m, f, h, _ => by
    cases m with
    | zero => exact Nat.le_refl _
    | succ m => exact absurd (h 0 (by omega)) (Nat.not_lt_zero _)
  | n + 1, m, f, h, hd => by
    by_cases hx : ∃ j, j < m ∧ f j = n
    · obtain ⟨j0, hj0, hf⟩ := hx
      have hm := pigH n (m - 1) (fun j => if j < j0 then f j else f (j + 1)) (fun j hj => by
        have key : ∀ i, i < m → i ≠ j0 → f i < n := fun i hi hne => by
          have h1 := h i hi
          have h2 : f i ≠ f j0 := by
            rcases Nat.lt_or_gt_of_ne hne with q | q
            · exact hd i j0 q hj0
            · exact fun e => hd j0 i q hi e.symm
          omega
        by_cases q : j < j0
        · simp only [q, if_true]
          exact key j (by omega) (by omega)
        · simp only [q, if_false]
          exact key (j + 1) (by omega) (by omega)) (fun i j hij hj => by
        by_cases q : i < j0 <;> by_cases q2 : j < j0
        · simp only [q, q2, if_true]
          exact hd i j hij (by omega)
        · simp only [q, q2, if_true, if_false]
          exact hd i (j + 1) (by omega) (by omega)
        · omega
        · simp only [q, q2, if_false]
          exact hd (i + 1) (j + 1) (by omega) (by omega))
      omega
    · have := pigH n m f (fun j hj => by
        have h1 := h j hj
        have h2 : f j ≠ n := fun e => hx ⟨j, hj, e⟩
        omega) hd
      omega
section HRM
variable {t a b q : Nat} {tc he so co we ns nc nh nt nr nw : Nat → Int32}
/-- a chair that nobody has so far: there are fewer sitters than chairs -/
theorem HR.room {v : Nat} (h : HR t a b q tc he so co we ns nc nh nt nr nw) (hv : v < b) (hn : ∀ j, j < q → co j ≠ nI v) : q < b := by
  have h8 := h.2.1.2.1
  have h5 := h.2.2.2.2.1
  have h6 := h.2.2.2.2.2.1
  have hp := pigH b (q + 1) (fun j => if j < q then (co j).toInt.toNat else v) (fun j hj => by
    show (if j < q then (co j).toInt.toNat else v) < b
    by_cases e : j < q
    · rw [if_pos e]
      obtain ⟨u, hu, eu⟩ := (h5 j e).2.2.1
      rw [eu, nI_toInt (by omega)]
      omega
    · rw [if_neg e]
      exact hv) (fun i j hij hj => by
    show (if i < q then (co i).toInt.toNat else v) ≠ (if j < q then (co j).toInt.toNat else v)
    have hi : i < q := by omega
    obtain ⟨u, hu, eu⟩ := (h5 i hi).2.2.1
    rw [if_pos hi]
    by_cases e : j < q
    · obtain ⟨w, hw, ew⟩ := (h5 j e).2.2.1
      have hne := h6 i j hij e
      rw [eu, ew] at hne
      rw [if_pos e, eu, ew, nI_toInt (by omega), nI_toInt (by omega)]
      intro z
      exact hne (by rw [show u = w from by omega])
    · have hne := hn i hi
      rw [eu] at hne
      rw [if_neg e, eu, nI_toInt (by omega)]
      intro z
      exact hne (by rw [show u = v from by omega]))
  omega
/-- the class looks for the sitter of a chair -/
theorem s_sitOn {F : Nat} {y : OB} {x : Int32} (hq : q ≤ 8) : ∀ (r g k : Nat), k + r = q → r < g → (∀ j, j < k → co j ≠ x) → (∃ j, j < q ∧ co j = x ∧ lp (b_X3_sitterOn_2 F (rmh y t a b q tc he so co we)) g (x, nI k) = some (nI j)) ∨ ((∀ j, j < q → co j ≠ x) ∧ lp (b_X3_sitterOn_2 F (rmh y t a b q tc he so co we)) g (x, nI k) = some (-1))
  | 0, g, k, h1, h2, h3 => by
    obtain ⟨g, rfl⟩ : ∃ g', g = g' + 1 := ⟨g - 1, by omega⟩
    refine Or.inr ⟨fun j hj => h3 j (by omega), ?_⟩
    rw [lp_S, b_X3_sitterOn_2]
    dsimp only
    rw [if_pos (show (rmh y t a b q tc he so co we).1 3 ≤ nI k from nI_le (a := q) (b := k) (by omega) (by omega))]
  | r + 1, g, k, h1, h2, h3 => by
    obtain ⟨g, rfl⟩ : ∃ g', g = g' + 1 := ⟨g - 1, by omega⟩
    have e1 : lp (b_X3_sitterOn_2 F (rmh y t a b q tc he so co we)) (g + 1) (x, nI k) = if co k = x then some (nI k) else lp (b_X3_sitterOn_2 F (rmh y t a b q tc he so co we)) g (x, nI (k + 1)) := by
      rw [lp_S, b_X3_sitterOn_2]
      dsimp only
      rw [if_neg (show ¬ (rmh y t a b q tc he so co we).1 3 ≤ nI k from nI_ge (a := k) (b := q) (by omega) (by omega)), if_pos (ib_n (show k < 8 by omega) (by decide)), nI_clamp (by omega), nI_1]
      rfl
    rw [e1]
    by_cases e : co k = x
    · rw [if_pos e]
      exact Or.inl ⟨k, by omega, e, rfl⟩
    · rw [if_neg e]
      exact s_sitOn hq r g (k + 1) (by omega) (by omega) (fun j hj => by
        by_cases z : j = k
        · rw [z]
          exact e
        · exact h3 j (by omega))
theorem s_sitterOn {F : Nat} {y : OB} {x : Int32} (hF : 600 ≤ F) (hq : q ≤ 8) : (∃ j, j < q ∧ co j = x ∧ f_X3_sitterOn F x (rmh y t a b q tc he so co we) = some (nI j)) ∨ ((∀ j, j < q → co j ≠ x) ∧ f_X3_sitterOn F x (rmh y t a b q tc he so co we) = some (-1)) := s_sitOn hq q F 0 (by omega) (by omega) (fun j hj => absurd hj (Nat.not_lt_zero _))
end HRM
