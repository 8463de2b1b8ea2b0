/-! the hall, pure: one clause by both -/
section HCA
variable {F : Nat} {m x y : OB} {L s n : Nat} {e d c o : Int32} {s1 n1 o1 : Nat → Int32}
variable {t i p a b q t0 cN : Nat} {tc he so co we ns nc nh nt nr nw : Nat → Int32}
theorem full_40 {k : Int32} {M : OB} : f_X9_isFull F k (nI 40) M = some 1 := by
  unfold f_X9_isFull b_X9_isFull_27
  rw [if_pos (by decide)]
/-- the first clause and hall belong together -/
theorem full_n {k v : Int32} {M : OB} (h40 : ¬ v = 40) (h : (k = 0 ∧ ¬ v = 0) ∨ (¬ k = 0 ∧ v = 0)) : f_X9_isFull F k v M = some 1 := by
  unfold f_X9_isFull b_X9_isFull_15 b_X9_isFull_24 b_X9_isFull_27
  rw [if_neg h40]
  rcases h with ⟨h1, h2⟩ | ⟨h1, h2⟩
  · rw [if_pos h1, if_neg h2, if_neg (show ¬ (1 : Int32) = 0 by decide)]
  · rw [if_neg h1, if_pos h2, if_neg (show ¬ (0 : Int32) = 1 by decide)]
theorem full_y {k v : Int32} {M : OB} (h40 : ¬ v = 40) (h : (k = 0 ∧ v = 0) ∨ (¬ k = 0 ∧ ¬ v = 0)) : f_X9_isFull F k v M = some (if (k = 1 ∧ M.2.1 12 1 = 4) ∨ (k = 2 ∧ M.2.1 12 2 = 8) then 1 else 0) := by
  have z : b_X9_isFull_24 F M k 1 1 = some (if (k = 1 ∧ M.2.1 12 1 = 4) ∨ (k = 2 ∧ M.2.1 12 2 = 8) then 1 else 0) ∧ b_X9_isFull_24 F M k 0 0 = some (if (k = 1 ∧ M.2.1 12 1 = 4) ∨ (k = 2 ∧ M.2.1 12 2 = 8) then 1 else 0) := by
    unfold b_X9_isFull_24 b_X9_isFull_44 b_X9_isFull_60 b_X9_isFull_64 b_X9_isFull_65
    rw [if_pos rfl, if_pos rfl, show Int32.toNatClampNeg 1 = 1 from by decide, show Int32.toNatClampNeg 2 = 2 from by decide, if_pos (Or.inr rfl), if_pos (Or.inl rfl)]
    have key : (if k = 1 then (if M.2.1 12 1 = 4 then some (1 : Int32) else if k = 2 then (if M.2.1 12 2 = 8 then some 1 else some 0) else some 0) else if k = 2 then (if M.2.1 12 2 = 8 then some 1 else some 0) else some 0) = some (if (k = 1 ∧ M.2.1 12 1 = 4) ∨ (k = 2 ∧ M.2.1 12 2 = 8) then 1 else 0) := by
      by_cases k1 : k = 1
      · have k2 : ¬ k = 2 := fun w => absurd (k1.symm.trans w) (by decide)
        rw [if_pos k1, if_neg k2]
        by_cases w : M.2.1 12 1 = 4
        · rw [if_pos w, if_pos (Or.inl ⟨k1, w⟩)]
        · rw [if_neg w, if_neg (fun u => by rcases u with u | u; exact w u.2; exact k2 u.1)]
      · rw [if_neg k1]
        by_cases k2 : k = 2
        · rw [if_pos k2]
          by_cases w : M.2.1 12 2 = 8
          · rw [if_pos w, if_pos (Or.inr ⟨k2, w⟩)]
          · rw [if_neg w, if_neg (fun u => by rcases u with u | u; exact k1 u.1; exact w u.2)]
        · rw [if_neg k2, if_neg (fun u => by rcases u with u | u; exact k1 u.1; exact k2 u.1)]
    exact ⟨key, key⟩
  unfold f_X9_isFull b_X9_isFull_15
  rw [if_neg h40]
  rcases h with ⟨h1, h2⟩ | ⟨h1, h2⟩
  · rw [if_pos h1, if_pos h2]
    exact z.1
  · rw [if_neg h1, if_neg h2]
    exact z.2
end HCA
