/-! what the first call answers -/
theorem sp_lt (a b : Int32) : a < b ↔ a.toInt < b.toInt := Int32.lt_iff_toInt_lt
theorem sp_le (a b : Int32) : a ≤ b ↔ a.toInt ≤ b.toInt := Int32.le_iff_toInt_le
theorem sp_eq (a b : Int32) : a = b ↔ a.toInt = b.toInt := Int32.toInt_inj.symm
theorem sp0 : (0 : Int32).toInt = 0 := by decide
theorem spm1 : (-1 : Int32).toInt = -1 := by decide
theorem sp1 : (1 : Int32).toInt = 1 := by decide
theorem sp3 : (3 : Int32).toInt = 3 := by decide
theorem sp4 : (4 : Int32).toInt = 4 := by decide
theorem sp12 : (12 : Int32).toInt = 12 := by decide
theorem sp60 : (60 : Int32).toInt = 60 := by decide
def spEnd (n : Int32) : Int32 := if n = 0 then 0 else -1
def spForce (r : Int32) : Int32 := if r = -1 then -1 else -2
def spNote (n : Int32) : Int32 := if n = -1 then 0 else -2
def spSeed (x : Int32) : Int32 := if x < 0 then -1 else 0
def spImg (x : Int32) : Int32 := if 0 ≤ x ∧ x ≤ 3 then 0 else -1
def spCnt (x : Int32) : Int32 := if x = 4 then -1 else if 0 ≤ x ∧ x ≤ 12 then 0 else -1
theorem sp_c4 {x : Int32} (h1 : ¬ x < 0) (h2 : ¬ 4 ≤ x) : x = 0 ∨ x = 1 ∨ x = 2 ∨ x = 3 := by
  simp only [sp_lt, sp_le, sp0, sp4] at h1 h2
  simp only [sp_eq, sp0, sp1, sp3, show (2 : Int32).toInt = 2 from by decide]
  omega
theorem sp_cI {x : Int32} {n : Nat} (hn : n < 64) (h : x.toInt = n) : x = nI n := by
  rw [sp_eq, h, nI_toInt (by omega)]
theorem sp_c13 (x : Int32) : (x.toInt < 0 ∨ 12 < x.toInt) ∨ ∃ n : Nat, n < 13 ∧ x = nI n := by
  by_cases h : x.toInt < 0
  · exact Or.inl (Or.inl h)
  · by_cases h2 : 12 < x.toInt
    · exact Or.inl (Or.inr h2)
    · exact Or.inr ⟨x.toInt.toNat, by omega, sp_cI (by omega) (by omega)⟩
theorem spCnt_out {x : Int32} (h : x.toInt < 0 ∨ 12 < x.toInt) : -1 = spCnt x := by
  unfold spCnt
  split
  · rfl
  · split
    · rename_i h1 h2
      simp only [sp_le, sp0, sp12] at h2
      omega
    · rfl
