/-! what the first call answers -/
theorem sp_lt (a b : Int32) : a < b ↔ a.toInt < b.toInt := Int32.lt_iff_toInt_lt
theorem sp_le (a b : Int32) : a ≤ b ↔ a.toInt ≤ b.toInt := Int32.le_iff_toInt_le
theorem sp_eq (a b : Int32) : a = b ↔ a.toInt = b.toInt := Int32.toInt_inj.symm
theorem sp0 : (0 : Int32).toInt = 0 := by decide
theorem spm1 : (-1 : Int32).toInt = -1 := by decide
