/-! intervals of ints and rows -/
abbrev iv (lo hi : Int) (x : Int32) : Prop := lo ≤ x.toInt ∧ x.toInt ≤ hi
noncomputable def rowIn (lo hi : Int) (f : Nat → Int32) : Prop := ∀ i, iv lo hi (f i)
theorem ai_bm {z : Int} (h1 : -2147483648 ≤ z) (h2 : z < 2147483648) : z.bmod (2 ^ 32) = z := by
  rw [Int.bmod_eq_of_le (by omega) (by omega)]
theorem ai_add {x y z : Int32} {a b : Int} (ha : x.toInt = a) (hb : y.toInt = b) (e : z = x + y) (h1 : -2147483648 ≤ a + b) (h2 : a + b < 2147483648) : z.toInt = a + b := by
  rw [e, Int32.toInt_add, ha, hb, ai_bm h1 h2]
theorem ai_sub {x y z : Int32} {a b : Int} (ha : x.toInt = a) (hb : y.toInt = b) (e : z = x - y) (h1 : -2147483648 ≤ a - b) (h2 : a - b < 2147483648) : z.toInt = a - b := by
  rw [e, Int32.toInt_sub, ha, hb, ai_bm h1 h2]
theorem ai_mask {x z m : Int32} {hi : Int} (k : Nat) (hm : m.toBitVec.toNat = 2 ^ k - 1) (hh : (2 : Int) ^ k - 1 = hi ∧ k ≤ 30) (e : z = x &&& m) : iv 0 hi z := by
  obtain ⟨j, hj, ej⟩ := pk_andE x k hm
  have hk : 2 ^ k ≤ 2 ^ 30 := Nat.pow_le_pow_right (by decide) hh.2
  rw [e, ej]
  unfold iv
  rw [nI_toInt (by omega), ← hh.1]
  have : ((2 ^ k : Nat) : Int) = (2 : Int) ^ k := by simp
  omega
theorem cd_lt_t {x y : Int32} {a b : Int} (ha : x.toInt = a) (hb : y.toInt = b) (h : a < b) : x < y := by
  simp only [sp_lt, sp_le, sp_eq, ha, hb]
  omega
theorem cd_lt_f {x y : Int32} {a b : Int} (ha : x.toInt = a) (hb : y.toInt = b) (h : b ≤ a) : ¬ (x < y) := by
  simp only [sp_lt, sp_le, sp_eq, ha, hb]
  omega
theorem cd_gt_t {x y : Int32} {a b : Int} (ha : x.toInt = a) (hb : y.toInt = b) (h : b < a) : y < x := by
  simp only [sp_lt, sp_le, sp_eq, ha, hb]
  omega
theorem cd_gt_f {x y : Int32} {a b : Int} (ha : x.toInt = a) (hb : y.toInt = b) (h : a ≤ b) : ¬ (y < x) := by
  simp only [sp_lt, sp_le, sp_eq, ha, hb]
  omega
