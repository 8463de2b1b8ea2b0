/-! intervals of ints and rows -/
abbrev iv (lo hi : Int) (x : Int32) : Prop := lo ≤ x.toInt ∧ x.toInt ≤ hi
def rowIn (lo hi : Int) (f : Nat → Int32) : Prop := ∀ i, iv lo hi (f i)
theorem iv_lit {lo hi : Int} {x : Int32} (h1 : lo ≤ x.toInt) (h2 : x.toInt ≤ hi) : iv lo hi x := ⟨h1, h2⟩
theorem row_upd {lo hi : Int} {f : Nat → Int32} {i : Nat} {x : Int32} (h : rowIn lo hi f) (hx : iv lo hi x) : rowIn lo hi (upd f i x) := by
  intro j
  by_cases e : j = i
  · rw [e, pk_us]; exact hx
  · rw [pk_un e]; exact h j
theorem ai_bm {z : Int} (h1 : -2147483648 ≤ z) (h2 : z < 2147483648) : z.bmod (2 ^ 32) = z := by
  rw [Int.bmod_eq_of_le (by omega) (by omega)]
theorem ai_add {x y z : Int32} {a b : Int} (ha : x.toInt = a) (hb : y.toInt = b) (e : z = x + y) (h1 : -2147483648 ≤ a + b) (h2 : a + b < 2147483648) : z.toInt = a + b := by
  rw [e, Int32.toInt_add, ha, hb, ai_bm h1 h2]
theorem ai_sub {x y z : Int32} {a b : Int} (ha : x.toInt = a) (hb : y.toInt = b) (e : z = x - y) (h1 : -2147483648 ≤ a - b) (h2 : a - b < 2147483648) : z.toInt = a - b := by
  rw [e, Int32.toInt_sub, ha, hb, ai_bm h1 h2]
theorem ai_mul {x y z : Int32} {a b : Int} (ha : x.toInt = a) (hb : y.toInt = b) (e : z = x * y) (h1 : -2147483648 ≤ a * b) (h2 : a * b < 2147483648) : z.toInt = a * b := by
  rw [e, Int32.toInt_mul, ha, hb, ai_bm h1 h2]
theorem ai_mask {x z m : Int32} {hi : Int} (k : Nat) (hm : m.toBitVec.toNat = 2 ^ k - 1) (hh : (2 : Int) ^ k - 1 = hi ∧ k ≤ 30) (e : z = x &&& m) : iv 0 hi z := by
  obtain ⟨j, hj, ej⟩ := pk_andE x k hm
  have hk : 2 ^ k ≤ 2 ^ 30 := Nat.pow_le_pow_right (by decide) hh.2
  rw [e, ej]
  unfold iv
  rw [nI_toInt (by omega), ← hh.1]
  have : ((2 ^ k : Nat) : Int) = (2 : Int) ^ k := by simp
  omega
theorem iv_z {x : Int32} (h : iv 0 1 x) : narrow .boolean (.int x) = .int x := by
  have : x = 0 ∨ x = 1 := by
    simp only [sp_eq, sp0, sp1]
    have := h.1
    have := h.2
    omega
  rcases this with rfl | rfl <;> rfl
theorem cx_lt_t {x y : Int32} {a b : Int} (ha : x.toInt = a) (hb : y.toInt = b) (h : x < y) : a < b := by
  simp only [sp_lt, sp_le, sp_eq, ha, hb] at h
  omega
theorem cx_lt_f {x y : Int32} {a b : Int} (ha : x.toInt = a) (hb : y.toInt = b) (h : ¬ (x < y)) : b ≤ a := by
  simp only [sp_lt, sp_le, sp_eq, ha, hb] at h
  omega
theorem cd_lt_t {x y : Int32} {a b : Int} (ha : x.toInt = a) (hb : y.toInt = b) (h : a < b) : x < y := by
  simp only [sp_lt, sp_le, sp_eq, ha, hb]
  omega
theorem cd_lt_f {x y : Int32} {a b : Int} (ha : x.toInt = a) (hb : y.toInt = b) (h : b ≤ a) : ¬ (x < y) := by
  simp only [sp_lt, sp_le, sp_eq, ha, hb]
  omega
theorem cx_ge_t {x y : Int32} {a b : Int} (ha : x.toInt = a) (hb : y.toInt = b) (h : y ≤ x) : b ≤ a := by
  simp only [sp_lt, sp_le, sp_eq, ha, hb] at h
  omega
theorem cx_ge_f {x y : Int32} {a b : Int} (ha : x.toInt = a) (hb : y.toInt = b) (h : ¬ (y ≤ x)) : a < b := by
  simp only [sp_lt, sp_le, sp_eq, ha, hb] at h
  omega
theorem cx_gt_t {x y : Int32} {a b : Int} (ha : x.toInt = a) (hb : y.toInt = b) (h : y < x) : b < a := by
  simp only [sp_lt, sp_le, sp_eq, ha, hb] at h
  omega
theorem cx_gt_f {x y : Int32} {a b : Int} (ha : x.toInt = a) (hb : y.toInt = b) (h : ¬ (y < x)) : a ≤ b := by
  simp only [sp_lt, sp_le, sp_eq, ha, hb] at h
  omega
theorem cd_gt_t {x y : Int32} {a b : Int} (ha : x.toInt = a) (hb : y.toInt = b) (h : b < a) : y < x := by
  simp only [sp_lt, sp_le, sp_eq, ha, hb]
  omega
theorem cd_gt_f {x y : Int32} {a b : Int} (ha : x.toInt = a) (hb : y.toInt = b) (h : a ≤ b) : ¬ (y < x) := by
  simp only [sp_lt, sp_le, sp_eq, ha, hb]
  omega
theorem cx_le_t {x y : Int32} {a b : Int} (ha : x.toInt = a) (hb : y.toInt = b) (h : x ≤ y) : a ≤ b := by
  simp only [sp_lt, sp_le, sp_eq, ha, hb] at h
  omega
theorem cx_le_f {x y : Int32} {a b : Int} (ha : x.toInt = a) (hb : y.toInt = b) (h : ¬ (x ≤ y)) : b < a := by
  simp only [sp_lt, sp_le, sp_eq, ha, hb] at h
  omega
theorem cd_le_t {x y : Int32} {a b : Int} (ha : x.toInt = a) (hb : y.toInt = b) (h : a ≤ b) : x ≤ y := by
  simp only [sp_lt, sp_le, sp_eq, ha, hb]
  omega
theorem cd_le_f {x y : Int32} {a b : Int} (ha : x.toInt = a) (hb : y.toInt = b) (h : b < a) : ¬ (x ≤ y) := by
  simp only [sp_lt, sp_le, sp_eq, ha, hb]
  omega
theorem cx_eq_t {x y : Int32} {a b : Int} (ha : x.toInt = a) (hb : y.toInt = b) (h : x = y) : a = b := by
  simp only [sp_lt, sp_le, sp_eq, ha, hb] at h
  omega
theorem cx_eq_f {x y : Int32} {a b : Int} (ha : x.toInt = a) (hb : y.toInt = b) (h : ¬ (x = y)) : a ≠ b := by
  simp only [sp_lt, sp_le, sp_eq, ha, hb] at h
  omega
theorem cd_eq_f {x y : Int32} {a b : Int} (ha : x.toInt = a) (hb : y.toInt = b) (h : a ≠ b) : ¬ (x = y) := by
  simp only [sp_lt, sp_le, sp_eq, ha, hb]
  omega
theorem cx_ne_t {x y : Int32} {a b : Int} (ha : x.toInt = a) (hb : y.toInt = b) (h : ¬ x = y) : a ≠ b := by
  simp only [sp_lt, sp_le, sp_eq, ha, hb] at h
  omega
theorem cx_ne_f {x y : Int32} {a b : Int} (ha : x.toInt = a) (hb : y.toInt = b) (h : x = y) : a = b := by
  simp only [sp_lt, sp_le, sp_eq, ha, hb] at h
  omega
theorem cd_ne_t {x y : Int32} {a b : Int} (ha : x.toInt = a) (hb : y.toInt = b) (h : a ≠ b) : ¬ x = y := by
  simp only [sp_lt, sp_le, sp_eq, ha, hb]
  omega
