/-! bits (out of kit/laws/BITS.to-paste) -/
def bt (x : Int32) (i : Nat) : Bool := x.toBitVec.getLsbD i
theorem b_ext {x y : Int32} (h : ∀ i, i < 32 → bt x i = bt y i) : x = y := Int32.toBitVec_inj.mp (BitVec.eq_of_getLsbD_eq (fun i hi => h i hi))
theorem b_or (x y : Int32) (i : Nat) : bt (x ||| y) i = (bt x i || bt y i) := by unfold bt; rw [Int32.toBitVec_or, BitVec.getLsbD_or]
theorem b_and (x y : Int32) (i : Nat) : bt (x &&& y) i = (bt x i && bt y i) := by unfold bt; rw [Int32.toBitVec_and, BitVec.getLsbD_and]
theorem b_big {x : Int32} {i : Nat} (h : 32 ≤ i) : bt x i = false := BitVec.getLsbD_of_ge _ _ h
theorem b_255 (i : Nat) : bt 255 i = decide (i < 8) := by
  rcases Nat.lt_or_ge i 32 with h | h
  · exact (by decide +kernel : ∀ i, i < 32 → bt 255 i = decide (i < 8)) i h
  · rw [b_big h, decide_eq_false (by omega)]
theorem b_0 (i : Nat) : bt 0 i = false := BitVec.getLsbD_zero
theorem s_l : ∀ n, n < 32 → ((nI n &&& 31).toBitVec.smod 32).toNat = n := by decide +kernel
theorem b_shl (n : Nat) (hn : n < 32) (x : Int32) {i : Nat} (hi : i < 32) : bt (x <<< (nI n &&& 31)) i = (decide (n ≤ i) && bt x (i - n)) := by
  unfold bt
  rw [Int32.toBitVec_shiftLeft]
  show (x.toBitVec <<< ((nI n &&& 31).toBitVec.smod 32).toNat).getLsbD i = _
  rw [s_l n hn, BitVec.getLsbD_shiftLeft]
  rcases Nat.lt_or_ge i n with h | h
  · simp [h, Nat.not_le.mpr h]
  · simp [hi, h, Nat.not_lt.mpr h]
theorem b_sshr (n : Nat) (hn : n < 32) (x : Int32) {i : Nat} (hi : i < 32) : bt (x >>> (nI n &&& 31)) i = if n + i < 32 then bt x (n + i) else bt x 31 := by
  unfold bt
  rw [Int32.toBitVec_shiftRight]
  show (x.toBitVec.sshiftRight ((nI n &&& 31).toBitVec.smod 32).toNat).getLsbD i = _
  rw [s_l n hn, BitVec.getLsbD_sshiftRight, BitVec.msb_eq_getLsbD_last]
  simp [hi]
def sc8 (a b c d e f g h : Int32) : Nat → Int32
  | 0 => a
  | 1 => b
  | 2 => c
  | 3 => d
  | 4 => e
  | 5 => f
  | 6 => g
  | 7 => h
  | _ => 0
theorem sc8_u0 (a b c d e f g h x : Int32) : upd (sc8 a b c d e f g h) (Int32.toNatClampNeg 0) x = sc8 x b c d e f g h := by
  rw [show Int32.toNatClampNeg 0 = 0 from by decide]
  funext j
  by_cases h : j = 0
  · subst h; rw [pk_us]; rfl
  · rw [pk_un h]
    match j, h with
    | 0, h => exact absurd rfl h
    | 1, _ => rfl
    | 2, _ => rfl
    | 3, _ => rfl
    | 4, _ => rfl
    | 5, _ => rfl
    | 6, _ => rfl
    | 7, _ => rfl
    | _ + 8, _ => rfl
theorem sc8_u1 (a b c d e f g h x : Int32) : upd (sc8 a b c d e f g h) (Int32.toNatClampNeg 1) x = sc8 a x c d e f g h := by
  rw [show Int32.toNatClampNeg 1 = 1 from by decide]
  funext j
  by_cases h : j = 1
  · subst h; rw [pk_us]; rfl
  · rw [pk_un h]
    match j, h with
    | 0, _ => rfl
    | 1, h => exact absurd rfl h
    | 2, _ => rfl
    | 3, _ => rfl
    | 4, _ => rfl
    | 5, _ => rfl
    | 6, _ => rfl
    | 7, _ => rfl
    | _ + 8, _ => rfl
theorem sc8_u2 (a b c d e f g h x : Int32) : upd (sc8 a b c d e f g h) (Int32.toNatClampNeg 2) x = sc8 a b x d e f g h := by
  rw [show Int32.toNatClampNeg 2 = 2 from by decide]
  funext j
  by_cases h : j = 2
  · subst h; rw [pk_us]; rfl
  · rw [pk_un h]
    match j, h with
    | 0, _ => rfl
    | 1, _ => rfl
    | 2, h => exact absurd rfl h
    | 3, _ => rfl
    | 4, _ => rfl
    | 5, _ => rfl
    | 6, _ => rfl
    | 7, _ => rfl
    | _ + 8, _ => rfl
theorem sc8_u3 (a b c d e f g h x : Int32) : upd (sc8 a b c d e f g h) (Int32.toNatClampNeg 3) x = sc8 a b c x e f g h := by
  rw [show Int32.toNatClampNeg 3 = 3 from by decide]
  funext j
  by_cases h : j = 3
  · subst h; rw [pk_us]; rfl
  · rw [pk_un h]
    match j, h with
    | 0, _ => rfl
    | 1, _ => rfl
    | 2, _ => rfl
    | 3, h => exact absurd rfl h
    | 4, _ => rfl
    | 5, _ => rfl
    | 6, _ => rfl
    | 7, _ => rfl
    | _ + 8, _ => rfl
theorem sc8_u4 (a b c d e f g h x : Int32) : upd (sc8 a b c d e f g h) (Int32.toNatClampNeg 4) x = sc8 a b c d x f g h := by
  rw [show Int32.toNatClampNeg 4 = 4 from by decide]
  funext j
  by_cases h : j = 4
  · subst h; rw [pk_us]; rfl
  · rw [pk_un h]
    match j, h with
    | 0, _ => rfl
    | 1, _ => rfl
    | 2, _ => rfl
    | 3, _ => rfl
    | 4, h => exact absurd rfl h
    | 5, _ => rfl
    | 6, _ => rfl
    | 7, _ => rfl
    | _ + 8, _ => rfl
theorem sc8_u5 (a b c d e f g h x : Int32) : upd (sc8 a b c d e f g h) (Int32.toNatClampNeg 5) x = sc8 a b c d e x g h := by
  rw [show Int32.toNatClampNeg 5 = 5 from by decide]
  funext j
  by_cases h : j = 5
  · subst h; rw [pk_us]; rfl
  · rw [pk_un h]
    match j, h with
    | 0, _ => rfl
    | 1, _ => rfl
    | 2, _ => rfl
    | 3, _ => rfl
    | 4, _ => rfl
    | 5, h => exact absurd rfl h
    | 6, _ => rfl
    | 7, _ => rfl
    | _ + 8, _ => rfl
theorem sc8_u6 (a b c d e f g h x : Int32) : upd (sc8 a b c d e f g h) (Int32.toNatClampNeg 6) x = sc8 a b c d e f x h := by
  rw [show Int32.toNatClampNeg 6 = 6 from by decide]
  funext j
  by_cases h : j = 6
  · subst h; rw [pk_us]; rfl
  · rw [pk_un h]
    match j, h with
    | 0, _ => rfl
    | 1, _ => rfl
    | 2, _ => rfl
    | 3, _ => rfl
    | 4, _ => rfl
    | 5, _ => rfl
    | 6, h => exact absurd rfl h
    | 7, _ => rfl
    | _ + 8, _ => rfl
theorem sc8_u7 (a b c d e f g h x : Int32) : upd (sc8 a b c d e f g h) (Int32.toNatClampNeg 7) x = sc8 a b c d e f g x := by
  rw [show Int32.toNatClampNeg 7 = 7 from by decide]
  funext j
  by_cases h : j = 7
  · subst h; rw [pk_us]; rfl
  · rw [pk_un h]
    match j, h with
    | 0, _ => rfl
    | 1, _ => rfl
    | 2, _ => rfl
    | 3, _ => rfl
    | 4, _ => rfl
    | 5, _ => rfl
    | 6, _ => rfl
    | 7, h => exact absurd rfl h
    | _ + 8, _ => rfl
def sc4 (a b c d : Int32) : Nat → Int32
  | 0 => a
  | 1 => b
  | 2 => c
  | 3 => d
  | _ => 0
theorem sc4_u0 (a b c d x : Int32) : upd (sc4 a b c d) (Int32.toNatClampNeg 0) x = sc4 x b c d := by
  rw [show Int32.toNatClampNeg 0 = 0 from by decide]
  funext j
  by_cases h : j = 0
  · subst h; rw [pk_us]; rfl
  · rw [pk_un h]
    match j, h with
    | 0, h => exact absurd rfl h
    | 1, _ => rfl
    | 2, _ => rfl
    | 3, _ => rfl
    | _ + 4, _ => rfl
theorem sc4_u1 (a b c d x : Int32) : upd (sc4 a b c d) (Int32.toNatClampNeg 1) x = sc4 a x c d := by
  rw [show Int32.toNatClampNeg 1 = 1 from by decide]
  funext j
  by_cases h : j = 1
  · subst h; rw [pk_us]; rfl
  · rw [pk_un h]
    match j, h with
    | 0, _ => rfl
    | 1, h => exact absurd rfl h
    | 2, _ => rfl
    | 3, _ => rfl
    | _ + 4, _ => rfl
theorem sc4_u2 (a b c d x : Int32) : upd (sc4 a b c d) (Int32.toNatClampNeg 2) x = sc4 a b x d := by
  rw [show Int32.toNatClampNeg 2 = 2 from by decide]
  funext j
  by_cases h : j = 2
  · subst h; rw [pk_us]; rfl
  · rw [pk_un h]
    match j, h with
    | 0, _ => rfl
    | 1, _ => rfl
    | 2, h => exact absurd rfl h
    | 3, _ => rfl
    | _ + 4, _ => rfl
theorem sc4_u3 (a b c d x : Int32) : upd (sc4 a b c d) (Int32.toNatClampNeg 3) x = sc4 a b c x := by
  rw [show Int32.toNatClampNeg 3 = 3 from by decide]
  funext j
  by_cases h : j = 3
  · subst h; rw [pk_us]; rfl
  · rw [pk_un h]
    match j, h with
    | 0, _ => rfl
    | 1, _ => rfl
    | 2, _ => rfl
    | 3, h => exact absurd rfl h
    | _ + 4, _ => rfl
theorem ai_i2l {x : Int32} {y : Int64} {a : Int} (ha : x.toInt = a) (e : y = x.toInt64) : y.toInt = a := by
  rw [e, Int32.toInt_toInt64, ha]
theorem lcmp_rel {x y : Int64} {z : Int32} {a b : Int} (ha : x.toInt = a) (hb : y.toInt = b) (e : z = lg_cmp x y) : (z.toInt = 1 ∧ b < a) ∨ (z.toInt = 0 ∧ a = b) ∨ (z.toInt = -1 ∧ a < b) := by
  unfold lg_cmp at e
  by_cases h1 : x > y
  · rw [if_pos h1] at e
    refine Or.inl ⟨by rw [e]; decide, ?_⟩
    have := Int64.lt_iff_toInt_lt.mp h1
    omega
  · rw [if_neg h1] at e
    by_cases h2 : x = y
    · rw [if_pos h2] at e
      exact Or.inr (Or.inl ⟨by rw [e]; decide, by rw [← ha, ← hb, h2]⟩)
    · rw [if_neg h2] at e
      refine Or.inr (Or.inr ⟨by rw [e]; decide, ?_⟩)
      have h3 : ¬ y.toInt < x.toInt := fun q => h1 (Int64.lt_iff_toInt_lt.mpr q)
      have h4 : ¬ x.toInt = y.toInt := fun q => h2 (Int64.toInt_inj.mp q)
      omega
theorem bq_of {k : Int32} (h0 : 0 ≤ k.toInt) (h1 : k.toInt < 32) : ∃ n : Nat, n < 32 ∧ k = nI n ∧ Int32.toNatClampNeg k = n := by
  obtain ⟨j, hj, rfl⟩ := nI_of (x := k) (fun h => by simp only [sp_lt, sp0] at h; omega)
  have e : (nI j).toInt = j := nI_toInt hj
  refine ⟨j, by omega, rfl, ?_⟩
  show (nI j).toInt.toNat = j
  omega
theorem b_one : ∀ i, i < 32 → bt 1 i = decide (i = 0) := by decide +kernel
theorem has_v {x k z y : Int32} (h0 : 0 ≤ k.toInt) (h1 : k.toInt < 32) (ey : y = x >>> (k &&& 31)) (ez : z = y &&& 1) : z = if bt x (Int32.toNatClampNeg k) then 1 else 0 := by
  obtain ⟨n, hn, rfl, e⟩ := bq_of h0 h1
  rw [e, ez, ey]
  refine b_ext (fun i hi => ?_)
  rw [b_and, b_sshr n hn x hi, b_one i hi]
  by_cases q : i = 0
  · subst q
    rw [if_pos (show n + 0 < 32 from hn), Nat.add_zero]
    cases hb : bt x n <;> simp [hb] <;> decide
  · simp only [q, decide_false, Bool.and_false]
    cases hb : bt x n
    · simp [b_0]
    · simp only [if_true]
      rw [b_one i hi]
      simp [q]
theorem has_t {x k z y : Int32} (h0 : 0 ≤ k.toInt) (h1 : k.toInt < 32) (ey : y = x >>> (k &&& 31)) (ez : z = y &&& 1) (h : z.toInt = 1) : bt x (Int32.toNatClampNeg k) = true := by
  have := has_v h0 h1 ey ez
  cases hb : bt x (Int32.toNatClampNeg k)
  · rw [hb] at this
    rw [this] at h
    exact absurd h (by decide)
  · rfl
theorem has_f {x k z y : Int32} (h0 : 0 ≤ k.toInt) (h1 : k.toInt < 32) (ey : y = x >>> (k &&& 31)) (ez : z = y &&& 1) (h : z.toInt ≠ 1) : bt x (Int32.toNatClampNeg k) = false := by
  have := has_v h0 h1 ey ez
  cases hb : bt x (Int32.toNatClampNeg k)
  · rfl
  · rw [hb] at this
    rw [this] at h
    exact absurd (by decide) h
/-- one bit more -/
theorem b_add {x z y k : Int32} (h0 : 0 ≤ k.toInt) (h1 : k.toInt < 32) (ez : z = 1 <<< (k &&& 31)) (e : y = x ||| z) {j : Nat} (hj : j < 32) : bt y j = (bt x j || decide (j = Int32.toNatClampNeg k)) := by
  obtain ⟨n, hn, rfl, en⟩ := bq_of h0 h1
  rw [e, b_or, ez, b_shl n hn 1 hj, en]
  congr 1
  by_cases q : j = n
  · subst q
    rw [Nat.sub_self, b_one 0 (by decide)]
    simp
  · by_cases q2 : n ≤ j
    · rw [b_one (j - n) (by omega)]
      simp [show ¬ j - n = 0 from by omega, q]
    · simp [q2, q]
theorem b_same {x y : Int32} (e : y = x ||| 0) : y = x := by
  rw [e]
  refine b_ext (fun i _ => ?_)
  rw [b_or, b_0, Bool.or_false]
/-- all bits below a place, of a kind -/
def TI (q : Int32) (f : Nat → Int32) (v set : Int32) : Prop := ∀ j : Nat, j < 32 → bt set j = true → (j : Int) < q.toInt ∧ (f j).toInt = v.toInt
theorem TI_0 {f : Nat → Int32} {v : Int32} : TI 0 f v 0 := fun j _ h => by rw [b_0] at h; cases h
theorem TI_t {q q' v set set' z w : Int32} {f : Nat → Int32} (h : TI q f v set) (h0 : 0 ≤ q.toInt) (h1 : q.toInt < 32) (eq : q'.toInt = q.toInt + 1) (ew : w = f (Int32.toNatClampNeg q)) (hw : w.toInt = v.toInt) (ez : z = 1 <<< (q &&& 31)) (e : set' = set ||| z) : TI q' f v set' := by
  intro j hj hb
  rw [b_add h0 h1 ez e hj] at hb
  by_cases hq : j = Int32.toNatClampNeg q
  · subst hq
    exact ⟨by rw [eq]; have := toNatClampNeg_toInt h0; omega, by rw [← ew]; exact hw⟩
  · simp only [hq, decide_false, Bool.or_false] at hb
    have := h j hj hb
    exact ⟨by omega, this.2⟩
theorem TI_f {q q' v set set' : Int32} {f : Nat → Int32} (h : TI q f v set) (eq : q'.toInt = q.toInt + 1) (e : set' = set ||| 0) : TI q' f v set' := by
  intro j hj hb
  rw [b_same e] at hb
  have := h j hj hb
  exact ⟨by omega, this.2⟩
theorem TI_le {q q' v set : Int32} {f : Nat → Int32} (h : TI q f v set) (hq : q.toInt ≤ q'.toInt) : TI q' f v set := fun j hj hb => ⟨by have := (h j hj hb).1; omega, (h j hj hb).2⟩
theorem low_255 {x : Int32} (h : ∀ j : Nat, j < 32 → bt x j = true → j < 8) : iv 0 255 x := by
  have e : x = x &&& 255 := by
    refine b_ext (fun i hi => ?_)
    rw [b_and, b_255]
    cases hb : bt x i
    · rfl
    · simp [h i hi hb]
  exact ai_mask 8 (by decide) (by decide) e
theorem TI_255 {q v set : Int32} {f : Nat → Int32} (h : TI q f v set) (hq : q.toInt ≤ 8) : iv 0 255 set := low_255 (fun j hj hb => by have := (h j hj hb).1; omega)
/-- the hall that is told -/
def HallOk (s2 s3 : Int32) (so co w : Nat → Int32) : Prop := (∀ c : Nat, (c : Int) < s2.toInt → iv 0 3 (so c)) ∧ ∀ q : Nat, (q : Int) < s3.toInt → (co q).toInt < s2.toInt ∧ 1 ≤ (w q).toInt
theorem HallOk.str {s2 s3 q z y : Int32} {so co w : Nat → Int32} (h : HallOk s2 s3 so co w) (h0 : 0 ≤ q.toInt) (h1 : q.toInt < s3.toInt) (ez : z = co (Int32.toNatClampNeg q)) (hz : 0 ≤ z.toInt) (ey : y = so (Int32.toNatClampNeg z)) : iv 0 3 y := by
  have := toNatClampNeg_toInt h0
  have h2 := (h.2 (Int32.toNatClampNeg q) (by omega)).1
  rw [← ez] at h2
  have := toNatClampNeg_toInt hz
  rw [ey]
  exact h.1 _ (by omega)
theorem HallOk.wt {s2 s3 q z : Int32} {so co w : Nat → Int32} (h : HallOk s2 s3 so co w) (h0 : 0 ≤ q.toInt) (h1 : q.toInt < s3.toInt) (ez : z = w (Int32.toNatClampNeg q)) : 1 ≤ z.toInt := by
  have := toNatClampNeg_toInt h0
  rw [ez]
  exact (h.2 _ (by omega)).2
/-- who of a set sits on a strand -/
def OI (so co : Nat → Int32) (set s q its : Int32) : Prop := ∀ j : Nat, (j : Int) < q.toInt → bt set j = true → so (Int32.toNatClampNeg (co j)) = s → bt its j = true
theorem OI_0 {so co : Nat → Int32} {set s its : Int32} : OI so co set s 0 its := fun j h => by rw [sp0] at h; omega
theorem OI_t {so co : Nat → Int32} {set s q q' its its' z : Int32} (h : OI so co set s q its) (h0 : 0 ≤ q.toInt) (h1 : q.toInt < 32) (eq : q'.toInt = q.toInt + 1) (ez : z = 1 <<< (q &&& 31)) (e : its' = its ||| z) : OI so co set s q' its' := by
  intro j hj hb hs
  rw [b_add h0 h1 ez e (by omega)]
  by_cases hq : j = Int32.toNatClampNeg q
  · simp [hq]
  · have := toNatClampNeg_toInt h0
    rw [h j (by omega) hb hs]
    rfl
theorem OI_f {so co : Nat → Int32} {set s q q' its its' : Int32} (h : OI so co set s q its) (h0 : 0 ≤ q.toInt) (eq : q'.toInt = q.toInt + 1) (e : its' = its ||| 0) (hn : bt set (Int32.toNatClampNeg q) = true → so (Int32.toNatClampNeg (co (Int32.toNatClampNeg q))) = s → False) : OI so co set s q' its' := by
  intro j hj hb hs
  rw [b_same e]
  have := toNatClampNeg_toInt h0
  by_cases hq : j = Int32.toNatClampNeg q
  · subst hq
    exact absurd hs (fun q => hn hb q)
  · exact h j (by omega) hb hs
/-- a set's weight -/
def WI (set q sum : Int32) : Prop := ∀ j : Nat, (j : Int) < q.toInt → bt set j = true → 1 ≤ sum.toInt
theorem WI_0 {set sum : Int32} : WI set 0 sum := fun j h => by rw [sp0] at h; omega
theorem WI_t {set q q' sum sum' : Int32} (h : 1 ≤ sum'.toInt) : WI set q' sum' := fun _ _ _ => h
theorem WI_f {set q q' sum sum' : Int32} (h : WI set q sum) (h0 : 0 ≤ q.toInt) (eq : q'.toInt = q.toInt + 1) (e : sum'.toInt = sum.toInt) (hn : bt set (Int32.toNatClampNeg q) = false) : WI set q' sum' := by
  intro j hj hb
  have := toNatClampNeg_toInt h0
  by_cases hq : j = Int32.toNatClampNeg q
  · subst hq
    rw [hn] at hb
    cases hb
  · have := h j (by omega) hb
    omega
/-- who is dropped is of the set -/
def DI (set q now : Int32) : Prop := ∀ j : Nat, j < 32 → bt now j = true → bt set j = true ∧ (j : Int) < q.toInt
theorem DI_0 {set : Int32} : DI set 0 0 := fun j _ h => by rw [b_0] at h; cases h
theorem DI_t {set q q' now now' z : Int32} (h : DI set q now) (h0 : 0 ≤ q.toInt) (h1 : q.toInt < 32) (eq : q'.toInt = q.toInt + 1) (hs : bt set (Int32.toNatClampNeg q) = true) (ez : z = 1 <<< (q &&& 31)) (e : now' = now ||| z) : DI set q' now' := by
  intro j hj hb
  rw [b_add h0 h1 ez e hj] at hb
  have := toNatClampNeg_toInt h0
  by_cases hq : j = Int32.toNatClampNeg q
  · subst hq
    exact ⟨hs, by omega⟩
  · simp only [hq, decide_false, Bool.or_false] at hb
    have := h j hj hb
    exact ⟨this.1, by omega⟩
theorem DI_f {set q q' now now' : Int32} (h : DI set q now) (eq : q'.toInt = q.toInt + 1) (e : now' = now ||| 0) : DI set q' now' := by
  intro j hj hb
  rw [b_same e] at hb
  have := h j hj hb
  exact ⟨this.1, by omega⟩
theorem DI_le {set q q' now : Int32} (h : DI set q now) (hq : q.toInt ≤ q'.toInt) : DI set q' now := fun j hj hb => ⟨(h j hj hb).1, by have := (h j hj hb).2; omega⟩
/-- how many of a row are 1 -/
def cnt1 (f : Nat → Int32) : Nat → Nat
  | 0 => 0
  | n + 1 => cnt1 f n + (if (f n).toInt = 1 then 1 else 0)
theorem cnt1_le (f : Nat → Int32) : ∀ n, cnt1 f n ≤ n
  | 0 => Nat.le_refl _
  | n + 1 => by
    have := cnt1_le f n
    unfold cnt1
    split <;> omega
theorem cnt1_mono {f g : Nat → Int32} (h : ∀ j, (g j).toInt = 1 → (f j).toInt = 1) : ∀ n, cnt1 g n ≤ cnt1 f n
  | 0 => Nat.le_refl _
  | n + 1 => by
    have := cnt1_mono h n
    unfold cnt1
    by_cases hg : (g n).toInt = 1
    · rw [if_pos hg, if_pos (h n hg)]
      omega
    · rw [if_neg hg]
      split <;> omega
theorem cnt1_lt {f g : Nat → Int32} (h : ∀ j, (g j).toInt = 1 → (f j).toInt = 1) {i : Nat} (hf : (f i).toInt = 1) (hg : ¬ (g i).toInt = 1) : ∀ n, i < n → cnt1 g n < cnt1 f n
  | 0, h0 => absurd h0 (Nat.not_lt_zero _)
  | n + 1, h0 => by
    unfold cnt1
    by_cases q : i = n
    · subst q
      have := cnt1_mono h i
      rw [if_pos hf, if_neg hg]
      omega
    · have := cnt1_lt h hf hg n (by omega)
      by_cases hg : (g n).toInt = 1
      · rw [if_pos hg, if_pos (h n hg)]
        omega
      · rw [if_neg hg]
        split <;> omega
/-- those of a set are dropped, up to a place -/
def SI (f0 f : Nat → Int32) (now q : Int32) : Prop := ∀ j : Nat, ((j : Int) < q.toInt → bt now j = true → (f j).toInt = 2) ∧ (((f j).toInt = 2 ∧ bt now j = true) ∨ f j = f0 j)
theorem SI_0 {f : Nat → Int32} {now : Int32} : SI f f now 0 := fun j => ⟨fun h => by rw [sp0] at h; omega, Or.inr rfl⟩
theorem SI_t {f0 f g : Nat → Int32} {now q q' : Int32} (h : SI f0 f now q) (h0 : 0 ≤ q.toInt) (eq : q'.toInt = q.toInt + 1) (hb : bt now (Int32.toNatClampNeg q) = true) (e : g = upd f (Int32.toNatClampNeg q) 2) : SI f0 g now q' := by
  intro j
  have := toNatClampNeg_toInt h0
  by_cases hq : j = Int32.toNatClampNeg q
  · subst hq
    rw [e, pk_us]
    exact ⟨fun _ _ => by decide, Or.inl ⟨by decide, hb⟩⟩
  · rw [e, pk_un hq]
    exact ⟨fun h1 h2 => (h j).1 (by omega) h2, (h j).2⟩
theorem SI_f {f0 f g : Nat → Int32} {now q q' w : Int32} (h : SI f0 f now q) (h0 : 0 ≤ q.toInt) (eq : q'.toInt = q.toInt + 1) (hb : bt now (Int32.toNatClampNeg q) = false) (ew : w = f (Int32.toNatClampNeg q)) (e : g = upd f (Int32.toNatClampNeg q) w) : SI f0 g now q' := by
  intro j
  have := toNatClampNeg_toInt h0
  by_cases hq : j = Int32.toNatClampNeg q
  · subst hq
    rw [e, pk_us, ew]
    exact ⟨fun _ h2 => (by rw [hb] at h2; cases h2), (h _).2⟩
  · rw [e, pk_un hq]
    exact ⟨fun h1 h2 => (h j).1 (by omega) h2, (h j).2⟩
theorem bt_some {x : Int32} (h : x.toInt ≠ 0) : ∃ j, j < 32 ∧ bt x j = true := by
  refine Classical.byContradiction (fun q => h ?_)
  have : x = 0 := b_ext (fun i hi => by
    rw [b_0]
    cases hb : bt x i
    · rfl
    · exact absurd ⟨i, hi, hb⟩ q)
  rw [this]
  decide
theorem settle_dec {f0 f : Nat → Int32} {now s3 q : Int32} (hn : now.toInt ≠ 0) (hT : TI s3 f0 1 now) (h8 : s3.toInt ≤ 8) (hS : SI f0 f now q) (hq : s3.toInt ≤ q.toInt) : cnt1 f 8 < cnt1 f0 8 := by
  obtain ⟨j, hj, hb⟩ := bt_some hn
  obtain ⟨h1, h2⟩ := hT j hj hb
  have h3 : (f0 j).toInt = 1 := by rw [h2]; decide
  have h4 : (f j).toInt = 2 := (hS j).1 (by omega) hb
  refine cnt1_lt (fun i hi => ?_) h3 (by omega) 8 (by omega)
  rcases (hS i).2 with h | h
  · omega
  · rw [← h]; exact hi
theorem DI_TI {s3 q v set now : Int32} {f : Nat → Int32} (h : DI set q now) (h2 : TI s3 f v set) : TI s3 f v now := fun j hj hb => h2 j hj (h j hj hb).1
