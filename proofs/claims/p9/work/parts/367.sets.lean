/-! sets as numbers; loops over sitters -/
theorem lp_for {α β : Type} {body : (α → Option β) → α → Option β} {st : Nat → α} {q : Nat} {res : Option β} (hs : ∀ kk k, k < q → body kk (st k) = kk (st (k + 1))) (he : ∀ kk, body kk (st q) = res) : ∀ (r g k : Nat), k + r = q → r < g → lp body g (st k) = res
  | 0, g, k, h1, h2 => by
    obtain ⟨g, rfl⟩ : ∃ g', g = g' + 1 := ⟨g - 1, by omega⟩
    rw [lp_S, show k = q by omega, he]
  | r + 1, g, k, h1, h2 => by
    obtain ⟨g, rfl⟩ : ∃ g', g = g' + 1 := ⟨g - 1, by omega⟩
    rw [lp_S, hs _ k (by omega)]
    exact lp_for hs he r g (k + 1) (by omega) (by omega)
theorem nbS {n i : Nat} (hi : i < 32) : (nI n).toBitVec.getLsbD i = n.testBit i := by
  show (BitVec.ofNat 32 n).getLsbD i = _
  rw [BitVec.getLsbD_ofNat, decide_eq_true hi, Bool.true_and]
theorem n_or (a b : Nat) : nI a ||| nI b = nI (a ||| b) := Int32.toBitVec_inj.mp (BitVec.eq_of_getLsbD_eq (fun i hi => by
  rw [Int32.toBitVec_or, BitVec.getLsbD_or, nbS hi, nbS hi, nbS hi, Nat.testBit_or]))
theorem n_xor (a b : Nat) : nI a ^^^ nI b = nI (a ^^^ b) := Int32.toBitVec_inj.mp (BitVec.eq_of_getLsbD_eq (fun i hi => by
  rw [Int32.toBitVec_xor, BitVec.getLsbD_xor, nbS hi, nbS hi, nbS hi, Nat.testBit_xor]))
theorem bm1 : ∀ i, i < 32 → (-1 : Int32).toBitVec.getLsbD i = true := by decide +kernel
noncomputable def difS (a b : Nat) : Nat := a ^^^ (a &&& b)
theorem n_dif (a b : Nat) : nI a &&& (nI b ^^^ (-1)) = nI (difS a b) := Int32.toBitVec_inj.mp (BitVec.eq_of_getLsbD_eq (fun i hi => by
  rw [Int32.toBitVec_and, BitVec.getLsbD_and, Int32.toBitVec_xor, BitVec.getLsbD_xor, nbS hi, nbS hi, nbS hi, bm1 i hi]
  unfold difS
  rw [Nat.testBit_xor, Nat.testBit_and]
  cases a.testBit i <;> cases b.testBit i <;> rfl))
theorem p2_lt {k : Nat} (hk : k < 31) : 2 ^ k < 2 ^ 31 := Nat.pow_lt_pow_right (by decide) hk
theorem n_shl {k : Nat} (hk : k < 31) : (1 : Int32) <<< (nI k &&& 31) = nI (2 ^ k) := by
  have h := p2_lt hk
  have e := pk_shlN (n := 1) (nI k &&& 31) k (rb_l k (by omega)) (by omega)
  rw [Nat.one_mul] at e
  exact e
theorem bS_tb {S k : Nat} : bS S k ↔ S.testBit k = true := by
  rw [Nat.testBit_eq_decide_div_mod_eq, decide_eq_true_eq]
theorem bS_or {A B k : Nat} : bS (A ||| B) k ↔ bS A k ∨ bS B k := by
  rw [bS_tb, bS_tb, bS_tb, Nat.testBit_or, Bool.or_eq_true]
theorem bS_dif {A B k : Nat} : bS (difS A B) k ↔ bS A k ∧ ¬ bS B k := by
  unfold difS
  rw [bS_tb, bS_tb, bS_tb, Nat.testBit_xor, Nat.testBit_and]
  cases A.testBit k <;> cases B.testBit k <;> decide
theorem bS_2 {k j : Nat} : bS (2 ^ k) j ↔ j = k := by
  rw [bS_tb, Nat.testBit_two_pow, decide_eq_true_eq]
  exact ⟨fun h => h.symm, fun h => h.symm⟩
theorem bS_flip {S k j : Nat} : bS (S ^^^ 2 ^ k) j ↔ if j = k then ¬ bS S j else bS S j := by
  rw [bS_tb, bS_tb, Nat.testBit_xor, Nat.testBit_two_pow]
  by_cases e : j = k
  · rw [if_pos e, decide_eq_true e.symm]
    cases S.testBit j <;> decide
  · rw [if_neg e, decide_eq_false (fun z => e z.symm)]
    cases S.testBit j <;> decide
theorem bS_lt {S n j : Nat} (h : S < 2 ^ n) (hj : n ≤ j) : ¬ bS S j := by
  show ¬ S / 2 ^ j % 2 = 1
  rw [Nat.div_eq_of_lt (Nat.lt_of_lt_of_le h (Nat.pow_le_pow_right (by decide) hj))]
  decide
theorem lt_bS {S n : Nat} (h : ∀ j, n ≤ j → ¬ bS S j) : S < 2 ^ n := Nat.lt_pow_two_of_testBit S (fun i hi => by
  cases e : S.testBit i with
  | false => rfl
  | true => exact absurd (bS_tb.mpr e) (h i hi))
theorem eq_bS {A B : Nat} (h : ∀ j, bS A j ↔ bS B j) : A = B := Nat.eq_of_testBit_eq (fun i => Bool.eq_iff_iff.mpr (bS_tb.symm.trans ((h i).trans bS_tb)))
noncomputable def mk_ (c : Nat → Bool) : Nat → Nat
  | 0 => 0
  | n + 1 => if c n = true then mk_ c n ||| 2 ^ n else mk_ c n
theorem bS_mk {c : Nat → Bool} {j : Nat} : ∀ n, bS (mk_ c n) j ↔ j < n ∧ c j = true
  | 0 => ⟨fun h => absurd h (bS_0 j), fun h => absurd h.1 (Nat.not_lt_zero _)⟩
  | n + 1 => by
    have ih := bS_mk (c := c) (j := j) n
    show bS (if c n = true then mk_ c n ||| 2 ^ n else mk_ c n) j ↔ _
    by_cases e : c n = true
    · rw [if_pos e, bS_or, ih, bS_2]
      constructor
      · rintro (h | h)
        · exact ⟨by omega, h.2⟩
        · rw [h]
          exact ⟨by omega, e⟩
      · intro h
        by_cases z : j = n
        · exact Or.inr z
        · exact Or.inl ⟨by omega, h.2⟩
    · rw [if_neg e, ih]
      constructor
      · intro h
        exact ⟨by omega, h.2⟩
      · intro h
        refine ⟨?_, h.2⟩
        by_cases z : j = n
        · rw [z] at h
          exact absurd h.2 e
        · omega
theorem mk_lt {c : Nat → Bool} (n : Nat) : mk_ c n < 2 ^ n := lt_bS (fun j hj h => by
  have := ((bS_mk n).mp h).1
  omega)
theorem mk_eq {c : Nat → Bool} {S n : Nat} (hS : S < 2 ^ n) (h : ∀ j, j < n → (c j = true ↔ bS S j)) : mk_ c n = S := eq_bS (fun j => by
  rw [bS_mk]
  constructor
  · intro z
    exact (h j z.1).mp z.2
  · intro z
    have hj : j < n := by
      by_cases q : j < n
      · exact q
      · exact absurd z (bS_lt hS (by omega))
    exact ⟨hj, (h j hj).mpr z⟩)
theorem l28 {A n : Nat} (h : A < 2 ^ n) (hn : n ≤ 8) : A < 256 := Nat.lt_of_lt_of_le h (Nat.pow_le_pow_right (n := 2) (by decide) hn)
/-- a step of a loop that gathers a set -/
theorem mk_step {c : Nat → Bool} {k : Nat} (hk : k < 31) : (nI (mk_ c k) ||| (if c k = true then (1 : Int32) <<< (nI k &&& 31) else 0)) = nI (mk_ c (k + 1)) := by
  show _ = nI (if c k = true then mk_ c k ||| 2 ^ k else mk_ c k)
  by_cases e : c k = true
  · rw [if_pos e, if_pos e, n_shl hk, n_or]
  · rw [if_neg e, if_neg e, show (0 : Int32) = nI 0 from rfl, n_or, Nat.or_zero]
