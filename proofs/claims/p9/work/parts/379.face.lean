/-! what is asked with: arguments by both -/
/-- an argument is out of a range, or in it -/
theorem in_32 {F : Nat} {x : Int32} {n : Nat} (hn : n ≤ 400) : f_X9_in F (Int32.toInt64 x) 0 (Int32.toInt64 (nI n - 1)) = some (if 0 ≤ x.toInt ∧ x.toInt < n then 1 else 0) := by
  rw [s_in]
  have e1 : (Int32.toInt64 x).toInt = x.toInt := Int32.toInt_toInt64 x
  have e2 : (Int32.toInt64 (nI n - 1)).toInt = (n : Int) - 1 := by
    rw [Int32.toInt_toInt64]
    exact pk_sub_toInt (b := 1) (by omega) (by decide)
  rw [e1, e2, show (0 : Int64).toInt = 0 from by decide]
  by_cases c : 0 ≤ x.toInt ∧ x.toInt < n
  · rw [if_pos c, if_pos (by omega)]
  · rw [if_neg c, if_neg (by omega)]
theorem in_c {F : Nat} {x : Int32} {a b : Int64} {la lb : Int} (ha : a.toInt = la) (hb : b.toInt = lb) : f_X9_in F (Int32.toInt64 x) a b = some (if la ≤ x.toInt ∧ x.toInt ≤ lb then 1 else 0) := by
  rw [s_in, Int32.toInt_toInt64, ha, hb]
theorem ix_of {x : Int32} {n : Nat} (h : 0 ≤ x.toInt ∧ x.toInt < n) : ∃ k, k < n ∧ x = nI k := by
  obtain ⟨j, hj, e⟩ := nI_of (x := x) (fun z => by
    have := Int32.lt_iff_toInt_lt.mp z
    rw [sp0] at this
    omega)
  rw [e, nI_toInt hj] at h
  exact ⟨j, by omega, e⟩
theorem ix_no {x : Int32} {n : Nat} (hn : n < 2 ^ 31) (h : ¬ (0 ≤ x.toInt ∧ x.toInt < n)) : x < 0 ∨ (¬ x < 0 ∧ nI n ≤ x) := by
  by_cases z : x < 0
  · exact Or.inl z
  · refine Or.inr ⟨z, ?_⟩
    rw [sp_lt, sp0] at z
    rw [sp_le, nI_toInt hn]
    omega
section FAC
variable {F : Nat} {h : HLd} {cn : Nat → Nat} {S D mi : Nat} {rm mo : OB} {x : Int32}
abbrev inR (x : Int32) (n : Nat) : Prop := 0 ≤ x.toInt ∧ x.toInt < n
theorem c_hasStrand {q : Nat} (h3 : rm.1 1 = nI q) (hq : q ≤ 8) : f_X3_hasStrand F x rm = some (if inR x q then 1 else 0) := by
  unfold f_X3_hasStrand b_X3_hasStrand_16 b_X3_hasStrand_17
  by_cases c : inR x q
  · obtain ⟨k, hk, rfl⟩ := ix_of c
    rw [if_neg (nI_pos (by omega)), h3, if_neg (nI_ge hk (by omega)), if_pos (Or.inr rfl), if_pos c]
  · rcases ix_no (by omega) c with z | ⟨z, w⟩
    · rw [if_pos z, if_pos (Or.inl rfl), if_neg c]
    · rw [if_neg z, h3, if_pos w, if_pos (Or.inl rfl), if_neg c]
theorem c_hasChair {q : Nat} (h3 : rm.1 2 = nI q) (hq : q ≤ 8) : f_X3_hasChair F x rm = some (if inR x q then 1 else 0) := by
  unfold f_X3_hasChair b_X3_hasChair_16 b_X3_hasChair_17
  by_cases c : inR x q
  · obtain ⟨k, hk, rfl⟩ := ix_of c
    rw [if_neg (nI_pos (by omega)), h3, if_neg (nI_ge hk (by omega)), if_pos (Or.inr rfl), if_pos c]
  · rcases ix_no (by omega) c with z | ⟨z, w⟩
    · rw [if_pos z, if_pos (Or.inl rfl), if_neg c]
    · rw [if_neg z, h3, if_pos w, if_pos (Or.inl rfl), if_neg c]
theorem c_hasSitter {q : Nat} (h3 : rm.1 3 = nI q) (hq : q ≤ 8) : f_X3_hasSitter F x rm = some (if inR x q then 1 else 0) := by
  unfold f_X3_hasSitter b_X3_hasSitter_16 b_X3_hasSitter_17
  by_cases c : inR x q
  · obtain ⟨k, hk, rfl⟩ := ix_of c
    rw [if_neg (nI_pos (by omega)), h3, if_neg (nI_ge hk (by omega)), if_pos (Or.inr rfl), if_pos c]
  · rcases ix_no (by omega) c with z | ⟨z, w⟩
    · rw [if_pos z, if_pos (Or.inl rfl), if_neg c]
    · rw [if_neg z, h3, if_pos w, if_pos (Or.inl rfl), if_neg c]
/-- those who sit, by an argument -/
theorem c_isDown (H : HOK h) (C : CDd h cn S D mi rm) (B : BDd (h.1 3) S D) : f_X3_isDown F x rm = some (if inR x (h.1 3) ∧ bS S (nat_ x) then 1 else 0) := by
  have hq := H.q8
  have hS8 := l28 B.1 hq
  by_cases c : inR x (h.1 3)
  · obtain ⟨k, hk, rfl⟩ := ix_of c
    rw [s_isDown C.1.1.2.2.2 C.2.1.1 (by omega) hk hq, (nat_n rfl (show k < 2 ^ 31 by omega)).1]
    by_cases b : bS S k
    · rw [if_pos b, if_pos ⟨c, b⟩]
    · rw [if_neg b, if_neg (fun z => b z.2)]
  · rw [if_neg (fun z => c z.1)]
    unfold f_X3_isDown b_X3_isDown_27 b_X3_isDown_28
    rcases ix_no (by omega) c with z | ⟨z, w⟩
    · rw [if_pos z, if_pos (Or.inl rfl)]
    · rw [if_neg z, C.1.1.2.2.2, if_pos w, if_pos (Or.inl rfl)]
theorem c_isUp (H : HOK h) (C : CDd h cn S D mi rm) (B : BDd (h.1 3) S D) : f_X3_isUp F x rm = some (if inR x (h.1 3) ∧ ¬ bS D (nat_ x) then 1 else 0) := by
  have hq := H.q8
  have hD8 := l28 B.2.1 hq
  by_cases c : inR x (h.1 3)
  · obtain ⟨k, hk, rfl⟩ := ix_of c
    rw [s_isUp C.1.1.2.2.2 C.2.1.2.1 (by omega) hk hq, (nat_n rfl (show k < 2 ^ 31 by omega)).1]
    by_cases b : bS D k
    · rw [if_pos b, if_neg (fun z => z.2 b)]
    · rw [if_neg b, if_pos ⟨c, b⟩]
  · rw [if_neg (fun z => c z.1)]
    unfold f_X3_isUp b_X3_isUp_27 b_X3_isUp_28
    rcases ix_no (by omega) c with z | ⟨z, w⟩
    · rw [if_pos z, if_pos (Or.inl rfl)]
    · rw [if_neg z, C.1.1.2.2.2, if_pos w, if_pos (Or.inl rfl)]
/-- how one is, by an argument -/
theorem c_stateOf (H : HOK h) (C : CDd h cn S D mi rm) (B : BDd (h.1 3) S D) : f_X3_stateOf F x rm = some (if inR x (h.1 3) then nI (stt S D (nat_ x)) else -1) := by
  have hq := H.q8
  have hS8 := l28 B.1 hq
  have hD8 := l28 B.2.1 hq
  unfold f_X3_stateOf b_X3_stateOf_39
  rw [c_hasSitter C.1.1.2.2.2 hq, bd_some]
  by_cases c : inR x (h.1 3)
  · obtain ⟨k, hk, rfl⟩ := ix_of c
    rw [if_pos c, if_neg (show ¬ (1 : Int32) = 0 by decide), C.2.1.1, C.2.1.2.1, (nat_n rfl (show k < 2 ^ 31 by omega)).1, if_pos c]
    unfold stt
    by_cases a : bS D k
    · rw [if_neg (fun z => (r_bit0 (show D < 2 ^ 31 by omega) (by omega)).mp z a), if_pos a]
      rfl
    · rw [if_pos ((r_bit0 (show D < 2 ^ 31 by omega) (by omega)).mpr a), if_neg a]
      by_cases b : bS S k
      · rw [if_neg (fun z => (r_bit0 (show S < 2 ^ 31 by omega) (by omega)).mp z b), if_pos b]
        rfl
      · rw [if_pos ((r_bit0 (show S < 2 ^ 31 by omega) (by omega)).mpr b), if_neg b]
        rfl
  · rw [if_neg c, if_pos rfl, if_neg c]
theorem c_gives (H : HOK h) (hc : ∀ k, k < h.1 1 → cn k ≤ 99) (C : CDd h cn S D mi rm) (B : BDd (h.1 3) S D) : f_X3_givesUnder F x rm = some (if inR x (h.1 3) then nI (gvS h cn S (nat_ x)) else 0) := by
  have hq := H.q8
  have hS8 := l28 B.1 hq
  by_cases c : inR x (h.1 3)
  · obtain ⟨k, hk, rfl⟩ := ix_of c
    rw [if_pos c, s_gives H hc C (by omega) hk, (nat_n rfl (show k < 2 ^ 31 by omega)).1]
  · rw [if_neg c]
    unfold f_X3_givesUnder b_X3_givesUnder_23
    rcases ix_no (by omega) c with z | ⟨z, w⟩
    · rw [if_pos z]
    · rw [if_neg z, C.1.1.2.2.2, if_pos w]
/-! the reference -/
theorem r_isStrand (H : HOK h) (M : MKd h mo) : f_X9_isStrand F x mo = some (if inR x (h.1 1) then 1 else 0) := by
  have h4 := H.2.1
  unfold f_X9_isStrand
  rw [show Int32.toNatClampNeg 1 = 1 from by decide, M.1.2.1, in_32 (by omega), bd_some, if_pos s_bo01]
theorem r_isSitter (H : HOK h) (M : MKd h mo) : f_X9_isSitter F x mo = some (if inR x (h.1 3) then 1 else 0) := by
  have hq := H.q8
  unfold f_X9_isSitter
  rw [t3, M.1.2.2.2, in_32 (by omega), bd_some, if_pos s_bo01]
theorem r_isChair (H : HOK h) (M : MKd h mo) : f_X9_isChair F x mo = some (if inR x (h.1 2) then 1 else 0) := by
  have h8 := H.2.2.1
  unfold f_X9_isChair
  rw [show Int32.toNatClampNeg 2 = 2 from by decide, M.1.2.2.1, in_32 (by omega), bd_some, if_pos s_bo01]
theorem r_isHall (H : HOK h) (M : MKd h mo) : f_X9_isHall F mo = some (if h.1 0 = 1 then 1 else 0) := by
  have h1 := H.1
  unfold f_X9_isHall b_X9_isHall_15
  rw [show Int32.toNatClampNeg 0 = 0 from by decide, M.1.1]
  by_cases c : h.1 0 = 1
  · rw [if_pos (by rw [c]; rfl), if_pos (Or.inr rfl), if_pos c]
  · rw [if_neg (show ¬ nI (h.1 0) = (1 : Int32) from fun z => c ((nI_eq (b := 1) (by omega) (by decide)).mp z)), if_pos (Or.inl rfl), if_neg c]
theorem r_isSo {st : Nat} (H : HOK h) (M : MDd h cn S D mi mo) (hst : st < 3) : f_X9_isSo F x (nI st) mo = some (if inR x (h.1 3) ∧ stt S D (nat_ x) = st then 1 else 0) := by
  have hq := H.q8
  unfold f_X9_isSo b_X9_isSo_22 b_X9_isSo_23
  rw [r_isSitter H M.1, bd_some]
  by_cases c : inR x (h.1 3)
  · obtain ⟨k, hk, rfl⟩ := ix_of c
    have hl := stt_lt S D k
    rw [if_pos c, if_neg (show ¬ (1 : Int32) = 0 by decide), if_pos (ib_n (show k < 8 by omega) (by decide)), nI_clamp (show k < 2 ^ 31 by omega), M.2.2.2 k hk, (nat_n rfl (show k < 2 ^ 31 by omega)).1]
    by_cases e : stt S D k = st
    · rw [if_pos (by rw [e]), if_pos (Or.inr rfl), if_pos ⟨c, e⟩]
    · rw [if_neg (fun z => e ((nI_eq (by omega) (by omega)).mp z)), if_pos (Or.inl rfl), if_neg (fun z => e z.2)]
  · rw [if_neg c, if_pos rfl, if_pos (Or.inl rfl), if_neg (fun z => c z.1)]
end FAC
