/-! draws: by both -/
noncomputable def drN (v : Nat) : Nat := (v * 1103515245 + 12345) % 2147483648
theorem dr_lt (v : Nat) : drN v < 2 ^ 31 := Nat.mod_lt _ (by decide)
theorem dr_lin {v : Nat} (hv : v < 2 ^ 31) : ((Int32.toInt64 (nI v)) * 1103515245 + 12345).toInt = ((v * 1103515245 + 12345 : Nat) : Int) := by
  have e1 : (1103515245 : Int64).toInt = 1103515245 := by decide
  have e2 : (12345 : Int64).toInt = 12345 := by decide
  rw [Int64.toInt_add, Int64.toInt_mul, Int32.toInt_toInt64, nI_toInt hv, e1, e2]
  rw [Int.bmod_eq_of_le (n := (v : Int) * 1103515245) (by omega) (by omega), Int.bmod_eq_of_le (by omega) (by omega)]
  omega
theorem dr_32 {y : Int64} {v : Nat} (h : y.toInt = ((drN v : Nat) : Int)) : Int64.toInt32 y = nI (drN v) := by
  have hl := dr_lt v
  apply Int32.toInt_inj.mp
  rw [Int64.toInt_toInt32, h, nI_toInt hl]
  exact Int.bmod_eq_of_le (by omega) (by omega)
theorem dr_and {y : Int64} {n : Nat} (h : y.toInt = (n : Int)) (hn : n < 2 ^ 62) : (y &&& 2147483647).toInt = ((n % 2147483648 : Nat) : Int) := by
  have hl := y.toBitVec.isLt
  have hb : y.toBitVec.toNat = n := by
    have h1 : y.toBitVec.toInt = (n : Int) := h
    rw [BitVec.toInt_eq_toNat_cond] at h1
    split at h1 <;> omega
  have hm : n % 2147483648 < 2147483648 := Nat.mod_lt _ (by decide)
  have e : (y &&& 2147483647).toBitVec.toNat = n % 2147483648 := by
    rw [Int64.toBitVec_and, BitVec.toNat_and, hb, show (2147483647 : Int64).toBitVec.toNat = 2 ^ 31 - 1 from by decide, Nat.and_two_pow_sub_one_eq_mod]
  show (y &&& 2147483647).toBitVec.toInt = _
  rw [BitVec.toInt_eq_toNat_cond, e, if_pos (by omega)]
theorem c_next {F v : Nat} (hv : v < 2 ^ 31) : f_X8_nextDrawn F (nI v) = some (nI (drN v)) := by
  unfold f_X8_nextDrawn
  exact congrArg some (dr_32 (dr_and (dr_lin hv) (by omega)))
theorem dr_rem {v : Nat} (hv : v < 2 ^ 31) : Int64.toInt32 (((Int32.toInt64 (nI v)) * 1103515245 + 12345) - ((Int32.toInt64 (nI v)) * 1103515245 + 12345) / 2147483648 * 2147483648) = nI (drN v) := by
  refine dr_32 ?_
  have e1 : (2147483648 : Int64).toInt = 2147483648 := by decide
  have hd : ((Int32.toInt64 (nI v)) * 1103515245 + 12345).toInt.tdiv 2147483648 = (((v * 1103515245 + 12345) / 2147483648 : Nat) : Int) := by
    rw [dr_lin hv]
    exact Int.tdiv_eq_ediv_of_nonneg (Int.natCast_nonneg _)
  have hm := Nat.div_add_mod (v * 1103515245 + 12345) 2147483648
  have hk : (v * 1103515245 + 12345) / 2147483648 < 2 ^ 31 := Nat.div_lt_of_lt_mul (by omega)
  have hl := dr_lt v
  unfold drN at hl ⊢
  rw [Int64.toInt_sub, Int64.toInt_mul, Int64.toInt_div, e1, hd]
  rw [Int.bmod_eq_of_le (n := (((v * 1103515245 + 12345) / 2147483648 : Nat) : Int)) (by omega) (by omega), Int.bmod_eq_of_le (n := (((v * 1103515245 + 12345) / 2147483648 : Nat) : Int) * 2147483648) (by omega) (by omega), dr_lin hv, Int.bmod_eq_of_le (by omega) (by omega)]
  omega
/-- what is drawn, below a number -/
noncomputable def drO (v m : Nat) : Nat := (drN v / 65536) % m
theorem n_dv {a b : Nat} (ha : a < 2 ^ 31) (hb : b < 2 ^ 31) (h0 : 0 < b) : nI a / nI b = nI (a / b) := by
  have hd : a / b < 2 ^ 31 := Nat.lt_of_le_of_lt (Nat.div_le_self a b) ha
  apply Int32.toInt_inj.mp
  rw [Int32.toInt_div, nI_toInt ha, nI_toInt hb, nI_toInt hd, Int.tdiv_eq_ediv_of_nonneg (Int.natCast_nonneg _), show (a : Int) / (b : Int) = ((a / b : Nat) : Int) from rfl]
  generalize a / b = c at hd ⊢
  exact Int.bmod_eq_of_le (by omega) (by omega)
theorem n_rem {a b : Nat} (ha : a < 2 ^ 31) (hb : b < 2 ^ 31) (h0 : 0 < b) : nI a - nI a / nI b * nI b = nI (a % b) := by
  have hm := Nat.div_add_mod a b
  have e : a = a % b + a / b * b := by
    rw [Nat.mul_comm]
    omega
  rw [n_dv ha hb h0, pk_mul]
  conv => lhs; lhs; rw [e]
  rw [← nI_add]
  exact Int32.add_sub_cancel _ _
theorem c_draw {F v m : Nat} (hm : m < 2 ^ 31) (h0 : 0 < m) : ∃ q, f_X8_drawOf F (nI (drN v)) = some q ∧ q - q / nI m * nI m = nI (drO v m) := by
  have hl := dr_lt v
  refine ⟨nI (drN v / 65536), ?_, n_rem (Nat.lt_of_le_of_lt (Nat.div_le_self _ _) hl) hm h0⟩
  unfold f_X8_drawOf
  exact congrArg some (n_dv (b := 65536) hl (by decide) (by decide))
theorem r_draw {F v m : Nat} {mo : OB} (hv : v < 2 ^ 31) (hm : m < 2 ^ 31) (h0 : 0 < m) (h6 : mo.2.1 1 6 = nI v) : f_X9_draws F (nI m) mo = some (nI (drO v m), (mo.1, uF mo.2.1 1 (upd (mo.2.1 1) 6 (nI (drN v))), mo.2.2)) := by
  have hl := dr_lt v
  unfold f_X9_draws
  rw [if_pos (nI_ne0 h0 hm), show Int32.toNatClampNeg 6 = 6 from by decide, h6, dr_rem hv, pk_us, show nI (drN v) / 65536 = nI (drN v / 65536) from n_dv (b := 65536) hl (by decide) (by decide), n_rem (Nat.lt_of_le_of_lt (Nat.div_le_self _ _) hl) hm h0]
  rfl
/-! one is toasted -/
/-- who sits once one has turned -/
noncomputable def tnS (h : HLd) (cn : Nat → Nat) (S D k : Nat) : Nat × Nat × Nat := stl h cn 9 (sT1 D k (!decide (bS S k)) S) D 0
section TST
variable {F : Nat} {h : HLd} {cn : Nat → Nat} {S D mi k : Nat} {rm mo : OB}
theorem tn_bd (H : HOK h) (B : BDd (h.1 3) S D) (hk : k < h.1 3) : BDd (h.1 3) (tnS h cn S D k).1 (tnS h cn S D k).2.1 := (stl_bd H 9 _ _ _ (sT1_bd B hk) (Nat.pow_pos (by decide))).1
theorem c_turn (H : HOK h) (hc : ∀ k, k < h.1 1 → cn k ≤ 99) (C : CDd h cn S D mi rm) (B : BDd (h.1 3) S D) (hk : k < h.1 3) (hF : 600 ≤ F) : ∃ rm2, f_X3_turn F (nI k) rm = some rm2 ∧ CDd h cn (tnS h cn S D k).1 (tnS h cn S D k).2.1 mi rm2 ∧ KRd rm rm2 := by
  have hq := H.q8
  have hS8 := l28 B.1 hq
  have key : ∀ x : Int32, x = (if (!decide (bS S k)) = true then 1 else 0) → ∃ rm2, b_X3_turn_15 F x (nI k) rm = some rm2 ∧ CDd h cn (tnS h cn S D k).1 (tnS h cn S D k).2.1 mi rm2 ∧ KRd rm rm2 := fun x hx => by
    obtain ⟨rm2, e1, e2, e3⟩ := s_seat (F := F) (k := k) (b := !decide (bS S k)) (x := x) H C B hk hx
    obtain ⟨rm3, f1, f2, f3⟩ := s_settle (F := F) H hc hF e2 (sT1_bd B hk)
    refine ⟨rm3, ?_, f2, e3.tr f3⟩
    unfold b_X3_turn_15
    rw [e1, bd_some, f1, bd_some]
  unfold f_X3_turn
  rw [s_isDown C.1.1.2.2.2 C.2.1.1 (by omega) hk hq, bd_some]
  by_cases b : bS S k
  · rw [if_pos b, if_neg (show ¬ (1 : Int32) = 0 by decide)]
    exact key 0 (by rw [decide_eq_true b]; rfl)
  · rw [if_neg b, if_pos rfl]
    exact key 1 (by rw [decide_eq_false b]; rfl)
theorem r_turn (H : HOK h) (hc : ∀ k, k < h.1 1 → cn k ≤ 99) (M : MDd h cn S D mi mo) (B : BDd (h.1 3) S D) (hk : k < h.1 3) (hF : 600 ≤ F) : ∃ mo2, f_X9_toastOf F (nI k) mo = some mo2 ∧ MDd h cn (tnS h cn S D k).1 (tnS h cn S D k).2.1 mi mo2 ∧ KGd mo mo2 := by
  have hq := H.q8
  have key : ∀ x : Int32, (x = if bS D k then 2 else if (!decide (bS S k)) = true then 1 else 0) → ∃ mo2, b_X9_toastOf_27 F x (nI k) mo = some mo2 ∧ MDd h cn (tnS h cn S D k).1 (tnS h cn S D k).2.1 mi mo2 ∧ KGd mo mo2 := fun x hx => by
    have M2 := M.set (k := k) (b := !decide (bS S k)) (v := x) (mo' := mo) rfl hx
    obtain ⟨mo3, g1, g2, g3⟩ := s_settles (F := F) H hc hF M2 (sT1_bd B hk)
    have k0 : KGd mo (mo.1, uF mo.2.1 3 (upd (mo.2.1 3) k x), mo.2.2) := ⟨rfl, fun j p _ => uF_n p, fun _ _ => rfl, fun _ _ _ => rfl⟩
    refine ⟨mo3, ?_, g2, k0.tr g3.g⟩
    unfold b_X9_toastOf_27
    rw [if_pos (ib_n (show k < 8 by omega) (by decide)), nI_clamp (show k < 2 ^ 31 by omega), g1, bd_some]
  unfold f_X9_toastOf
  rw [if_pos (ib_n (show k < 8 by omega) (by decide)), nI_clamp (show k < 2 ^ 31 by omega), M.2.2.2 k hk]
  by_cases d : bS D k
  · rw [stt_2'.mpr d, if_pos (show nI 2 = 2 from rfl)]
    exact key 2 (by rw [if_pos d])
  · by_cases b : bS S k
    · rw [(stt_1 B).mpr b, if_neg (show ¬ nI 1 = 2 by decide)]
      exact key (1 - nI 1) (by rw [if_neg d, decide_eq_true b]; rfl)
    · rw [stt_0.mpr ⟨d, b⟩, if_neg (show ¬ nI 0 = 2 by decide)]
      exact key (1 - nI 0) (by rw [if_neg d, decide_eq_false b]; rfl)
end TST
