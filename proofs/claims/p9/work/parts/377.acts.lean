/-! acts that are kept: by the class -/
/-- how it was: who sat, who was dropped, the minute, the cane -/
abbrev Rc : Type := Nat × Nat × Nat × (Nat → Nat)
noncomputable def pkC (cn : Nat → Nat) : Nat := cn 0 + 128 * (cn 1 + 128 * (cn 2 + 128 * cn 3))
noncomputable def RcOK (h : HLd) (r : Rc) : Prop := BDd (h.1 3) r.1 r.2.1 ∧ r.2.2.1 ≤ 999 ∧ ∀ k, k < 4 → r.2.2.2 k ≤ 99
/-- the class's acts: the j-th newest -/
noncomputable def AKd (rc : Nat → Rc) (n : Nat) (ac : OB) : Prop := ∃ nx, nx < 20 ∧ n ≤ 20 ∧ ac.1 3 = nI nx ∧ ac.1 4 = nI n ∧ ∀ j, j < n → ac.2.1 0 ((nx + 19 - j) % 20) = nI ((rc j).1 + 256 * (rc j).2.1) ∧ ac.2.1 1 ((nx + 19 - j) % 20) = nI (rc j).2.2.1 ∧ ac.2.1 2 ((nx + 19 - j) % 20) = nI (pkC (rc j).2.2.2)
noncomputable def rcK (r : Rc) (rc : Nat → Rc) : Nat → Rc
  | 0 => r
  | j + 1 => rc j
theorem or_add {a b i : Nat} (h : b < 2 ^ i) : (a * 2 ^ i) ||| b = a * 2 ^ i + b := by
  rw [Nat.mul_comm]
  exact (Nat.two_pow_add_eq_or_of_lt h a).symm
theorem sh7 {p c : Nat} (hp : p < 2 ^ 24) (hc : c < 128) : (nI p <<< ((7 : Int32) &&& 31)) ||| nI c = nI (128 * p + c) := by
  rw [pk_shlN (7 &&& 31) 7 (by decide) (by omega), n_or, or_add (by omega)]
  exact congrArg nI (by omega)
theorem sh8 {p c : Nat} (hp : p < 2 ^ 22) (hc : c < 256) : nI c ||| (nI p <<< ((8 : Int32) &&& 31)) = nI (c + 256 * p) := by
  rw [pk_shlN (8 &&& 31) 8 (by decide) (by omega), n_or, Nat.or_comm, or_add (by omega)]
  exact congrArg nI (by omega)
section ACT
variable {F : Nat} {h : HLd} {cn : Nat → Nat} {S D mi : Nat} {rm ac : OB} {rc : Nat → Rc} {n : Nat}
theorem s_keep (H : HOK h) (C : CDd h cn S D mi rm) (B : BDd (h.1 3) S D) (hcn : ∀ k, k < 4 → cn k ≤ 99) (hF : 600 ≤ F) (A : AKd rc n ac) : ∃ ac2, f_X0_keep F ac rm = some ac2 ∧ AKd (rcK (S, D, mi, cn) rc) (min (n + 1) 20) ac2 := by
  obtain ⟨nx, h1, h2, h3, h4, h5⟩ := A
  have hS8 := l28 B.1 H.q8
  have hD8 := l28 B.2.1 H.q8
  obtain ⟨g, rfl⟩ : ∃ g, F = g + 1 + 1 + 1 + 1 + 1 := ⟨F - 5, by omega⟩
  have c0 := hcn 0 (by decide)
  have c1 := hcn 1 (by decide)
  have c2 := hcn 2 (by decide)
  have c3 := hcn 3 (by decide)
  have step : ∀ (g' p k : Nat) (A0 : OB), p < 2 ^ 24 → k < 4 → lp (b_X0_keep_38 (g + 1 + 1 + 1 + 1 + 1) rm) (g' + 1) (nI p, nI k, A0) = lp (b_X0_keep_38 (g + 1 + 1 + 1 + 1 + 1) rm) g' (nI (128 * p + cn k), nI k + (-1), A0) := fun g' p k A0 hp hk => by
    have := hcn k hk
    rw [lp_S, b_X0_keep_38]
    dsimp only
    rw [if_neg (nI_pos (by omega)), if_pos (ib_n hk (by decide)), nI_clamp (by omega), C.2.2.1 k hk, sh7 hp (by omega)]
  have fin : ∀ (g' p : Nat) (A0 : OB), A0.1 3 = nI nx → lp (b_X0_keep_38 (g + 1 + 1 + 1 + 1 + 1) rm) (g' + 1) (nI p, -1, A0) = some ((uF (uF A0.1 3 ((nI nx + 1) - (nI nx + 1) / 20 * 20)) 4 (if 20 < A0.1 4 + 1 then 20 else A0.1 4 + 1)), (uF A0.2.1 2 (upd (A0.2.1 2) nx (nI p))), A0.2.2) := fun g' p A0 e => by
    rw [lp_S, b_X0_keep_38]
    dsimp only
    rw [if_pos (by decide), e, if_pos (ib_n h1 (by decide)), nI_clamp (by omega)]
  refine ⟨((uF (uF ac.1 3 ((nI nx + 1) - (nI nx + 1) / 20 * 20)) 4 (if 20 < ac.1 4 + 1 then 20 else ac.1 4 + 1)), (uF (uF (uF ac.2.1 0 (upd (ac.2.1 0) nx (nI (S + 256 * D)))) 1 (upd (ac.2.1 1) nx (nI mi))) 2 (upd (ac.2.1 2) nx (nI (pkC cn)))), ac.2.2), ?_, (nx + 1) % 20, Nat.mod_lt _ (by decide), Nat.min_le_right _ _, ?_, ?_, fun j hj => ?_⟩
  · unfold f_X0_keep
    rw [h3, if_pos (ib_n h1 (by decide)), nI_clamp (by omega), C.2.1.1, C.2.1.2.1, C.2.1.2.2, sh8 (by omega) (by omega), show (0 : Int32) = nI 0 from rfl, show (3 : Int32) = nI 3 from rfl, step _ 0 3 _ (by decide) (by decide), show nI 3 + (-1) = nI 2 from pk_m1 2, step _ _ 2 _ (by omega) (by decide), show nI 2 + (-1) = nI 1 from pk_m1 1, step _ _ 1 _ (by omega) (by decide), show nI 1 + (-1) = nI 0 from pk_m1 0, step _ _ 0 _ (by omega) (by decide), show nI 0 + (-1) = -1 from by decide, fin _ _ (ac.1, uF (uF ac.2.1 0 (upd (ac.2.1 0) nx (nI (S + 256 * D)))) 1 (upd (ac.2.1 1) nx (nI mi)), ac.2.2) h3]
    rw [show 128 * (128 * (128 * (128 * 0 + cn 3) + cn 2) + cn 1) + cn 0 = pkC cn from by unfold pkC; omega]
    rfl
  · show uF (uF ac.1 3 ((nI nx + 1) - (nI nx + 1) / 20 * 20)) 4 (if 20 < ac.1 4 + 1 then 20 else ac.1 4 + 1) 3 = _
    rw [uF_n (by decide), uF_s, nI_1, show (20 : Int32) = nI 20 from rfl, pk_rem (by omega) (by decide) (by decide)]
  · show uF (uF ac.1 3 ((nI nx + 1) - (nI nx + 1) / 20 * 20)) 4 (if 20 < ac.1 4 + 1 then 20 else ac.1 4 + 1) 4 = _
    rw [uF_s, h4, nI_1]
    by_cases z : n = 20
    · rw [z]
      decide
    · rw [if_neg (show ¬ (20 : Int32) < nI (n + 1) from nI_nlt (a := 20) (b := n + 1) (by omega) (by omega)), show min (n + 1) 20 = n + 1 by omega]
  · cases j with
    | zero =>
      rw [show ((nx + 1) % 20 + 19 - 0) % 20 = nx by omega]
      refine ⟨?_, ?_, ?_⟩
      · exact pk_us
      · exact pk_us
      · exact pk_us
    | succ j =>
      have e : ((nx + 1) % 20 + 19 - (j + 1)) % 20 = (nx + 19 - j) % 20 := by omega
      have ne : (nx + 19 - j) % 20 ≠ nx := by omega
      obtain ⟨a1, a2, a3⟩ := h5 j (by omega)
      rw [e]
      refine ⟨?_, ?_, ?_⟩
      · exact (pk_un ne).trans a1
      · exact (pk_un ne).trans a2
      · exact (pk_un ne).trans a3
theorem pk_get {cn : Nat → Nat} (hcn : ∀ k, k < 4 → cn k ≤ 99) {k : Nat} (hk : k < 4) : pkC cn / 2 ^ (7 * k) % 128 = cn k ∧ pkC cn < 2 ^ 31 := by
  have c0 := hcn 0 (by decide)
  have c1 := hcn 1 (by decide)
  have c2 := hcn 2 (by decide)
  have c3 := hcn 3 (by decide)
  unfold pkC
  refine ⟨?_, by omega⟩
  rcases (show k = 0 ∨ k = 1 ∨ k = 2 ∨ k = 3 by omega) with e | e | e | e <;> subst e
  · show _ / 1 % 128 = _
    omega
  · show _ / 128 % 128 = _
    omega
  · show _ / 16384 % 128 = _
    omega
  · show _ / 2097152 % 128 = _
    omega
/-- what an act left is taken back -/
theorem s_take0 (H : HOK h) (C : CDd h cn S D mi rm) (hF : 600 ≤ F) (A : AKd rc (n + 1) ac) (hr : RcOK h (rc 0)) : ∃ ac2 rm2, f_X0_takeBack F ac rm = some (ac2, rm2) ∧ AKd (fun j => rc (j + 1)) n ac2 ∧ CDd h (rc 0).2.2.2 (rc 0).1 (rc 0).2.1 (rc 0).2.2.1 rm2 ∧ (∀ j, j ≠ 10 → j ≠ 11 → j ≠ 12 → rm2.1 j = rm.1 j) ∧ ∀ j, j ≠ 9 → j ≠ 13 → j ≠ 14 → rm2.2.1 j = rm.2.1 j := by
  obtain ⟨nx, h1, h2, h3, h4, h5⟩ := A
  obtain ⟨q1, q2, q3⟩ := h5 0 (by omega)
  have hS8 := l28 hr.1.1 H.q8
  have hD8 := l28 hr.1.2.1 H.q8
  rw [show (nx + 19 - 0) % 20 = (nx + 19) % 20 by omega] at q1 q2 q3
  have hp : (nx + 19) % 20 < 20 := Nat.mod_lt _ (by decide)
  have ep : ((nI nx + 20) - 1) - ((nI nx + 20) - 1) / 20 * 20 = nI ((nx + 19) % 20) := by
    rw [show (20 : Int32) = nI 20 from rfl, nI_add, show nI (nx + 20) - 1 = nI (nx + 19) from nI_pred (nx + 19), pk_rem (by omega) (by decide) (by decide)]
  have e10 : nI ((rc 0).1 + 256 * (rc 0).2.1) &&& 255 = nI (rc 0).1 := by
    rw [pk_andN (by omega) 8 (by decide)]
    exact congrArg nI (by omega)
  have e11 : nI ((rc 0).1 + 256 * (rc 0).2.1) >>> ((8 : Int32) &&& 31) = nI (rc 0).2.1 := by
    rw [pk_shrN (by omega) (8 &&& 31) 8 (by decide)]
    exact congrArg nI (by omega)
  have K1 : ∀ row : Nat → Int32, HKd h ((uF (uF (uF rm.1 10 (nI (rc 0).1)) 11 (nI (rc 0).2.1)) 12 (nI (rc 0).2.2.1)), uF rm.2.1 9 row, rm.2.2) := fun row => C.1
  have lpE : lp (b_X0_takeBack_82 F) F (nI 0, ((uF (uF ac.1 3 (nI ((nx + 19) % 20))) 4 (nI n)), ac.2.1, ac.2.2), ((uF (uF (uF rm.1 10 (nI (rc 0).1)) 11 (nI (rc 0).2.1)) 12 (nI (rc 0).2.2.1)), uF rm.2.1 9 (fun j => if j < 0 then nI ((rc 0).2.2.2 j) else rm.2.1 9 j), rm.2.2)) = Option.bind (f_X3_weigh F ((uF (uF (uF rm.1 10 (nI (rc 0).1)) 11 (nI (rc 0).2.1)) 12 (nI (rc 0).2.2.1)), uF rm.2.1 9 (fun j => if j < 4 then nI ((rc 0).2.2.2 j) else rm.2.1 9 j), rm.2.2)) (fun q2 => some (((uF (uF ac.1 3 (nI ((nx + 19) % 20))) 4 (nI n)), ac.2.1, ac.2.2), q2)) := by
    refine lp_for (st := fun k => (nI k, ((uF (uF ac.1 3 (nI ((nx + 19) % 20))) 4 (nI n)), ac.2.1, ac.2.2), ((uF (uF (uF rm.1 10 (nI (rc 0).1)) 11 (nI (rc 0).2.1)) 12 (nI (rc 0).2.2.1)), uF rm.2.1 9 (fun j => if j < k then nI ((rc 0).2.2.2 j) else rm.2.1 9 j), rm.2.2))) (q := 4) (fun kk k hk => ?_) (fun kk => ?_) 4 F 0 (by omega) (by omega)
    · obtain ⟨g1, g2⟩ := pk_get hr.2.2 hk
      unfold b_X0_takeBack_82
      dsimp only
      rw [if_neg (show ¬ (4 : Int32) ≤ nI k from nI_ge (a := k) (b := 4) hk (by decide)), if_pos (show ib ((uF (uF ac.1 3 (nI ((nx + 19) % 20))) 4 (nI n)) 3) 20 from ib_n hp (by decide)), if_pos (ib_n hk (by decide)), show (uF (uF ac.1 3 (nI ((nx + 19) % 20))) 4 (nI n)) 3 = nI ((nx + 19) % 20) from rfl, nI_clamp (show (nx + 19) % 20 < 2 ^ 31 by omega), q3, nI_clamp (show k < 2 ^ 31 by omega), show (7 : Int32) = nI 7 from rfl, pk_mul, pk_shrN g2 _ (7 * k) (rb_l (7 * k) (by omega)), pk_andN (by have := Nat.div_le_self (pkC (rc 0).2.2.2) (2 ^ (7 * k)); omega) 7 (by decide), show pkC (rc 0).2.2.2 / 2 ^ (7 * k) % 2 ^ 7 = (rc 0).2.2.2 k from g1, nI_1, uF_uF, uF_s]
      rw [show upd (fun j => if j < k then nI ((rc 0).2.2.2 j) else rm.2.1 9 j) k (nI ((rc 0).2.2.2 k)) = (fun j => if j < k + 1 then nI ((rc 0).2.2.2 j) else rm.2.1 9 j) from funext (fun j => by
        by_cases e : j = k
        · rw [e, pk_us, if_pos (by omega)]
        · rw [pk_un e]
          by_cases z : j < k
          · rw [if_pos z, if_pos (by omega)]
          · rw [if_neg z, if_neg (by omega)])]
    · unfold b_X0_takeBack_82
      dsimp only
      rw [if_pos (show (4 : Int32) ≤ nI 4 by decide)]
  obtain ⟨l2, e2, w1, w2⟩ := s_weigh (F := F) (S := (rc 0).1) H (K1 (fun j => if j < 4 then nI ((rc 0).2.2.2 j) else rm.2.1 9 j)) rfl (by omega) hF
  refine ⟨((uF (uF ac.1 3 (nI ((nx + 19) % 20))) 4 (nI n)), ac.2.1, ac.2.2), ((uF (uF (uF rm.1 10 (nI (rc 0).1)) 11 (nI (rc 0).2.1)) 12 (nI (rc 0).2.2.1)), uF (uF (uF rm.2.1 9 (fun j => if j < 4 then nI ((rc 0).2.2.2 j) else rm.2.1 9 j)) 13 l2) 14 e2, rm.2.2), ?_, ⟨(nx + 19) % 20, hp, by omega, rfl, rfl, fun j hj => ?_⟩, ⟨C.1, ⟨rfl, rfl, rfl⟩, fun k hk => if_pos hk, w2⟩, fun j a b c => ?_, fun j a b c => ?_⟩
  rotate_left 1
  · obtain ⟨a1, a2, a3⟩ := h5 (j + 1) (by omega)
    rw [show ((nx + 19) % 20 + 19 - j) % 20 = (nx + 19 - (j + 1)) % 20 by omega]
    exact ⟨a1, a2, a3⟩
  · show uF (uF (uF rm.1 10 _) 11 _) 12 _ j = _
    rw [uF_n c, uF_n b, uF_n a]
  · show uF (uF (uF rm.2.1 9 _) 13 l2) 14 e2 j = _
    rw [uF_n c, uF_n b, uF_n a]
  · unfold f_X0_takeBack
    rw [h4, if_pos (show (0 : Int32) < nI (n + 1) from nI_lt (a := 0) (b := n + 1) (by omega) (by omega)), h3, ep, if_pos (ib_n hp (by decide)), nI_clamp (show (nx + 19) % 20 < 2 ^ 31 by omega), q1, q2, e10, e11, nI_pred]
    rw [w1, bd_some] at lpE
    refine Eq.trans ?_ lpE
    rw [show (fun j => if j < 0 then nI ((rc 0).2.2.2 j) else rm.2.1 9 j) = rm.2.1 9 from funext (fun j => if_neg (Nat.not_lt_zero _)), uF_id]
    rfl
end ACT
