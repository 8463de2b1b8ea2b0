/-! toasts: all plays, by both -/
theorem ite_no {c : Prop} {dc : Decidable c} {α : Type} {x y z : α} (h1 : c → x = z) (h2 : ¬ c → y = z) : (@ite α c dc x y) = z := by
  by_cases e : c
  · rw [if_pos e]
    exact h1 e
  · rw [if_neg e]
    exact h2 e
theorem one_of {P : Prop} {dp : Decidable P} (h : ¬ (@ite Int32 P dp 1 0) = 0) : P := Classical.byContradiction (fun z => h (if_neg z))
/-- what x is ahead of each play -/
noncomputable def plX (R : Nat → Nat → Int32) (rl : Option Nat) (h : HLd) (cn : Nat → Nat) (S D mi od n x : Nat) : Nat → Nat
  | 0 => x
  | i + 1 => (tsS R rl h cn mi od (plX R rl h cn S D mi od n x i, S, D) n).1
/-- how a play ends -/
noncomputable def plP (R : Nat → Nat → Int32) (rl : Option Nat) (h : HLd) (cn : Nat → Nat) (S D mi od n x i : Nat) : Nat × Nat × Nat := tsS R rl h cn mi od (plX R rl h cn S D mi od n x i, S, D) n
/-- how many there were in all plays so far -/
noncomputable def plA (what : Int32) (R : Nat → Nat → Int32) (rl : Option Nat) (h : HLd) (cn : Nat → Nat) (S D mi od n x : Nat) : Nat → Nat
  | 0 => 0
  | i + 1 => plA what R rl h cn S D mi od n x i + cntN (if what = 0 then (plP R rl h cn S D mi od n x i).2.2 else (plP R rl h cn S D mi od n x i).2.1)
section TOA
variable {F : Nat} {h : HLd} {cn : Nat → Nat} {S D mi od n x : Nat} {rm tm mo : OB} {rz : Nat → OB} {rl : Option Nat} {e : Int32} {xi si : Nat → Int32} {xrr : Nat → Option Nat}
theorem plX_lt {R : Nat → Nat → Int32} (H : HOK h) (B : BDd (h.1 3) S D) (hx : x < 2 ^ 31) : ∀ i, plX R rl h cn S D mi od n x i < 2 ^ 31
  | 0 => hx
  | i + 1 => (ts_bd (R := R) (rl := rl) (cn := cn) (mi := mi) (od := od) (p := (plX R rl h cn S D mi od n x i, S, D)) H (plX_lt H B hx i) B n).1
theorem plP_bd {R : Nat → Nat → Int32} (H : HOK h) (B : BDd (h.1 3) S D) (hx : x < 2 ^ 31) (i : Nat) : BDd (h.1 3) (plP R rl h cn S D mi od n x i).2.1 (plP R rl h cn S D mi od n x i).2.2 := (ts_bd (R := R) (rl := rl) (cn := cn) (mi := mi) (od := od) (p := (plX R rl h cn S D mi od n x i, S, D)) H (plX_lt H B hx i) B n).2
/-- the plays of the class -/
theorem toc_loop {m : Nat} {what : Int32} (H : HOK h) (hc : ∀ k, k < h.1 1 → cn k ≤ 99) (C : CDd h cn S D mi rm) (B : BDd (h.1 3) S D) (hF : 600 ≤ F) (hn : n ≤ 60) (ho : od ≤ 100) (hx0 : x < 2 ^ 31) (hm : m ≤ 10) (hw : Rw (rm.2.1 4) 4 99) (hri : f_X8_ruleInForce F xi xrr si = some e) : ∀ (r i g : Nat) (tm : OB) (rz : Nat → OB), i + r = m → r < g → RLx rl e rz mo → ∃ tm2 rz2, lp (b_X8_toasts_75 F xi xrr si rm) g (nI m, nI n, nI od, what, nI (plX mo.2.1 rl h cn S D mi od n x i), nI (plA what mo.2.1 rl h cn S D mi od n x i), nI i, tm, rz) = some (nI (plA what mo.2.1 rl h cn S D mi od n x m), tm2, rz2) ∧ RZk rz rz2 ∧ (Rw (tm.2.1 4) 4 99 → Rw (tm2.2.1 4) 4 99)
  | 0, i, g, tm, rz, h1, h2, hxx => by
    obtain ⟨g, rfl⟩ : ∃ g', g = g' + 1 := ⟨g - 1, by omega⟩
    have ei : i = m := by omega
    subst ei
    refine ⟨tm, rz, ?_, RZk.rf, fun z => z⟩
    rw [lp_S, b_X8_toasts_75]
    dsimp only
    rw [if_pos (nI_le (Nat.le_refl _) (by omega))]
  | r + 1, i, g, tm, rz, h1, h2, hxx => by
    obtain ⟨g, rfl⟩ : ∃ g', g = g' + 1 := ⟨g - 1, by omega⟩
    have hq := H.q8
    have hX := plX_lt (R := mo.2.1) (rl := rl) (cn := cn) (mi := mi) (od := od) (n := n) H B hx0 i
    have hB := plP_bd (R := mo.2.1) (rl := rl) (cn := cn) (mi := mi) (od := od) (n := n) H B hx0 i
    obtain ⟨t0, a1, a2, a3, a4, a5⟩ := s_copyFrom (F := F) (rm := tm) H C
    obtain ⟨t1, rz1, b1, b2, b3, b4⟩ := tsc_loop (F := F) (mo := mo) (rm := rm) (xi := xi) (si := si) (xrr := xrr) (od := od) (p := (plX mo.2.1 rl h cn S D mi od n x i, S, D)) H hc hF hn ho hX B n 0 F t0 rz (by omega) (by omega) hxx a2 (hld0 a3)
    have b1 : lp (b_X8_playToasts_26 F xi xrr si rm) F (nI n, nI od, e, nI (plX mo.2.1 rl h cn S D mi od n x i), nI 0, t0, rz) = some (nI (plX mo.2.1 rl h cn S D mi od n x (i + 1)), t1, rz1) := b1
    have b2 : CDd h cn (plP mo.2.1 rl h cn S D mi od n x i).2.1 (plP mo.2.1 rl h cn S D mi od n x i).2.2 (mi + n) t1 := b2
    have pl : f_X8_playToasts F (nI n) (nI od) (nI (plX mo.2.1 rl h cn S D mi od n x i)) xi xrr si rm tm rz = some (nI (plX mo.2.1 rl h cn S D mi od n x (i + 1)), t1, rz1) := by
      unfold f_X8_playToasts
      rw [hri, bd_some, a1, bd_some]
      exact b1
    have rw4 : Rw (t1.2.1 4) 4 99 := fun j hj => by
      rw [b3.2.1 4 (by decide) (by decide)]
      exact (Rw.cp (tm := tm) hw a5) j hj
    obtain ⟨t2, rz2, c1, c2, c3⟩ := toc_loop H hc C B hF hn ho hx0 hm hw hri r (i + 1) g t1 rz1 (by omega) (by omega) (hxx.kz b4)
    refine ⟨t2, rz2, ?_, b4.tr c2, fun _ => c3 rw4⟩
    have eA : plA what mo.2.1 rl h cn S D mi od n x (i + 1) = plA what mo.2.1 rl h cn S D mi od n x i + cntN (if what = 0 then (plP mo.2.1 rl h cn S D mi od n x i).2.2 else (plP mo.2.1 rl h cn S D mi od n x i).2.1) := rfl
    rw [← c1, lp_S, b_X8_toasts_75]
    unfold b_X8_toasts_115
    dsimp only
    rw [if_neg (nI_ge (by omega) (by omega)), pl, bd_some]
    dsimp only
    rw [b2.2.1.1, b2.2.1.2.1, s_bc (l28 hB.1 hq), s_bc (l28 hB.2.1 hq), bd_some, bd_some, nI_add, nI_add, nI_1, eA]
    by_cases z : what = 0
    · rw [if_pos z, if_pos z]
    · rw [if_neg z, if_neg z]
theorem SVd.q {w : OB} (k : SVd mo w) : QKd mo w := ⟨k.1, fun j hj => k.2.1 j (by omega), fun i _ => congrFun (k.2.1 1 (by decide)) i, fun i _ => congrFun (k.2.1 2 (by decide)) i, fun j i p q _ => congrFun (k.2.1 j (by omega)) i, fun i _ => congrFun (k.2.1 38 (by decide)) i, k.2.2.1⟩
theorem QKd.go {w : OB} (k : QKd mo w) : GOd mo w := ⟨k.1, k.2.1, k.2.2.2.2.2.2⟩
/-- the plays of the reference -/
theorem tor_loop {m : Nat} {what was : Int32} (H : HOK h) (hc : ∀ k, k < h.1 1 → cn k ≤ 99) (M : MDd h cn S D mi mo) (B : BDd (h.1 3) S D) (hF : 600 ≤ F) (hn : n ≤ 60) (ho : od ≤ 100) (hx0 : x < 2 ^ 31) (hm : m ≤ 10) (hf : FIn rl mo) (hmu : Mus (h.1 3) 0 0 mo) (hwas : mo.2.1 1 6 = was) : ∀ (r i g : Nat) (w : OB), i + r = m → r < g → QKd mo w → BLK mo w → ∃ w2, lp (b_X9_toasts_79 F) g (nI m, nI n, nI od, what, was, nI (plX mo.2.1 rl h cn S D mi od n x i), nI (plA what mo.2.1 rl h cn S D mi od n x i), nI i, w) = some (nI (plA what mo.2.1 rl h cn S D mi od n x m), w2) ∧ QKd mo w2
  | 0, i, g, w, h1, h2, Q, K => by
    obtain ⟨g, rfl⟩ : ∃ g', g = g' + 1 := ⟨g - 1, by omega⟩
    have ei : i = m := by omega
    subst ei
    refine ⟨(w.1, uF w.2.1 1 (upd (w.2.1 1) 6 was), w.2.2), ?_, Q.1, fun j hj => ?_, fun j hj => ?_, Q.2.2.2.1, fun j i a b c => (congrFun (uF_n (show j ≠ 1 by omega)) i).trans (Q.2.2.2.2.1 j i a b c), Q.2.2.2.2.2.1, Q.2.2.2.2.2.2⟩
    · rw [lp_S, b_X9_toasts_79]
      dsimp only
      rw [if_pos (nI_le (Nat.le_refl _) (by omega))]
      rfl
    · show uF w.2.1 1 (upd (w.2.1 1) 6 was) j = _
      rw [uF_n (by omega)]
      exact Q.2.1 j hj
    · show upd (w.2.1 1) 6 was j = _
      by_cases z : j = 6
      · rw [z, pk_us, hwas]
      · rw [pk_un z]
        exact Q.2.2.1 j hj
  | r + 1, i, g, w, h1, h2, Q, K => by
    obtain ⟨g, rfl⟩ : ∃ g', g = g' + 1 := ⟨g - 1, by omega⟩
    have hq := H.q8
    have hX := plX_lt (R := mo.2.1) (rl := rl) (cn := cn) (mi := mi) (od := od) (n := n) H B hx0 i
    have hB := plP_bd (R := mo.2.1) (rl := rl) (cn := cn) (mi := mi) (od := od) (n := n) H B hx0 i
    obtain ⟨w0, hw0⟩ : ∃ w0 : OB, w0 = (w.1, uF w.2.1 1 (upd (w.2.1 1) 6 (nI (plX mo.2.1 rl h cn S D mi od n x i))), w.2.2) := ⟨_, rfl⟩
    have k0 : KTd w w0 := by
      rw [hw0]
      exact KTd.set
    have M0 : MDd h cn S D mi w0 := by
      rw [hw0]
      exact (M.q H Q).s6
    have h60 : w0.2.1 1 6 = nI (plX mo.2.1 rl h cn S D mi od n x i) := by
      rw [hw0]
      show uF w.2.1 1 (upd (w.2.1 1) 6 (nI (plX mo.2.1 rl h cn S D mi od n x i))) 1 6 = _
      rw [uF_s]
      exact pk_us
    obtain ⟨w1, b1, b2, b3, b4⟩ := tsr_loop (F := F) (R := mo.2.1) (K := lp (b_X9_toasts_79 F) g) (N := nI m) (what := what) (was := was) (acc := nI (plA what mo.2.1 rl h cn S D mi od n x i)) (run := nI i) (od := od) (p := (plX mo.2.1 rl h cn S D mi od n x i, S, D)) H hc hF hn ho hX B n 0 F w0 (by omega) (by omega) M0 h60 ((hf.q Q).kt k0) ((hmu.q hq Q).kt k0) (fun j p q => (k0.2.1 j (by omega) (by omega)).trans (Q.2.1 j (by omega)))
    have b2 : MDd h cn (plP mo.2.1 rl h cn S D mi od n x i).2.1 (plP mo.2.1 rl h cn S D mi od n x i).2.2 (mi + n) w1 := b2
    have b3 : w1.2.1 1 6 = nI (plX mo.2.1 rl h cn S D mi od n x (i + 1)) := b3
    have k1 := k0.tr b4
    obtain ⟨w2, c1, c2, c3, -⟩ := lays_q (F := F) hF (KTd.blk K k1) (KTd.go Q.go k1) (fun j hj => by rw [k1.2.1 38 (by decide) (by decide)]; exact Q.2.2.2.2.2.1 j hj)
    obtain ⟨w3, d1, d2⟩ := tor_loop H hc M B hF hn ho hx0 hm hf hmu hwas r (i + 1) g w2 (by omega) (by omega) c2 c3
    refine ⟨w3, ?_, d2⟩
    have eA : plA what mo.2.1 rl h cn S D mi od n x (i + 1) = plA what mo.2.1 rl h cn S D mi od n x i + cntN (if what = 0 then (plP mo.2.1 rl h cn S D mi od n x i).2.2 else (plP mo.2.1 rl h cn S D mi od n x i).2.1) := rfl
    have q6 : Int32.toNatClampNeg 6 = 6 := by decide
    have s1 := s_sits (F := F) H b2 hB hF
    have s2 := s_drpd (F := F) H b2 hB hF
    rw [← d1, lp_S, b_X9_toasts_79]
    dsimp only
    rw [if_neg (nI_ge (by omega) (by omega)), q6, ← hw0]
    refine b1.trans ?_
    unfold b_X9_toasts_160
    rw [s1, s2, bd_some, bd_some, s_bits (l28 hB.1 hq) hF, s_bits (l28 hB.2.1 hq) hF, bd_some, bd_some, c1, bd_some, q6, b3, nI_add, nI_add, nI_1, eA]
    by_cases z : what = 0
    · rw [if_pos z, if_pos z]
    · rw [if_neg z, if_neg z]
      rfl
theorem q_toasts {x1 x2 x3 x4 : Int32} {v : Nat} (H : HOK h) (hc : ∀ k, k < 4 → cn k ≤ 99) (C : CDd h cn S D mi rm) (M : MDd h cn S D mi mo) (B : BDd (h.1 3) S D) (hF : 600 ≤ F) (hw : Rw (rm.2.1 4) 4 99) (hri : f_X8_ruleInForce F xi xrr si = some e) (hx : RLx rl e rz mo) (hf : FIn rl mo) (hm : Mus (h.1 3) 0 0 mo) (hv : v < 2 ^ 31) (h4 : si 4 = nI v) (h6 : mo.2.1 1 6 = nI v) : AskB mo tm rz (f_X8_toasts F x1 x2 x3 x4 xi xrr si rm tm rz) (f_X9_toasts F x1 x2 x3 x4 mo) := by
  have t01 := H.1
  have hq := H.q8
  have hcs : ∀ k, k < h.1 1 → cn k ≤ 99 := fun k hk => hc k (by have := H.2.1; omega)
  have e0 := r_isHall (F := F) H M.1
  have e1 := in_c (F := F) (x := x1) (a := 1) (b := 10) (la := 1) (lb := 10) (by decide) (by decide)
  have e2 := in_c (F := F) (x := x2) (a := 1) (b := 60) (la := 1) (lb := 60) (by decide) (by decide)
  have e3 := in_c (F := F) (x := x3) (a := 0) (b := 100) (la := 0) (lb := 100) (by decide) (by decide)
  have e4 := in_c (F := F) (x := x4) (a := 0) (b := 1) (la := 0) (lb := 1) (by decide) (by decide)
  have y1 : (1 : Int32).toInt = 1 := by decide
  have y10 : (10 : Int32).toInt = 10 := by decide
  have y60 : (60 : Int32).toInt = 60 := by decide
  have y100 : (100 : Int32).toInt = 100 := by decide
  by_cases c : h.1 0 = 1 ∧ (1 ≤ x1.toInt ∧ x1.toInt ≤ 10) ∧ (1 ≤ x2.toInt ∧ x2.toInt ≤ 60) ∧ (0 ≤ x3.toInt ∧ x3.toInt ≤ 100) ∧ 0 ≤ x4.toInt ∧ x4.toInt ≤ 1
  · obtain ⟨c1, c2, c3, c4, c5⟩ := c
    obtain ⟨m, hmm, rfl⟩ := ix_of (n := 11) (x := x1) (by omega)
    obtain ⟨n, hnn, rfl⟩ := ix_of (n := 61) (x := x2) (by omega)
    obtain ⟨od, hod, rfl⟩ := ix_of (n := 101) (x := x3) (by omega)
    have m1 : 1 ≤ m := by
      have := c2.1
      rw [nI_toInt (by omega)] at this
      omega
    have n1 : 1 ≤ n := by
      have := c3.1
      rw [nI_toInt (by omega)] at this
      omega
    obtain ⟨t2, rz2, a1, a2, a3⟩ := toc_loop (F := F) (mo := mo) (what := x4) (m := m) (n := n) (od := od) (x := v) H hcs C B hF (by omega) (by omega) hv (by omega) hw hri m 0 F tm rz (by omega) (by omega) hx
    obtain ⟨w0, b1, b2, b3, b4⟩ := try_r (F := F) M hF
    obtain ⟨w2, d1, d2⟩ := tor_loop (F := F) (what := x4) (was := nI v) (m := m) (n := n) (od := od) (x := v) H hcs M B hF (by omega) (by omega) hv (by omega) hf hm h6 m 0 F w0 (by omega) (by omega) b4.q b3
    refine ⟨nI (plA x4 mo.2.1 rl h cn S D mi od n v m), t2, w2, rz2, ?_, ?_, d2, a2, a3⟩
    · unfold f_X8_toasts
      rw [C.1.1.1, c1, if_neg (show ¬ nI 1 = 0 by decide), if_neg (show ¬ nI m < 1 from nI_nlt (a := m) (b := 1) (by omega) (by omega)), if_neg (show ¬ (10 : Int32) < nI m from nI_nlt (a := 10) (b := m) (by omega) (by omega)), if_neg (show ¬ nI n < 1 from nI_nlt (a := n) (b := 1) (by omega) (by omega)), if_pos (show nI n ≤ 60 from nI_le (a := n) (b := 60) (by omega) (by decide)), if_neg (nI_pos (by omega)), if_neg (show ¬ (100 : Int32) < nI od from nI_nlt (a := 100) (b := od) (by omega) (by omega)), if_neg (show ¬ x4 < 0 from fun z => by rw [sp_lt, sp0] at z; omega), if_pos (show x4 ≤ 1 by rw [sp_le, y1]; omega), h4]
      exact a1
    · unfold f_X9_toasts
      rw [e0, bd_some, if_pos c1, if_neg (show ¬ (1 : Int32) = 0 by decide), e1, bd_some, if_pos (show 1 ≤ (nI m).toInt ∧ (nI m).toInt ≤ 10 from c2), if_neg (show ¬ (1 : Int32) = 0 by decide), e2, bd_some, if_pos (show 1 ≤ (nI n).toInt ∧ (nI n).toInt ≤ 60 from c3), if_neg (show ¬ (1 : Int32) = 0 by decide), e3, bd_some, if_pos (show 0 ≤ (nI od).toInt ∧ (nI od).toInt ≤ 100 from c4), if_neg (show ¬ (1 : Int32) = 0 by decide), e4, bd_some, if_pos (show 0 ≤ x4.toInt ∧ x4.toInt ≤ 1 from c5), if_neg (show ¬ (1 : Int32) = 0 by decide), b1, bd_some, show Int32.toNatClampNeg 6 = 6 from by decide, h6]
      exact d1
  · refine AskB.no (r := -1) ?_ ?_
    · unfold f_X8_toasts b_X8_toasts_35 b_X8_toasts_58
      rw [C.1.1.1]
      refine ite_no (fun _ => rfl) (fun a0 => ite_no (fun _ => rfl) (fun a1 => ite_no (fun _ => rfl) (fun a2 => ite_no (fun _ => rfl) (fun a3 => ite_no (fun a4 => ite_no (fun _ => rfl) (fun a5 => ite_no (fun _ => rfl) (fun a6 => ite_no (fun _ => rfl) (fun a7 => ite_no (fun a8 => absurd ?_ c) (fun _ => rfl))))) (fun _ => rfl)))))
      have z0 : h.1 0 = 1 := by
        have : ¬ h.1 0 = 0 := fun z => a0 (by rw [z]; rfl)
        omega
      rw [sp_lt, y1] at a1
      rw [sp_lt, y10] at a2
      rw [sp_lt, y1] at a3
      rw [sp_le, y60] at a4
      rw [sp_lt, sp0] at a5
      rw [sp_lt, y100] at a6
      rw [sp_lt, sp0] at a7
      rw [sp_le, y1] at a8
      exact ⟨z0, ⟨by omega, by omega⟩, ⟨by omega, by omega⟩, ⟨by omega, by omega⟩, by omega, by omega⟩
    · unfold f_X9_toasts b_X9_toasts_54
      rw [e0, bd_some]
      refine ite_no (fun _ => rfl) (fun a0 => ?_)
      rw [e1, bd_some]
      refine ite_no (fun _ => rfl) (fun a1 => ?_)
      rw [e2, bd_some]
      refine ite_no (fun _ => rfl) (fun a2 => ?_)
      rw [e3, bd_some]
      refine ite_no (fun _ => rfl) (fun a3 => ?_)
      rw [e4, bd_some]
      refine ite_no (fun _ => rfl) (fun a4 => ?_)
      exact absurd ⟨one_of a0, one_of a1, one_of a2, one_of a3, one_of a4⟩ c
end TOA
