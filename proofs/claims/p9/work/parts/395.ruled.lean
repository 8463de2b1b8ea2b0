/-! ruled, strung: by both -/
noncomputable def flo (P : Nat → Bool) : Nat → Nat → Int32
  | 0, _ => -2
  | r + 1, k => if P k = true then nI k + (-1) else flo P r (k + 1)
noncomputable def pB (P : Nat → Bool) (i : Nat) : Nat := if P i = true then 1 else 0
theorem flo_pre {P : Nat → Bool} : ∀ k r, sumB k (pB P) = 0 → flo P (k + r) 0 = flo P r k
  | 0, r, _ => by rw [Nat.zero_add]
  | k + 1, r, h => by
    rw [sumB_S] at h
    have h1 : pB P k = 0 := by omega
    have np : ¬ P k = true := fun z => by
      unfold pB at h1
      rw [if_pos z] at h1
      omega
    rw [show k + 1 + r = k + (r + 1) by omega, flo_pre k (r + 1) (by omega)]
    exact if_neg np
theorem flo_0 {P : Nat → Bool} {n : Nat} (h : sumB n (pB P) = 0) : flo P n 0 = -2 := flo_pre n 0 h
theorem RLk.all {nr : Nat} {mo : OB} {rz rz2 : Nat → OB} (hR : ∀ s, s < nr → RLk s (rz s) mo) (k : RZk rz rz2) : ∀ s, s < nr → RLk s (rz2 s) mo := fun s hs => (hR s hs).cg (k s).1 (k s).2 (fun _ _ _ => rfl)
section RUD
variable {F : Nat} {h : HLd} {cn : Nat → Nat} {S D mi : Nat} {rm tm mo nt : OB} {rz : Nat → OB} {rl : Option Nat} {x e : Int32} {xi si : Nat → Int32} {xrr : Nat → Option Nat} {nm : Nat → Nat × Nat × Nat} {nn : Nat}
theorem rd_c {P : Nat → Bool} {nr : Nat} {what : Int32} (H : HOK h) (C : CDd h cn S D mi rm) (hw : Rw (rm.2.1 4) 4 99) (N : NTd h nm nn nt mo) (hF : 600 ≤ F) (hn : nr ≤ 6) (h2 : xi 2 = nI nr) (hP : ∀ i, P i = ntH nm nn (trj mo.2.1 (rlO i) 0 0 h (tcn rm) 0 0 0)) : ∀ (i g : Nat) (tm : OB) (rz : Nat → OB), i ≤ nr + 1 → i < g → (∀ s, s < nr → RLk s (rz s) mo) → ∃ tm2 rz2, lp (b_X8_ruled_38 F xi xrr si rm nt) g (what, nI (sumB (nr + 1) (pB P) - sumB i (pB P)), flo P (nr + 1 - i) i, nI i + (-1) + (-1), tm, rz) = some (if what = 0 then nI (sumB (nr + 1) (pB P)) else flo P (nr + 1) 0, tm2, rz2) ∧ RZk rz rz2 ∧ (Rw (tm.2.1 4) 4 99 → Rw (tm2.2.1 4) 4 99)
  | 0, g, tm, rz, hi, hg, hR => by
    obtain ⟨g, rfl⟩ : ∃ g', g = g' + 1 := ⟨g - 1, by omega⟩
    refine ⟨tm, rz, ?_, RZk.rf, fun z => z⟩
    rw [lp_S, b_X8_ruled_38]
    unfold b_X8_ruled_80
    dsimp only
    rw [if_pos (show nI 0 + (-1) + (-1) < -1 by decide), show sumB 0 (pB P) = 0 from rfl, Nat.sub_zero, Nat.sub_zero]
    by_cases z : what = 0
    · rw [if_pos z, if_pos z]
    · rw [if_neg z, if_neg z]
  | i + 1, g, tm, rz, hi, hg, hR => by
    obtain ⟨g, rfl⟩ : ∃ g', g = g' + 1 := ⟨g - 1, by omega⟩
    obtain ⟨t1, rz1, a1, a2, a3⟩ := c_holds (F := F) (xi := xi) (si := si) (tm := tm) (e := nI i + (-1)) H C hw N hF (rlO_x (show i ≤ nr by omega) hn hR)
    obtain ⟨t2, rz2, b1, b2, b3⟩ := rd_c (what := what) H C hw N hF hn h2 hP i g t1 rz1 (by omega) (by omega) (RLk.all hR a2)
    have mono : sumB (i + 1) (pB P) ≤ sumB (nr + 1) (pB P) := by
      have aux : ∀ m, i + 1 ≤ m → sumB (i + 1) (pB P) ≤ sumB m (pB P) := fun m hm => by
        induction m with
        | zero => omega
        | succ m ih =>
          by_cases z : i + 1 = m + 1
          · rw [z]
            exact Nat.le_refl _
          · have := ih (by omega)
            rw [sumB_S m]
            omega
      exact aux (nr + 1) hi
    have eS : sumB (i + 1) (pB P) = sumB i (pB P) + pB P i := rfl
    have ef : flo P (nr + 1 - i) i = if P i = true then nI i + (-1) else flo P (nr + 1 - (i + 1)) (i + 1) := by
      rw [show nr + 1 - i = (nr + 1 - (i + 1)) + 1 by omega]
      rfl
    have em : sumB (nr + 1) (pB P) - sumB i (pB P) = sumB (nr + 1) (pB P) - sumB (i + 1) (pB P) + pB P i := by omega
    rw [em, ef] at b1
    have nlt : ¬ nI i + (-1) < -1 := by
      rw [sp_lt, spm1]
      cases i with
      | zero => decide
      | succ j =>
        rw [pk_m1, nI_toInt (by omega)]
        omega
    have eP : (ntH nm nn (trj mo.2.1 (rlO i) 0 0 h (tcn rm) 0 0 0) = true) = (P i = true) := by rw [hP i]
    refine ⟨t2, rz2, ?_, a2.tr b2, fun _ => b3 a3⟩
    rw [← b1, lp_S, b_X8_ruled_38]
    unfold b_X8_ruled_65
    dsimp only
    rw [pk_m1, if_neg nlt, c_ruleAt (show i ≤ nr by omega) hn h2, bd_some, a1, bd_some]
    dsimp only
    rw [← hP i]
    unfold pB
    by_cases z : P i = true
    · rw [if_pos z, if_neg (show ¬ (1 : Int32) = 0 by decide), if_pos z, if_pos z, nI_1]
    · rw [if_neg z, if_pos rfl, if_neg z, if_neg z]
      rfl
theorem rd_r {P : Nat → Bool} {nr : Nat} {what : Int32} (H : HOK h) (C : CDd h cn S D mi rm) (M : MDd h cn S D mi mo) (hw : Rw (rm.2.1 4) 4 99) (N : NTd h nm nn nt mo) (hF : 600 ≤ F) (hn : nr ≤ 6) (h22 : mo.1 22 = nI nr) (hR : ∀ s, s < nr → RLk s (rz s) mo) (hm : Mus (h.1 3) 0 0 mo) (hP : ∀ i, P i = ntH nm nn (trj mo.2.1 (rlO i) 0 0 h (tcn rm) 0 0 0)) : ∀ (r i g : Nat) (w : OB), i + r = nr + 1 → r < g → RTd mo w → ∃ w2, lp (b_X9_ruled_32 F) g (what, nI (sumB i (pB P)), (if sumB i (pB P) = 0 then -2 else flo P (nr + 1) 0), nI i + (-1), w) = some (if what = 0 then nI (sumB (nr + 1) (pB P)) else flo P (nr + 1) 0, w2) ∧ QKd mo w2
  | 0, i, g, w, hi, hg, T => by
    obtain ⟨g, rfl⟩ : ∃ g', g = g' + 1 := ⟨g - 1, by omega⟩
    have ei : i = nr + 1 := by omega
    subst ei
    refine ⟨w, ?_, T.1⟩
    rw [lp_S, b_X9_ruled_32]
    unfold b_X9_ruled_79
    dsimp only
    rw [T.1.1 22 (by decide) (by decide), h22, pk_m1, if_pos (nI_le (Nat.le_refl _) (by omega))]
    by_cases z : what = 0
    · rw [if_pos z, if_pos z]
    · rw [if_neg z, if_neg z]
      by_cases y : sumB (nr + 1) (pB P) = 0
      · rw [if_pos y, flo_0 y]
      · rw [if_neg y]
  | r + 1, i, g, w, hi, hg, T => by
    obtain ⟨g, rfl⟩ : ∃ g', g = g' + 1 := ⟨g - 1, by omega⟩
    obtain ⟨w1, a1, a2, -⟩ := r_could (F := F) (rz := rz) (i := i) H C M hw N hF (show i ≤ nr by omega) hn hR hm T
    obtain ⟨w2, b1, b2⟩ := rd_r (what := what) H C M hw N hF hn h22 hR hm hP r (i + 1) g w1 (by omega) (by omega) a2
    refine ⟨w2, ?_, b2⟩
    have hs := sumB_le (f := pB P) (M := 1) i (fun k _ => by
      unfold pB
      split <;> omega)
    have eS : sumB (i + 1) (pB P) = sumB i (pB P) + pB P i := rfl
    have nle : ¬ nI nr ≤ nI i + (-1) := fun z => by
      have u := (m1_lt (a := i) (b := nr) (by omega) (by omega)).mpr (by omega)
      rw [sp_lt] at u
      rw [sp_le] at z
      omega
    rw [← b1, lp_S, b_X9_ruled_32]
    unfold b_X9_ruled_60 b_X9_ruled_64
    dsimp only
    rw [T.1.1 22 (by decide) (by decide), h22, if_neg nle, a1, bd_some]
    dsimp only
    rw [← hP i, eS]
    have ni : nI i + (-1) + 1 = nI (i + 1) + (-1) := by
      rw [pk_m1, Int32.add_assoc, show (-1 : Int32) + 1 = 0 from by decide, Int32.add_zero]
    by_cases z : P i = true
    · have pz : pB P i = 1 := if_pos z
      rw [if_pos z, if_neg (show ¬ (1 : Int32) = 0 by decide), pz, nI_1, ni, if_neg (show ¬ sumB i (pB P) + 1 = 0 by omega)]
      by_cases y : sumB i (pB P) = 0
      · have ef : flo P (nr + 1) 0 = nI i + (-1) := by
          rw [show nr + 1 = i + (r + 1) by omega, flo_pre i (r + 1) y]
          exact if_pos z
        rw [if_pos (show nI (sumB i (pB P)) = 0 by rw [y]; rfl), ef]
      · rw [if_neg (nI_ne0 (Nat.pos_of_ne_zero y) (by omega)), if_neg y]
    · have pz : pB P i = 0 := if_neg z
      rw [if_neg z, if_pos rfl, pz, ni]
      rfl
theorem q_ruled {nr : Nat} (H : HOK h) (C : CDd h cn S D mi rm) (M : MDd h cn S D mi mo) (hw : Rw (rm.2.1 4) 4 99) (N : NTd h nm nn nt mo) (hF : 600 ≤ F) (hn : nr ≤ 6) (h2 : xi 2 = nI nr) (h22 : mo.1 22 = nI nr) (hR : ∀ s, s < nr → RLk s (rz s) mo) (hm : Mus (h.1 3) 0 0 mo) : AskB mo tm rz (f_X8_ruled F x xi xrr si rm nt tm rz) (f_X9_ruled F x mo) := by
  have t01 := H.1
  have e0 := r_isHall (F := F) H M.1
  have e3 := in_c (F := F) (x := x) (a := 0) (b := 1) (la := 0) (lb := 1) (by decide) (by decide)
  have y1 : (1 : Int32).toInt = 1 := by decide
  by_cases c : h.1 0 = 1 ∧ 0 ≤ x.toInt ∧ x.toInt ≤ 1
  · obtain ⟨c1, c2⟩ := c
    obtain ⟨t2, rz2, a1, a2, a3⟩ := rd_c (F := F) (xi := xi) (xrr := xrr) (si := si) (what := x) (P := fun i => ntH nm nn (trj mo.2.1 (rlO i) 0 0 h (tcn rm) 0 0 0)) H C hw N hF hn h2 (fun _ => rfl) (nr + 1) F tm rz (Nat.le_refl _) (by omega) hR
    obtain ⟨w0, b1, b2, b3, b4⟩ := try_r (F := F) M hF
    obtain ⟨w2, d1, d2⟩ := rd_r (F := F) (what := x) (P := fun i => ntH nm nn (trj mo.2.1 (rlO i) 0 0 h (tcn rm) 0 0 0)) H C M hw N hF hn h22 hR hm (fun _ => rfl) (nr + 1) 0 F w0 (by omega) (by omega) ⟨b4.q, b3⟩
    refine ⟨if x = 0 then nI (sumB (nr + 1) (pB (fun i => ntH nm nn (trj mo.2.1 (rlO i) 0 0 h (tcn rm) 0 0 0)))) else flo (fun i => ntH nm nn (trj mo.2.1 (rlO i) 0 0 h (tcn rm) 0 0 0)) (nr + 1) 0, t2, w2, rz2, ?_, ?_, d2, a2, a3⟩
    rotate_left 1
    · unfold f_X9_ruled
      rw [e0, bd_some, if_pos c1, if_neg (show ¬ (1 : Int32) = 0 by decide), e3, bd_some, if_pos c2, if_neg (show ¬ (1 : Int32) = 0 by decide), b1, bd_some]
      exact d1
    · unfold f_X8_ruled
      rw [C.1.1.1, c1, if_neg (show ¬ nI 1 = 0 by decide), if_neg (show ¬ x < 0 from fun z => by rw [sp_lt, sp0] at z; omega), if_pos (show x ≤ 1 by rw [sp_le, y1]; omega), h2]
      rw [Nat.sub_self, Nat.sub_self, pk_m1] at a1
      rw [show nI nr - 1 = nI nr + (-1) from Int32.sub_eq_add_neg _ _]
      exact a1
  · refine AskB.no (r := -3) ?_ ?_
    · unfold f_X8_ruled b_X8_ruled_22
      rw [C.1.1.1]
      refine ite_no (fun _ => rfl) (fun a0 => ite_no (fun _ => rfl) (fun a1 => ite_no (fun a2 => absurd ?_ c) (fun _ => rfl)))
      have z0 : h.1 0 = 1 := by
        have : ¬ h.1 0 = 0 := fun z => a0 (by rw [z]; rfl)
        omega
      rw [sp_lt, sp0] at a1
      rw [sp_le, y1] at a2
      exact ⟨z0, by omega, by omega⟩
    · unfold f_X9_ruled b_X9_ruled_17
      rw [e0, bd_some]
      refine ite_no (fun _ => rfl) (fun a0 => ?_)
      rw [e3, bd_some]
      refine ite_no (fun _ => rfl) (fun a1 => ?_)
      exact absurd ⟨one_of a0, one_of a1⟩ c
/-- the reference with a chair on another strand -/
theorem r_onS {w : OB} {c s : Nat} (H : HOK h) (C : CDd h cn S D mi rm) (M : MDd h cn S D mi mo) (hw : Rw (rm.2.1 4) 4 99) (N : NTd h nm nn nt mo) (hF : 600 ≤ F) (hf : FIn rl mo) (hm : Mus (h.1 3) 0 0 mo) (hcc : c < h.1 2) (hs : s < h.1 1) (T : RTd mo w) : ∃ w1 w2, f_X9_begins F w = some w1 ∧ f_X9_doNotesFit F (w1.1, uF w1.2.1 4 (upd (w1.2.1 4) c (nI s)), w1.2.2) = some (if ntH nm nn (trj mo.2.1 rl 0 0 (ovS h c s) (tcn rm) 0 0 0) = true then 1 else 0, w2) ∧ RTd mo w2 := by
  have h4 := H.2.1
  have hq := H.q8
  obtain ⟨Q, K⟩ := T
  have M2 := M.q H Q
  obtain ⟨ca2, is2, a1, a2, a3⟩ := s_begins (F := F) (mo := w) hF
  obtain ⟨w3, hw3⟩ : ∃ w3 : OB, w3 = ((mbg w (upd (w.2.1 1) 4 0) ca2 is2).1, uF (mbg w (upd (w.2.1 1) 4 0) ca2 is2).2.1 4 (upd ((mbg w (upd (w.2.1 1) 4 0) ca2 is2).2.1 4) c (nI s)), (mbg w (upd (w.2.1 1) 4 0) ca2 is2).2.2) := ⟨_, rfl⟩
  have rw3 : ∀ j, j ≠ 1 → j ≠ 2 → j ≠ 3 → j ≠ 4 → w3.2.1 j = w.2.1 j := fun j p q r u => by
    rw [hw3]
    show uF (uF (uF (uF w.2.1 1 _) 2 _) 3 _) 4 _ j = _
    rw [uF_n u, uF_n r, uF_n q, uF_n p]
  have r31 : ∀ j, j ≠ 4 → w3.2.1 1 j = w.2.1 1 j := fun j hj => by
    rw [hw3]
    show upd (w.2.1 1) 4 0 j = _
    exact pk_un hj
  have r314 : w3.2.1 1 4 = 0 := by
    rw [hw3]
    show uF (uF (uF (uF w.2.1 1 (upd (w.2.1 1) 4 0)) 2 ca2) 3 is2) 4 (upd ((mbg w (upd (w.2.1 1) 4 0) ca2 is2).2.1 4) c (nI s)) 1 4 = 0
    rw [uF_n (by decide), uF_n (by decide), uF_n (by decide), uF_s, pk_us]
  have r32 : w3.2.1 2 = ca2 := by
    rw [hw3]
    rfl
  have r33 : w3.2.1 3 = is2 := by
    rw [hw3]
    rfl
  have r34 : w3.2.1 4 = upd (w.2.1 4) c (nI s) := by
    rw [hw3]
    rfl
  obtain ⟨⟨⟨b0, b1, b2, b3⟩, b4, b5, b6⟩, b7, b8, b9⟩ := M2
  have M3 : MDd (ovS h c s) (tcn rm) 0 0 0 w3 := by
    refine ⟨⟨⟨?_, ?_, ?_, ?_⟩, fun k hk => ?_, fun k hk => ⟨?_, ?_⟩, fun k hk => ?_⟩, r314, fun k hk => ?_, fun k hk => ?_⟩
    · rw [r31 0 (by decide)]
      exact b0
    · rw [r31 1 (by decide)]
      exact b1
    · rw [r31 2 (by decide)]
      exact b2
    · rw [r31 3 (by decide)]
      exact b3
    · rw [rw3 11 (by decide) (by decide) (by decide) (by decide)]
      exact b4 k hk
    · rw [rw3 6 (by decide) (by decide) (by decide) (by decide)]
      exact (b5 k hk).1
    · rw [r34]
      show upd (w.2.1 4) c (nI s) k = nI (if 6 = 6 ∧ k = c then s else h.2 6 k)
      by_cases z : k = c
      · rw [if_pos (show 6 = 6 ∧ k = c from ⟨rfl, z⟩), z, pk_us]
      · rw [if_neg (show ¬ (6 = 6 ∧ k = c) from fun y => z y.2), pk_un z]
        exact (b5 k hk).2
    · rw [rw3 7 (by decide) (by decide) (by decide) (by decide), rw3 5 (by decide) (by decide) (by decide) (by decide)]
      exact b6 k hk
    · have hk : k < h.1 1 := hk
      rw [r32, a2 k (by omega), b4 k hk, tcn_t H C.1 hk]
    · have hk : k < h.1 3 := hk
      rw [r33, a3 k (by omega), stt_0.mpr ⟨bS_0 k, bS_0 k⟩]
      rfl
  have f3 : FIn rl w3 := by
    rcases hf with ⟨z1, z2⟩ | ⟨q, z1, z2, z3, ru, z4⟩
    · exact Or.inl ⟨z1, by rw [r31 7 (by decide), Q.2.2.1 7 (by decide)]; exact z2⟩
    · exact Or.inr ⟨q, z1, z2, by rw [r31 7 (by decide), Q.2.2.1 7 (by decide)]; exact z3, ru, z4.cg rfl rfl (fun j p q => (rw3 j (by omega) (by omega) (by omega) (by omega)).trans (Q.2.1 j (by omega)))⟩
  have m3 : Mus ((ovS h c s).1 3) 0 0 w3 := fun j hj => by
    have hj : j < h.1 3 := hj
    rw [rw3 38 (by decide) (by decide) (by decide) (by decide), Q.2.2.2.2.2.1 j (by omega)]
    exact hm j hj
  have i3 : w3.1 = w.1 := by
    rw [hw3]
    rfl
  have K3 : BLK mo w3 := by
    unfold BLK
    rw [rw3 49 (by decide) (by decide) (by decide) (by decide)]
    exact K
  have G3 : GOd mo w3 := ⟨fun j p q => (congrFun i3 j).trans (Q.1 j p q), fun j p => (rw3 j (by omega) (by omega) (by omega) (by omega)).trans (Q.2.1 j p), fun j p => (congrFun (rw3 49 (by decide) (by decide) (by decide) (by decide)) j).trans (Q.2.2.2.2.2.2 j p)⟩
  obtain ⟨w4, c1, c2, c3, -⟩ := r_fit (F := F) (R := mo.2.1) (ov_ok H hs) rfl (fun k hk => (tcn_n (k := k) hw (Nat.lt_of_lt_of_le hk h4)).1) (BDd0 _) N hF M3 f3 m3 (fun j p q => (rw3 j (by omega) (by omega) (by omega) (by omega)).trans (Q.2.1 j (by omega))) K3 G3 (fun j hj => (congrFun (rw3 38 (by decide) (by decide) (by decide) (by decide)) j).trans (Q.2.2.2.2.2.1 j hj))
  rw [hw3] at c1
  exact ⟨mbg w (upd (w.2.1 1) 4 0) ca2 is2, w4, a1, c1, c2, c3⟩
theorem or_0 (a : Nat) : nI a ||| (0 : Int32) = nI a := by
  have u := n_or a 0
  rw [Nat.or_zero] at u
  exact u
theorem sg_c {P : Nat → Bool} {c : Nat} (H : HOK h) (C : CDd h cn S D mi rm) (hw : Rw (rm.2.1 4) 4 99) (N : NTd h nm nn nt mo) (hF : 600 ≤ F) (hri : f_X8_ruleInForce F xi xrr si = some e) (hcc : c < h.1 2) (hP : ∀ s, P s = ntH nm nn (trj mo.2.1 rl 0 0 (ovS h c s) (tcn rm) 0 0 0)) : ∀ (r s g : Nat) (tm : OB) (rz : Nat → OB), s + r = h.1 1 → r < g → RLx rl e rz mo → ∃ tm2 rz2, lp (b_X8_strung_23 F xi xrr si rm nt) g (nI c, nI (mk_ P s), nI s, tm, rz) = some (nI (mk_ P (h.1 1)), tm2, rz2) ∧ RZk rz rz2 ∧ (Rw (tm.2.1 4) 4 99 → Rw (tm2.2.1 4) 4 99)
  | 0, s, g, tm, rz, h1, h2, hx => by
    obtain ⟨g, rfl⟩ : ∃ g', g = g' + 1 := ⟨g - 1, by omega⟩
    have h4 := H.2.1
    have es : s = h.1 1 := by omega
    subst es
    refine ⟨tm, rz, ?_, RZk.rf, fun z => z⟩
    rw [lp_S, b_X8_strung_23]
    dsimp only
    rw [C.1.1.2.1, if_pos (nI_le (Nat.le_refl _) (by omega))]
  | r + 1, s, g, tm, rz, h1, h2, hx => by
    obtain ⟨g, rfl⟩ : ∃ g', g = g' + 1 := ⟨g - 1, by omega⟩
    have h4 := H.2.1
    obtain ⟨t1, rz1, a1, a2, a3⟩ := c_holdsO (F := F) (xi := xi) (si := si) (tm := tm) H C hw N hF hx hcc (show s < h.1 1 by omega)
    obtain ⟨t2, rz2, b1, b2, b3⟩ := sg_c H C hw N hF hri hcc hP r (s + 1) g t1 rz1 (by omega) (by omega) (hx.kz a2)
    refine ⟨t2, rz2, ?_, a2.tr b2, fun _ => b3 a3⟩
    rw [← b1, ← mk_step (c := P) (show s < 31 by omega), lp_S, b_X8_strung_23]
    unfold b_X8_strung_53
    dsimp only
    rw [C.1.1.2.1, if_neg (nI_ge (show s < h.1 1 by omega) (by omega)), hri, bd_some, a1, bd_some]
    dsimp only
    rw [← hP s, nI_1]
    by_cases z : P s = true
    · rw [if_pos z, if_neg (show ¬ (1 : Int32) = 0 by decide), if_pos z]
    · rw [if_neg z, if_pos rfl, if_neg z, or_0]
theorem sg_r {P : Nat → Bool} {c : Nat} (H : HOK h) (C : CDd h cn S D mi rm) (M : MDd h cn S D mi mo) (hw : Rw (rm.2.1 4) 4 99) (N : NTd h nm nn nt mo) (hF : 600 ≤ F) (hf : FIn rl mo) (hm : Mus (h.1 3) 0 0 mo) (hcc : c < h.1 2) (hP : ∀ s, P s = ntH nm nn (trj mo.2.1 rl 0 0 (ovS h c s) (tcn rm) 0 0 0)) : ∀ (r s g : Nat) (w : OB), s + r = h.1 1 → r < g → RTd mo w → ∃ w2, lp (b_X9_strung_18 F) g (nI c, nI (mk_ P s), nI s, w) = some (nI (mk_ P (h.1 1)), w2) ∧ QKd mo w2
  | 0, s, g, w, h1, h2, T => by
    obtain ⟨g, rfl⟩ : ∃ g', g = g' + 1 := ⟨g - 1, by omega⟩
    have h4 := H.2.1
    have es : s = h.1 1 := by omega
    subst es
    refine ⟨w, ?_, T.1⟩
    rw [lp_S, b_X9_strung_18]
    dsimp only
    rw [show Int32.toNatClampNeg 1 = 1 from by decide, T.1.2.2.1 1 (by decide), M.1.1.2.1, if_pos (nI_le (Nat.le_refl _) (by omega))]
  | r + 1, s, g, w, h1, h2, T => by
    obtain ⟨g, rfl⟩ : ∃ g', g = g' + 1 := ⟨g - 1, by omega⟩
    have h4 := H.2.1
    have h8 := H.2.2.1
    obtain ⟨w1, w2, a1, a2, a3⟩ := r_onS (F := F) (rl := rl) H C M hw N hF hf hm hcc (show s < h.1 1 by omega) T
    obtain ⟨w3, b1, b2⟩ := sg_r H C M hw N hF hf hm hcc hP r (s + 1) g w2 (by omega) (by omega) a3
    refine ⟨w3, ?_, b2⟩
    rw [← b1, ← mk_step (c := P) (show s < 31 by omega), lp_S, b_X9_strung_18]
    unfold b_X9_strung_54
    dsimp only
    rw [show Int32.toNatClampNeg 1 = 1 from by decide, T.1.2.2.1 1 (by decide), M.1.1.2.1, if_neg (nI_ge (show s < h.1 1 by omega) (by omega)), a1, bd_some, if_pos (ib_n (show c < 8 by omega) (by decide)), nI_clamp (show c < 2 ^ 31 by omega), a2, bd_some]
    dsimp only
    rw [← hP s, nI_1]
    by_cases z : P s = true
    · rw [if_pos z, if_neg (show ¬ (1 : Int32) = 0 by decide), if_pos z]
    · rw [if_neg z, if_pos rfl, if_neg z]
theorem q_strung (H : HOK h) (C : CDd h cn S D mi rm) (M : MDd h cn S D mi mo) (hw : Rw (rm.2.1 4) 4 99) (N : NTd h nm nn nt mo) (hF : 600 ≤ F) (hri : f_X8_ruleInForce F xi xrr si = some e) (hx : RLx rl e rz mo) (hf : FIn rl mo) (hm : Mus (h.1 3) 0 0 mo) : AskB mo tm rz (f_X8_strung F x xi xrr si rm nt tm rz) (f_X9_strung F x mo) := by
  have h4 := H.2.1
  have h8 := H.2.2.1
  have e1 := c_hasChair (F := F) (x := x) C.1.1.2.2.1 h8
  have e2 := r_isChair (F := F) (x := x) H M.1
  by_cases c : inR x (h.1 2)
  · obtain ⟨k, hk, rfl⟩ := ix_of c
    obtain ⟨t2, rz2, a1, a2, a3⟩ := sg_c (F := F) (xi := xi) (xrr := xrr) (si := si) (c := k) (P := fun s => ntH nm nn (trj mo.2.1 rl 0 0 (ovS h k s) (tcn rm) 0 0 0)) H C hw N hF hri hk (fun _ => rfl) (h.1 1) 0 F tm rz (by omega) (by omega) hx
    obtain ⟨w0, b1, b2, b3, b4⟩ := try_r (F := F) M hF
    obtain ⟨w2, d1, d2⟩ := sg_r (F := F) (rl := rl) (c := k) (P := fun s => ntH nm nn (trj mo.2.1 rl 0 0 (ovS h k s) (tcn rm) 0 0 0)) H C M hw N hF hf hm hk (fun _ => rfl) (h.1 1) 0 F w0 (by omega) (by omega) ⟨b4.q, b3⟩
    refine ⟨nI (mk_ (fun s => ntH nm nn (trj mo.2.1 rl 0 0 (ovS h k s) (tcn rm) 0 0 0)) (h.1 1)), t2, w2, rz2, ?_, ?_, d2, a2, a3⟩
    rotate_left 1
    · unfold f_X9_strung
      rw [e2, bd_some, if_pos c, if_neg (show ¬ (1 : Int32) = 0 by decide), b1, bd_some]
      exact d1
    · unfold f_X8_strung
      rw [e1, bd_some, if_pos c, if_neg (show ¬ (1 : Int32) = 0 by decide)]
      exact a1
  · refine AskB.no (r := -1) ?_ ?_
    · unfold f_X8_strung
      rw [e1, bd_some, if_neg c, if_pos rfl]
    · unfold f_X9_strung
      rw [e2, bd_some, if_neg c, if_pos rfl]
end RUD
