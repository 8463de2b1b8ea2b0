/-! force, seed, count, note: by both -/
/-- the notes, by both -/
noncomputable def NTd (h : HLd) (nm : Nat → Nat × Nat × Nat) (n : Nat) (nt mo : OB) : Prop := n ≤ 10 ∧ nt.1 3 = nI n ∧ mo.2.1 1 5 = nI n ∧ (∀ j, j < n → (nm j).1 ≤ 60 ∧ (nm j).2.1 < h.1 3 ∧ (nm j).2.2 < 3) ∧ (∀ j, j < n → nt.2.1 0 j = nI (nm j).1 ∧ nt.2.1 1 j = nI (nm j).2.1 ∧ nt.2.1 2 j = nI (nm j).2.2) ∧ ∀ j, j < n → mo.2.1 8 j = nI (nm j).1 ∧ mo.2.1 9 j = nI (nm j).2.1 ∧ mo.2.1 10 j = nI (nm j).2.2
/-- what of the reference stays where one place of its first row is set -/
noncomputable def K1d (p : Nat) (mo w : OB) : Prop := w.1 = mo.1 ∧ (∀ j, j ≠ 1 → w.2.1 j = mo.2.1 j) ∧ (∀ j, j ≠ p → w.2.1 1 j = mo.2.1 1 j) ∧ w.2.2 = mo.2.2
theorem K1d.rf {p : Nat} {mo : OB} : K1d p mo mo := ⟨rfl, fun _ _ => rfl, fun _ _ => rfl, rfl⟩
theorem K1d.set {p : Nat} {mo : OB} {v : Int32} : K1d p mo (mo.1, uF mo.2.1 1 (upd (mo.2.1 1) p v), mo.2.2) := ⟨rfl, fun _ hj => uF_n hj, fun j hj => by
  show uF mo.2.1 1 (upd (mo.2.1 1) p v) 1 j = _
  rw [uF_s]
  exact pk_un hj, rfl⟩
section SML
variable {F : Nat} {h : HLd} {cn : Nat → Nat} {S D mi : Nat} {rm tm mo : OB} {x : Int32} {xi si : Nat → Int32}
/-- a rule put in force -/
theorem q_force {nr : Nat} {v : Int32} (hn : nr ≤ 6) (h2 : xi 2 = nI nr) (h22 : mo.1 22 = nI nr) (hs : si 3 = v) (hm : mo.2.1 1 7 = v) : ∃ (r : Int32) (si2 : Nat → Int32) (w : OB), f_X8_force F x xi si = some (r, si2) ∧ f_X9_force F x mo = some (r, w) ∧ K1d 7 mo w ∧ (∀ j, j ≠ 3 → si2 j = si j) ∧ w.2.1 1 7 = si2 3 ∧ (si2 3 = v ∨ si2 3 = -1 ∨ ∃ s, s < nr ∧ si2 3 = nI s) := by
  have e1 : (Int32.toInt64 (nI nr - 1)).toInt = (nr : Int) - 1 := by
    rw [Int32.toInt_toInt64]
    exact pk_sub_toInt (b := 1) (by omega) (by decide)
  have e2 := in_c (F := F) (x := x) (a := -1) (b := Int32.toInt64 (nI nr - 1)) (la := -1) (lb := (nr : Int) - 1) (by decide) e1
  unfold f_X9_force
  rw [h22, e2, bd_some]
  by_cases c : -1 ≤ x.toInt ∧ x.toInt ≤ (nr : Int) - 1
  · refine ⟨v, uF si 3 x, _, ?_, ?_, K1d.set (p := 7) (v := x), fun j hj => uF_n hj, ?_, Or.inr ?_⟩
    · unfold f_X8_force
      rw [if_neg (fun z => by
        rw [sp_lt, spm1] at z
        omega), h2, if_pos (by
        rw [sp_lt, nI_toInt (by omega)]
        omega), hs]
    · rw [if_pos c, if_neg (show ¬ (1 : Int32) = 0 by decide), show Int32.toNatClampNeg 7 = 7 from by decide, hm]
    · rw [uF_s]
      show uF mo.2.1 1 (upd (mo.2.1 1) 7 x) 1 7 = x
      rw [uF_s, pk_us]
    · rw [uF_s]
      by_cases y : x.toInt = -1
      · exact Or.inl (Int32.toInt_inj.mp (by rw [y, spm1]))
      · exact Or.inr (ix_of (n := nr) ⟨by omega, by omega⟩)
  · refine ⟨-2, si, mo, ?_, ?_, K1d.rf, fun _ _ => rfl, by rw [hm, hs], Or.inl hs⟩
    · unfold f_X8_force b_X8_force_13
      by_cases d : x < -1
      · rw [if_pos d]
      · rw [if_neg d, h2, if_neg (fun z => c (by
          rw [sp_lt, spm1] at d
          rw [sp_lt, nI_toInt (by omega)] at z
          omega))]
    · rw [if_neg c, if_pos rfl]
theorem q_seed {v : Int32} (hs : si 4 = v) (hm : mo.2.1 1 6 = v) (hv : 0 ≤ v) : ∃ (r : Int32) (si2 : Nat → Int32) (w : OB), f_X8_seed F x xi si = some (r, si2) ∧ f_X9_seed F x mo = some (r, w) ∧ K1d 6 mo w ∧ (∀ j, j ≠ 4 → si2 j = si j) ∧ w.2.1 1 6 = si2 4 ∧ 0 ≤ si2 4 := by
  unfold f_X8_seed f_X9_seed
  by_cases c : 0 ≤ x
  · refine ⟨v, uF si 4 x, _, by rw [if_pos c, hs], by rw [if_pos c, show Int32.toNatClampNeg 6 = 6 from by decide, hm], K1d.set (p := 6) (v := x), fun j hj => uF_n hj, ?_, by rw [uF_s]; exact c⟩
    rw [uF_s]
    show uF mo.2.1 1 (upd (mo.2.1 1) 6 x) 1 6 = x
    rw [uF_s, pk_us]
  · exact ⟨-1, si, mo, by rw [if_neg c], by rw [if_neg c], K1d.rf, fun _ _ => rfl, by rw [hm, hs], by rw [hs]; exact hv⟩
theorem ex_ite {α : Type} {p : Prop} [Decidable p] {a : α} {b : Option α} (h : ∃ r, b = some r ∧ b = some r) : ∃ r, (if p then some a else b) = some r ∧ (if p then some a else b) = some r := by
  by_cases c : p
  · exact ⟨a, if_pos c, if_pos c⟩
  · obtain ⟨r, e, -⟩ := h
    exact ⟨r, (if_neg c).trans e, (if_neg c).trans e⟩
theorem q_count {nr n nn : Nat} {tp ac nt : OB} {rc : Nat → Rc} {nm : Nat → Nat × Nat × Nat} (H : HOK h) (hc : ∀ k, k < h.1 1 → cn k ≤ 99) (C : CDd h cn S D mi rm) (M : MDd h cn S D mi mo) (B : BDd (h.1 3) S D) (A : AKd rc n ac) (P : PKd h rc n mo) (N : NTd h nm nn nt mo) (hF : 600 ≤ F) (h2 : xi 2 = nI nr) (h22 : mo.1 22 = nI nr) (h7 : mo.2.1 1 7 = si 3) (h6 : mo.2.1 1 6 = si 4) (h18 : mo.1 18 = tp.1 1) : ∃ r, f_X8_count F x xi tp si rm ac nt = some r ∧ f_X9_count F x mo = some r := by
  obtain ⟨nx, b1, b2, b3, b4, b5⟩ := A
  unfold f_X8_count f_X9_count
  rw [s_sits H M B hF, s_drpd H M B hF, r_all H hc M B hF, c_all H hc C B hF, bd_some, bd_some, bd_some, show Int32.toNatClampNeg 1 = 1 from by decide, show Int32.toNatClampNeg 2 = 2 from by decide, show Int32.toNatClampNeg 3 = 3 from by decide, show Int32.toNatClampNeg 4 = 4 from by decide, show Int32.toNatClampNeg 5 = 5 from by decide, show Int32.toNatClampNeg 6 = 6 from by decide, show Int32.toNatClampNeg 7 = 7 from by decide, C.1.1.2.1, C.1.1.2.2.1, C.1.1.2.2.2, C.2.1.1, C.2.1.2.1, C.2.1.2.2, M.1.1.2.1, M.1.1.2.2.1, M.1.1.2.2.2, M.2.1, h2, h22, h7, h6, h18, N.2.1, N.2.2.1, b4, P.1]
  exact ex_ite (ex_ite (ex_ite (ex_ite (ex_ite (ex_ite (ex_ite (ex_ite (ex_ite (ex_ite (ex_ite (ex_ite (ex_ite (⟨-1, rfl, rfl⟩)))))))))))))
/-- a note made, or all forgotten -/
theorem q_note {nn : Nat} {nt : OB} {nm : Nat → Nat × Nat × Nat} {y z : Int32} (H : HOK h) (C : HKd h rm) (M : MKd h mo) (N : NTd h nm nn nt mo) : ∃ (r : Int32) (nn2 : Nat) (nm2 : Nat → Nat × Nat × Nat) (nt2 w : OB), f_X8_note F x y z xi si rm nt = some (r, nt2) ∧ f_X9_note F x y z mo = some (r, w) ∧ NTd h nm2 nn2 nt2 w ∧ w.1 = mo.1 ∧ (∀ j, j ≠ 1 → j ≠ 8 → j ≠ 9 → j ≠ 10 → w.2.1 j = mo.2.1 j) ∧ (∀ j, j ≠ 5 → w.2.1 1 j = mo.2.1 1 j) ∧ w.2.2 = mo.2.2 := by
  have hq := H.q8
  obtain ⟨n1, n2, n3, n4, n5, n6⟩ := N
  have t5 : Int32.toNatClampNeg 5 = 5 := by decide
  by_cases c0 : x = -1
  · refine ⟨0, 0, nm, (uF nt.1 3 0, nt.2.1, nt.2.2), (mo.1, uF mo.2.1 1 (upd (mo.2.1 1) 5 0), mo.2.2), ?_, ?_, ⟨Nat.zero_le _, rfl, ?_, fun j hj => absurd hj (Nat.not_lt_zero _), fun j hj => absurd hj (Nat.not_lt_zero _), fun j hj => absurd hj (Nat.not_lt_zero _)⟩, rfl, fun j a _ _ _ => uF_n a, fun j a => ?_, rfl⟩
    · unfold f_X8_note f_X2_forget
      rw [if_pos c0, bd_some]
    · unfold f_X9_note
      rw [if_pos c0, t5]
    · show uF mo.2.1 1 (upd (mo.2.1 1) 5 0) 1 5 = nI 0
      rw [uF_s, pk_us]
      rfl
    · show uF mo.2.1 1 (upd (mo.2.1 1) 5 0) 1 j = _
      rw [uF_s]
      exact pk_un a
  · have no : ∀ r, (f_X8_note F x y z xi si rm nt = some (r, nt)) → (f_X9_note F x y z mo = some (r, mo)) → ∃ (r : Int32) (nn2 : Nat) (nm2 : Nat → Nat × Nat × Nat) (nt2 w : OB), f_X8_note F x y z xi si rm nt = some (r, nt2) ∧ f_X9_note F x y z mo = some (r, w) ∧ NTd h nm2 nn2 nt2 w ∧ w.1 = mo.1 ∧ (∀ j, j ≠ 1 → j ≠ 8 → j ≠ 9 → j ≠ 10 → w.2.1 j = mo.2.1 j) ∧ (∀ j, j ≠ 5 → w.2.1 1 j = mo.2.1 1 j) ∧ w.2.2 = mo.2.2 := fun r e1 e2 => ⟨r, nn, nm, nt, mo, e1, e2, ⟨n1, n2, n3, n4, n5, n6⟩, rfl, fun _ _ _ _ _ => rfl, fun _ _ => rfl, rfl⟩
    have e1 := in_c (F := F) (x := x) (a := 0) (b := 60) (la := 0) (lb := 60) (by decide) (by decide)
    have e2 := r_isSitter (F := F) (x := y) H M
    have e3 := in_c (F := F) (x := z) (a := 0) (b := 2) (la := 0) (lb := 2) (by decide) (by decide)
    have e4 := c_hasSitter (F := F) (x := y) C.1.2.2.2 hq
    have y60 : (60 : Int32).toInt = 60 := by decide
    have y3 : (3 : Int32).toInt = 3 := by decide
    by_cases c1 : 0 ≤ x.toInt ∧ x.toInt ≤ 60
    · by_cases c2 : inR y (h.1 3)
      · by_cases c3 : 0 ≤ z.toInt ∧ z.toInt ≤ 2
        · obtain ⟨kx, hkx, ex⟩ := ix_of (n := 61) (x := x) ⟨c1.1, by omega⟩
          obtain ⟨ky, hky, ey⟩ := ix_of c2
          obtain ⟨kz, hkz, ez⟩ := ix_of (n := 3) (x := z) ⟨c3.1, by omega⟩
          have hcl : f_X8_note F x y z xi si rm nt = Option.bind (f_X2_add F x y z nt) (fun q8 => (if q8.1 = 0 then (b_X8_note_84 F xi si rm (-2) q8.2) else (b_X8_note_84 F xi si rm (q8.2.1 3) q8.2))) := by
            unfold f_X8_note
            rw [if_neg c0, if_neg (fun w => by
              rw [sp_lt, sp0] at w
              omega), if_neg (fun w => by
              rw [sp_lt, y60] at w
              omega), e4, bd_some, if_pos c2, if_neg (show ¬ (1 : Int32) = 0 by decide), if_neg (fun w => by
              rw [sp_lt, sp0] at w
              omega), if_pos (by
              rw [sp_lt, y3]
              omega)]
          by_cases c4 : nn = 10
          · refine no (-2) ?_ ?_
            · rw [hcl]
              unfold f_X2_add b_X8_note_84
              rw [n2, c4, if_neg (show ¬ nI 10 < 10 by decide), bd_some]
              exact if_pos rfl
            · unfold f_X9_note b_X9_note_61
              rw [if_neg c0, e1, bd_some, if_pos c1, if_neg (show ¬ (1 : Int32) = 0 by decide), e2, bd_some, if_pos c2, if_neg (show ¬ (1 : Int32) = 0 by decide), e3, bd_some, if_pos c3, if_neg (show ¬ (1 : Int32) = 0 by decide), t5, n3, c4, if_pos (show nI 10 = 10 from rfl)]
          · have hn : nn < 10 := by omega
            refine ⟨nI (nn + 1), nn + 1, fun j => if j = nn then (kx, ky, kz) else nm j, (uF nt.1 3 (nI (nn + 1)), uF (uF (uF nt.2.1 0 (upd (nt.2.1 0) nn x)) 1 (upd (nt.2.1 1) nn y)) 2 (upd (nt.2.1 2) nn z), nt.2.2), (mo.1, uF (uF (uF (uF mo.2.1 1 (upd (mo.2.1 1) 5 (nI (nn + 1)))) 8 (upd (mo.2.1 8) nn x)) 9 (upd (mo.2.1 9) nn y)) 10 (upd (mo.2.1 10) nn z), mo.2.2), ?_, ?_, ⟨by omega, rfl, ?_, fun j hj => ?_, fun j hj => ?_, fun j hj => ?_⟩, rfl, fun j a b c d => ?_, fun j a => ?_, rfl⟩
            · rw [hcl]
              unfold f_X2_add b_X8_note_84
              rw [n2, if_pos (show nI nn < 10 from nI_lt (a := nn) (b := 10) hn (by decide)), if_pos (ib_n hn (by decide)), bd_some, nI_clamp (show nn < 2 ^ 31 by omega), nI_1]
              refine (if_neg (show ¬ (1 : Int32) = 0 by decide)).trans ?_
              show some (uF nt.1 3 (nI (nn + 1)) 3, _) = _
              rw [uF_s]
            · unfold f_X9_note
              rw [if_neg c0, e1, bd_some, if_pos c1, if_neg (show ¬ (1 : Int32) = 0 by decide), e2, bd_some, if_pos c2, if_neg (show ¬ (1 : Int32) = 0 by decide), e3, bd_some, if_pos c3, if_neg (show ¬ (1 : Int32) = 0 by decide), t5, n3, if_neg (show ¬ nI nn = 10 from fun w => c4 ((nI_eq (a := nn) (b := 10) (by omega) (by decide)).mp w)), if_pos (ib_n hn (by decide)), nI_clamp (show nn < 2 ^ 31 by omega), nI_1]
            · show uF (uF (uF (uF mo.2.1 1 (upd (mo.2.1 1) 5 (nI (nn + 1)))) 8 (upd (mo.2.1 8) nn x)) 9 (upd (mo.2.1 9) nn y)) 10 (upd (mo.2.1 10) nn z) 1 5 = _
              rw [uF_n (show 1 ≠ 10 by decide), uF_n (show 1 ≠ 9 by decide), uF_n (show 1 ≠ 8 by decide), uF_s, pk_us]
            · by_cases u : j = nn
              · dsimp only
                rw [if_pos u]
                exact ⟨by show kx ≤ 60; omega, hky, hkz⟩
              · dsimp only
                rw [if_neg u]
                exact n4 j (by omega)
            · show uF (uF (uF nt.2.1 0 (upd (nt.2.1 0) nn x)) 1 (upd (nt.2.1 1) nn y)) 2 (upd (nt.2.1 2) nn z) 0 j = _ ∧ uF (uF (uF nt.2.1 0 (upd (nt.2.1 0) nn x)) 1 (upd (nt.2.1 1) nn y)) 2 (upd (nt.2.1 2) nn z) 1 j = _ ∧ uF (uF (uF nt.2.1 0 (upd (nt.2.1 0) nn x)) 1 (upd (nt.2.1 1) nn y)) 2 (upd (nt.2.1 2) nn z) 2 j = _
              rw [uF_n (show 0 ≠ 2 by decide), uF_n (show 0 ≠ 1 by decide), uF_s, uF_n (show 1 ≠ 2 by decide), uF_s, uF_s]
              by_cases u : j = nn
              · dsimp only
                rw [if_pos u, u, pk_us, pk_us, pk_us]
                exact ⟨ex, ey, ez⟩
              · dsimp only
                rw [if_neg u, pk_un u, pk_un u, pk_un u]
                exact n5 j (by omega)
            · show uF (uF (uF (uF mo.2.1 1 (upd (mo.2.1 1) 5 (nI (nn + 1)))) 8 (upd (mo.2.1 8) nn x)) 9 (upd (mo.2.1 9) nn y)) 10 (upd (mo.2.1 10) nn z) 8 j = _ ∧ uF (uF (uF (uF mo.2.1 1 (upd (mo.2.1 1) 5 (nI (nn + 1)))) 8 (upd (mo.2.1 8) nn x)) 9 (upd (mo.2.1 9) nn y)) 10 (upd (mo.2.1 10) nn z) 9 j = _ ∧ uF (uF (uF (uF mo.2.1 1 (upd (mo.2.1 1) 5 (nI (nn + 1)))) 8 (upd (mo.2.1 8) nn x)) 9 (upd (mo.2.1 9) nn y)) 10 (upd (mo.2.1 10) nn z) 10 j = _
              rw [uF_n (show 8 ≠ 10 by decide), uF_n (show 8 ≠ 9 by decide), uF_s, uF_n (show 9 ≠ 10 by decide), uF_s, uF_s]
              by_cases u : j = nn
              · dsimp only
                rw [if_pos u, u, pk_us, pk_us, pk_us]
                exact ⟨ex, ey, ez⟩
              · dsimp only
                rw [if_neg u, pk_un u, pk_un u, pk_un u]
                exact n6 j (by omega)
            · show uF (uF (uF (uF mo.2.1 1 _) 8 _) 9 _) 10 _ j = _
              rw [uF_n d, uF_n c, uF_n b, uF_n a]
            · show uF (uF (uF (uF mo.2.1 1 (upd (mo.2.1 1) 5 (nI (nn + 1)))) 8 (upd (mo.2.1 8) nn x)) 9 (upd (mo.2.1 9) nn y)) 10 (upd (mo.2.1 10) nn z) 1 j = _
              rw [uF_n (show 1 ≠ 10 by decide), uF_n (show 1 ≠ 9 by decide), uF_n (show 1 ≠ 8 by decide), uF_s]
              exact pk_un a
        · refine no (-2) ?_ ?_
          · unfold f_X8_note b_X8_note_50
            rw [if_neg c0, if_neg (fun w => by
              rw [sp_lt, sp0] at w
              omega), if_neg (fun w => by
              rw [sp_lt, y60] at w
              omega), e4, bd_some, if_pos c2, if_neg (show ¬ (1 : Int32) = 0 by decide)]
            by_cases d : z < 0
            · rw [if_pos d]
            · rw [if_neg d, if_neg (fun w => c3 (by
                rw [sp_lt, sp0] at d
                rw [sp_lt, y3] at w
                omega))]
          · unfold f_X9_note b_X9_note_61
            rw [if_neg c0, e1, bd_some, if_pos c1, if_neg (show ¬ (1 : Int32) = 0 by decide), e2, bd_some, if_pos c2, if_neg (show ¬ (1 : Int32) = 0 by decide), e3, bd_some, if_neg c3, if_pos rfl]
      · refine no (-2) ?_ ?_
        · unfold f_X8_note b_X8_note_50
          rw [if_neg c0, if_neg (fun w => by
            rw [sp_lt, sp0] at w
            omega), if_neg (fun w => by
            rw [sp_lt, y60] at w
            omega), e4, bd_some, if_neg c2, if_pos rfl]
        · unfold f_X9_note b_X9_note_61
          rw [if_neg c0, e1, bd_some, if_pos c1, if_neg (show ¬ (1 : Int32) = 0 by decide), e2, bd_some, if_neg c2, if_pos rfl]
    · refine no (-2) ?_ ?_
      · unfold f_X8_note b_X8_note_50
        rw [if_neg c0]
        by_cases d : x < 0
        · rw [if_pos d]
        · rw [if_neg d, if_pos (by
            rw [sp_lt, sp0] at d
            rw [sp_lt, y60]
            omega)]
      · unfold f_X9_note b_X9_note_61
        rw [if_neg c0, e1, bd_some, if_neg c1, if_pos rfl]
end SML
