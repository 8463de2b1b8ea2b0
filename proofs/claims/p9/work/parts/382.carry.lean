/-! what is kept ahead and laid back: by the reference -/
section CRY
variable {F : Nat} {mi ir fr : Nat → Int32} {p fn : Nat}
theorem cr0 (h51 : mi 51 = nI p) (h52 : mi 52 = 0) (hp : p + fn ≤ 2000) (hf : fn ≤ 260) (hF : 600 ≤ F) : f_X9_carryRow F fn mi ir fr = some (uF mi 51 (nI (p + fn)), fun j => if p ≤ j ∧ j < p + fn then fr (j - p) else ir j, fr) := by
  have e : lp (b_X9_carryRow_2 F fn) F (nI 0, uF mi 51 (nI (p + 0)), (fun j => if p ≤ j ∧ j < p + 0 then fr (j - p) else ir j), fr) = some (uF mi 51 (nI (p + fn)), fun j => if p ≤ j ∧ j < p + fn then fr (j - p) else ir j, fr) := by
    refine lp_for (st := fun i => (nI i, uF mi 51 (nI (p + i)), (fun j => if p ≤ j ∧ j < p + i then fr (j - p) else ir j), fr)) (q := fn) (fun kk i hi => ?_) (fun kk => ?_) fn F 0 (by omega) (by omega)
    · unfold b_X9_carryRow_2 b_X9_carryRow_42
      dsimp only
      rw [if_neg (show ¬ Int32.ofNat fn ≤ nI i from nI_ge (a := i) (b := fn) hi (by omega)), if_pos (show uF mi 51 (nI (p + i)) 52 = 0 from h52), if_pos (ib_n hi (by omega)), if_pos (show ib (uF mi 51 (nI (p + i)) 51) 2000 from by rw [uF_s]; exact ib_n (show p + i < 2000 by omega) (by decide)), uF_s, nI_clamp (show p + i < 2 ^ 31 by omega), nI_clamp (show i < 2 ^ 31 by omega), nI_1, nI_1, uF_uF]
      rw [show upd (fun j => if p ≤ j ∧ j < p + i then fr (j - p) else ir j) (p + i) (fr i) = (fun j => if p ≤ j ∧ j < p + (i + 1) then fr (j - p) else ir j) from funext (fun j => by
        by_cases z : j = p + i
        · rw [z, pk_us, if_pos ⟨by omega, by omega⟩, show p + i - p = i by omega]
        · rw [pk_un z]
          by_cases w : p ≤ j ∧ j < p + i
          · rw [if_pos w, if_pos ⟨w.1, by omega⟩]
          · rw [if_neg w, if_neg (fun u => w ⟨u.1, by omega⟩)])]
      rfl
    · unfold b_X9_carryRow_2
      dsimp only
      rw [if_pos (show Int32.ofNat fn ≤ nI fn from nI_le (Nat.le_refl _) (by omega))]
  rw [← e]
  unfold f_X9_carryRow
  rw [show (fun j => if p ≤ j ∧ j < p + 0 then fr (j - p) else ir j) = ir from funext (fun j => if_neg (fun z => by omega)), Nat.add_zero, ← h51, uF_id]
  rfl
theorem cr1 (h51 : mi 51 = nI p) (h52 : mi 52 = 1) (hp : p + fn ≤ 2000) (hf : fn ≤ 260) (hF : 600 ≤ F) : f_X9_carryRow F fn mi ir fr = some (uF mi 51 (nI (p + fn)), ir, fun j => if j < fn then ir (p + j) else fr j) := by
  have e : lp (b_X9_carryRow_2 F fn) F (nI 0, uF mi 51 (nI (p + 0)), ir, (fun j => if j < 0 then ir (p + j) else fr j)) = some (uF mi 51 (nI (p + fn)), ir, fun j => if j < fn then ir (p + j) else fr j) := by
    refine lp_for (st := fun i => (nI i, uF mi 51 (nI (p + i)), ir, (fun j => if j < i then ir (p + j) else fr j))) (q := fn) (fun kk i hi => ?_) (fun kk => ?_) fn F 0 (by omega) (by omega)
    · unfold b_X9_carryRow_2 b_X9_carryRow_42
      dsimp only
      rw [if_neg (show ¬ Int32.ofNat fn ≤ nI i from nI_ge (a := i) (b := fn) hi (by omega)), if_neg (show ¬ uF mi 51 (nI (p + i)) 52 = 0 from by show ¬ mi 52 = 0; rw [h52]; decide), if_pos (show ib (uF mi 51 (nI (p + i)) 51) 2000 from by rw [uF_s]; exact ib_n (show p + i < 2000 by omega) (by decide)), if_pos (ib_n hi (by omega)), uF_s, nI_clamp (show p + i < 2 ^ 31 by omega), nI_clamp (show i < 2 ^ 31 by omega), nI_1, nI_1, uF_uF]
      rw [show upd (fun j => if j < i then ir (p + j) else fr j) i (ir (p + i)) = (fun j => if j < i + 1 then ir (p + j) else fr j) from funext (fun j => by
        by_cases z : j = i
        · rw [z, pk_us, if_pos (by omega)]
        · rw [pk_un z]
          by_cases w : j < i
          · rw [if_pos w, if_pos (by omega)]
          · rw [if_neg w, if_neg (by omega)])]
      rfl
    · unfold b_X9_carryRow_2
      dsimp only
      rw [if_pos (show Int32.ofNat fn ≤ nI fn from nI_le (Nat.le_refl _) (by omega))]
  rw [← e]
  unfold f_X9_carryRow
  rw [show (fun j => if j < 0 then ir (p + j) else fr j) = fr from funext (fun j => if_neg (Nat.not_lt_zero _)), Nat.add_zero, ← h51, uF_id]
  rfl
end CRY
/-- a block of the images holds the first rows -/
noncomputable def BLK (mo w : OB) : Prop := (∀ i, i < 8 → w.2.1 49 (1600 + i) = mo.2.1 1 i) ∧ (∀ i, i < 4 → w.2.1 49 (1608 + i) = mo.2.1 2 i) ∧ (∀ i, i < 8 → w.2.1 49 (1612 + i) = mo.2.1 3 i) ∧ (∀ i, i < 8 → w.2.1 49 (1620 + i) = mo.2.1 4 i) ∧ ∀ i, i < 8 → w.2.1 49 (1628 + i) = mo.2.1 5 i
/-- what stays while something is tried -/
noncomputable def SVd (mo w : OB) : Prop := (∀ j, j ≠ 51 → j ≠ 52 → w.1 j = mo.1 j) ∧ (∀ j, j ≠ 49 → w.2.1 j = mo.2.1 j) ∧ (∀ i, i < 1600 → w.2.1 49 i = mo.2.1 49 i) ∧ w.2.2 = mo.2.2
section KPA
variable {F : Nat} {mo w : OB}
theorem s_keepsAll (hF : 600 ≤ F) : ∃ w, f_X9_keepsAll F mo = some w ∧ BLK mo w ∧ SVd mo w := by
  have m1 := cr0 (F := F) (mi := uF (uF mo.1 51 (nI 1600)) 52 0) (ir := mo.2.1 49) (fr := mo.2.1 1) (p := 1600) (fn := 8) rfl rfl (by decide) (by decide) hF
  have m2 := cr0 (F := F) (mi := uF (uF (uF mo.1 51 (nI 1600)) 52 0) 51 (nI (1600 + 8))) (ir := fun j => if 1600 ≤ j ∧ j < 1600 + 8 then mo.2.1 1 (j - 1600) else mo.2.1 49 j) (fr := mo.2.1 2) (p := 1608) (fn := 4) rfl rfl (by decide) (by decide) hF
  have m3 := cr0 (F := F) (mi := uF (uF (uF (uF mo.1 51 (nI 1600)) 52 0) 51 (nI (1600 + 8))) 51 (nI (1608 + 4))) (ir := fun j => if 1608 ≤ j ∧ j < 1608 + 4 then mo.2.1 2 (j - 1608) else if 1600 ≤ j ∧ j < 1600 + 8 then mo.2.1 1 (j - 1600) else mo.2.1 49 j) (fr := mo.2.1 3) (p := 1612) (fn := 8) rfl rfl (by decide) (by decide) hF
  have m4 := cr0 (F := F) (mi := uF (uF (uF (uF (uF mo.1 51 (nI 1600)) 52 0) 51 (nI (1600 + 8))) 51 (nI (1608 + 4))) 51 (nI (1612 + 8))) (ir := fun j => if 1612 ≤ j ∧ j < 1612 + 8 then mo.2.1 3 (j - 1612) else if 1608 ≤ j ∧ j < 1608 + 4 then mo.2.1 2 (j - 1608) else if 1600 ≤ j ∧ j < 1600 + 8 then mo.2.1 1 (j - 1600) else mo.2.1 49 j) (fr := mo.2.1 4) (p := 1620) (fn := 8) rfl rfl (by decide) (by decide) hF
  have m5 := cr0 (F := F) (mi := uF (uF (uF (uF (uF (uF mo.1 51 (nI 1600)) 52 0) 51 (nI (1600 + 8))) 51 (nI (1608 + 4))) 51 (nI (1612 + 8))) 51 (nI (1620 + 8))) (ir := fun j => if 1620 ≤ j ∧ j < 1620 + 8 then mo.2.1 4 (j - 1620) else if 1612 ≤ j ∧ j < 1612 + 8 then mo.2.1 3 (j - 1612) else if 1608 ≤ j ∧ j < 1608 + 4 then mo.2.1 2 (j - 1608) else if 1600 ≤ j ∧ j < 1600 + 8 then mo.2.1 1 (j - 1600) else mo.2.1 49 j) (fr := mo.2.1 5) (p := 1628) (fn := 8) rfl rfl (by decide) (by decide) hF
  refine ⟨(uF (uF (uF (uF (uF (uF (uF mo.1 51 (nI 1600)) 52 0) 51 (nI (1600 + 8))) 51 (nI (1608 + 4))) 51 (nI (1612 + 8))) 51 (nI (1620 + 8))) 51 (nI (1628 + 8)), uF mo.2.1 49 (fun j => if 1628 ≤ j ∧ j < 1628 + 8 then mo.2.1 5 (j - 1628) else if 1620 ≤ j ∧ j < 1620 + 8 then mo.2.1 4 (j - 1620) else if 1612 ≤ j ∧ j < 1612 + 8 then mo.2.1 3 (j - 1612) else if 1608 ≤ j ∧ j < 1608 + 4 then mo.2.1 2 (j - 1608) else if 1600 ≤ j ∧ j < 1600 + 8 then mo.2.1 1 (j - 1600) else mo.2.1 49 j), mo.2.2), ?_, ⟨fun i hi => ?_, fun i hi => ?_, fun i hi => ?_, fun i hi => ?_, fun i hi => ?_⟩, fun j a b => ?_, fun j a => uF_n a, fun i hi => ?_, rfl⟩
  · unfold f_X9_keepsAll f_X9_carriesAll
    rw [if_pos (Or.inl rfl), show (400 : Int32) * 4 = nI 1600 from by decide, m1, bd_some]
    dsimp only
    rw [m2, bd_some]
    dsimp only
    rw [m3, bd_some]
    dsimp only
    rw [m4, bd_some]
    dsimp only
    rw [m5, bd_some]
    dsimp only
    rw [if_pos rfl, bd_some, uF_id (f := mo.2.1) (i := 1), uF_id (f := mo.2.1) (i := 2), uF_id (f := mo.2.1) (i := 3), uF_id (f := mo.2.1) (i := 4), uF_id (f := mo.2.1) (i := 5)]
  · show (if 1628 ≤ 1600 + i ∧ 1600 + i < 1628 + 8 then mo.2.1 5 (1600 + i - 1628) else if 1620 ≤ 1600 + i ∧ 1600 + i < 1620 + 8 then mo.2.1 4 (1600 + i - 1620) else if 1612 ≤ 1600 + i ∧ 1600 + i < 1612 + 8 then mo.2.1 3 (1600 + i - 1612) else if 1608 ≤ 1600 + i ∧ 1600 + i < 1608 + 4 then mo.2.1 2 (1600 + i - 1608) else if 1600 ≤ 1600 + i ∧ 1600 + i < 1600 + 8 then mo.2.1 1 (1600 + i - 1600) else mo.2.1 49 (1600 + i)) = _
    rw [if_neg (by omega), if_neg (by omega), if_neg (by omega), if_neg (by omega), if_pos (by omega), show 1600 + i - 1600 = i by omega]
  · show (if 1628 ≤ 1608 + i ∧ 1608 + i < 1628 + 8 then mo.2.1 5 (1608 + i - 1628) else if 1620 ≤ 1608 + i ∧ 1608 + i < 1620 + 8 then mo.2.1 4 (1608 + i - 1620) else if 1612 ≤ 1608 + i ∧ 1608 + i < 1612 + 8 then mo.2.1 3 (1608 + i - 1612) else if 1608 ≤ 1608 + i ∧ 1608 + i < 1608 + 4 then mo.2.1 2 (1608 + i - 1608) else if 1600 ≤ 1608 + i ∧ 1608 + i < 1600 + 8 then mo.2.1 1 (1608 + i - 1600) else mo.2.1 49 (1608 + i)) = _
    rw [if_neg (by omega), if_neg (by omega), if_neg (by omega), if_pos (by omega), show 1608 + i - 1608 = i by omega]
  · show (if 1628 ≤ 1612 + i ∧ 1612 + i < 1628 + 8 then mo.2.1 5 (1612 + i - 1628) else if 1620 ≤ 1612 + i ∧ 1612 + i < 1620 + 8 then mo.2.1 4 (1612 + i - 1620) else if 1612 ≤ 1612 + i ∧ 1612 + i < 1612 + 8 then mo.2.1 3 (1612 + i - 1612) else if 1608 ≤ 1612 + i ∧ 1612 + i < 1608 + 4 then mo.2.1 2 (1612 + i - 1608) else if 1600 ≤ 1612 + i ∧ 1612 + i < 1600 + 8 then mo.2.1 1 (1612 + i - 1600) else mo.2.1 49 (1612 + i)) = _
    rw [if_neg (by omega), if_neg (by omega), if_pos (by omega), show 1612 + i - 1612 = i by omega]
  · show (if 1628 ≤ 1620 + i ∧ 1620 + i < 1628 + 8 then mo.2.1 5 (1620 + i - 1628) else if 1620 ≤ 1620 + i ∧ 1620 + i < 1620 + 8 then mo.2.1 4 (1620 + i - 1620) else if 1612 ≤ 1620 + i ∧ 1620 + i < 1612 + 8 then mo.2.1 3 (1620 + i - 1612) else if 1608 ≤ 1620 + i ∧ 1620 + i < 1608 + 4 then mo.2.1 2 (1620 + i - 1608) else if 1600 ≤ 1620 + i ∧ 1620 + i < 1600 + 8 then mo.2.1 1 (1620 + i - 1600) else mo.2.1 49 (1620 + i)) = _
    rw [if_neg (by omega), if_pos (by omega), show 1620 + i - 1620 = i by omega]
  · show (if 1628 ≤ 1628 + i ∧ 1628 + i < 1628 + 8 then mo.2.1 5 (1628 + i - 1628) else _) = _
    rw [if_pos (by omega), show 1628 + i - 1628 = i by omega]
  · show uF (uF (uF (uF (uF (uF (uF mo.1 51 _) 52 _) 51 _) 51 _) 51 _) 51 _) 51 _ j = _
    rw [uF_n a, uF_n a, uF_n a, uF_n a, uF_n a, uF_n b, uF_n a]
  · show (if 1628 ≤ i ∧ i < 1628 + 8 then mo.2.1 5 (i - 1628) else if 1620 ≤ i ∧ i < 1620 + 8 then mo.2.1 4 (i - 1620) else if 1612 ≤ i ∧ i < 1612 + 8 then mo.2.1 3 (i - 1612) else if 1608 ≤ i ∧ i < 1608 + 4 then mo.2.1 2 (i - 1608) else if 1600 ≤ i ∧ i < 1600 + 8 then mo.2.1 1 (i - 1600) else mo.2.1 49 i) = _
    rw [if_neg (by omega), if_neg (by omega), if_neg (by omega), if_neg (by omega), if_neg (by omega)]
/-- laid back: the first rows are as they were; the rest as it is -/
noncomputable def LBd (mo w w2 : OB) : Prop := (∀ j, j ≠ 51 → j ≠ 52 → w2.1 j = w.1 j) ∧ (∀ j, j = 0 ∨ 5 < j → w2.2.1 j = w.2.1 j) ∧ (∀ i, i < 8 → w2.2.1 1 i = mo.2.1 1 i) ∧ (∀ i, i < 4 → w2.2.1 2 i = mo.2.1 2 i) ∧ (∀ i, i < 8 → w2.2.1 3 i = mo.2.1 3 i) ∧ (∀ i, i < 8 → w2.2.1 4 i = mo.2.1 4 i) ∧ (∀ i, i < 8 → w2.2.1 5 i = mo.2.1 5 i) ∧ w2.2.2 = w.2.2
theorem s_laysBack (hF : 600 ≤ F) (hB : BLK mo w) : ∃ w2, f_X9_laysBack F w = some w2 ∧ LBd mo w w2 ∧ BLK mo w2 := by
  have m1 := cr1 (F := F) (mi := uF (uF w.1 51 (nI 1600)) 52 1) (ir := w.2.1 49) (fr := w.2.1 1) (p := 1600) (fn := 8) rfl rfl (by decide) (by decide) hF
  have m2 := cr1 (F := F) (mi := uF (uF (uF w.1 51 (nI 1600)) 52 1) 51 (nI (1600 + 8))) (ir := w.2.1 49) (fr := w.2.1 2) (p := 1608) (fn := 4) rfl rfl (by decide) (by decide) hF
  have m3 := cr1 (F := F) (mi := uF (uF (uF (uF w.1 51 (nI 1600)) 52 1) 51 (nI (1600 + 8))) 51 (nI (1608 + 4))) (ir := w.2.1 49) (fr := w.2.1 3) (p := 1612) (fn := 8) rfl rfl (by decide) (by decide) hF
  have m4 := cr1 (F := F) (mi := uF (uF (uF (uF (uF w.1 51 (nI 1600)) 52 1) 51 (nI (1600 + 8))) 51 (nI (1608 + 4))) 51 (nI (1612 + 8))) (ir := w.2.1 49) (fr := w.2.1 4) (p := 1620) (fn := 8) rfl rfl (by decide) (by decide) hF
  have m5 := cr1 (F := F) (mi := uF (uF (uF (uF (uF (uF w.1 51 (nI 1600)) 52 1) 51 (nI (1600 + 8))) 51 (nI (1608 + 4))) 51 (nI (1612 + 8))) 51 (nI (1620 + 8))) (ir := w.2.1 49) (fr := w.2.1 5) (p := 1628) (fn := 8) rfl rfl (by decide) (by decide) hF
  refine ⟨(uF (uF (uF (uF (uF (uF (uF w.1 51 (nI 1600)) 52 1) 51 (nI (1600 + 8))) 51 (nI (1608 + 4))) 51 (nI (1612 + 8))) 51 (nI (1620 + 8))) 51 (nI (1628 + 8)), uF (uF (uF (uF (uF (uF w.2.1 1 (fun j => if j < 8 then w.2.1 49 (1600 + j) else w.2.1 1 j)) 2 (fun j => if j < 4 then w.2.1 49 (1608 + j) else w.2.1 2 j)) 3 (fun j => if j < 8 then w.2.1 49 (1612 + j) else w.2.1 3 j)) 4 (fun j => if j < 8 then w.2.1 49 (1620 + j) else w.2.1 4 j)) 5 (fun j => if j < 8 then w.2.1 49 (1628 + j) else w.2.1 5 j)) 49 (w.2.1 49), w.2.2), ?_, ⟨fun j a b => ?_, fun j a => ?_, fun i hi => (if_pos hi).trans (hB.1 i hi), fun i hi => (if_pos hi).trans (hB.2.1 i hi), fun i hi => (if_pos hi).trans (hB.2.2.1 i hi), fun i hi => (if_pos hi).trans (hB.2.2.2.1 i hi), fun i hi => (if_pos hi).trans (hB.2.2.2.2 i hi), rfl⟩, hB⟩
  · unfold f_X9_laysBack f_X9_carriesAll
    rw [if_pos (Or.inr rfl), show (400 : Int32) * 4 = nI 1600 from by decide, m1, bd_some]
    dsimp only
    rw [m2, bd_some]
    dsimp only
    rw [m3, bd_some]
    dsimp only
    rw [m4, bd_some]
    dsimp only
    rw [m5, bd_some]
    dsimp only
    rw [if_pos rfl, bd_some]
  · show uF (uF (uF (uF (uF (uF (uF w.1 51 _) 52 _) 51 _) 51 _) 51 _) 51 _) 51 _ j = _
    rw [uF_n a, uF_n a, uF_n a, uF_n a, uF_n a, uF_n b, uF_n a]
  · show uF (uF (uF (uF (uF (uF w.2.1 1 _) 2 _) 3 _) 4 _) 5 _) 49 (w.2.1 49) j = _
    by_cases e : j = 49
    · rw [e, uF_s]
    · rw [uF_n e, uF_n (by omega), uF_n (by omega), uF_n (by omega), uF_n (by omega), uF_n (by omega)]
end KPA
/-- after a question the reference is as it was, but for what is scratch -/
noncomputable def QKd (mo w : OB) : Prop := (∀ j, j ≠ 51 → j ≠ 52 → w.1 j = mo.1 j) ∧ (∀ j, j = 0 ∨ (5 < j ∧ j < 38) ∨ (38 < j ∧ j < 44) ∨ j = 50 → w.2.1 j = mo.2.1 j) ∧ (∀ i, i < 8 → w.2.1 1 i = mo.2.1 1 i) ∧ (∀ i, i < 4 → w.2.1 2 i = mo.2.1 2 i) ∧ (∀ j i, 3 ≤ j → j ≤ 5 → i < 8 → w.2.1 j i = mo.2.1 j i) ∧ (∀ i, i < 8 → w.2.1 38 i = mo.2.1 38 i) ∧ ∀ i, i < 1600 → w.2.1 49 i = mo.2.1 49 i
theorem QKd.rf {mo : OB} : QKd mo mo := ⟨fun _ _ _ => rfl, fun _ _ => rfl, fun _ _ => rfl, fun _ _ => rfl, fun _ _ _ _ _ => rfl, fun _ _ => rfl, fun _ _ => rfl⟩
theorem QKd.tr {a b c : OB} (h1 : QKd a b) (h2 : QKd b c) : QKd a c := ⟨fun j p q => (h2.1 j p q).trans (h1.1 j p q), fun j p => (h2.2.1 j p).trans (h1.2.1 j p), fun i p => (h2.2.2.1 i p).trans (h1.2.2.1 i p), fun i p => (h2.2.2.2.1 i p).trans (h1.2.2.2.1 i p), fun j i p q r => (h2.2.2.2.2.1 j i p q r).trans (h1.2.2.2.2.1 j i p q r), fun i p => (h2.2.2.2.2.2.1 i p).trans (h1.2.2.2.2.2.1 i p), fun i p => (h2.2.2.2.2.2.2 i p).trans (h1.2.2.2.2.2.2 i p)⟩
/-- what goes on between: rows 1 to 5, the must and the scratch may be other -/
noncomputable def GOd (mo w : OB) : Prop := (∀ j, j ≠ 51 → j ≠ 52 → w.1 j = mo.1 j) ∧ (∀ j, j = 0 ∨ (5 < j ∧ j < 38) ∨ (38 < j ∧ j < 44) ∨ j = 50 → w.2.1 j = mo.2.1 j) ∧ ∀ i, i < 1600 → w.2.1 49 i = mo.2.1 49 i
theorem SVd.go {mo w : OB} (k : SVd mo w) : GOd mo w := ⟨k.1, fun j _ => k.2.1 j (by omega), k.2.2.1⟩
theorem KGd.go {mo w w2 : OB} (g : GOd mo w) (k : KGd w w2) : GOd mo w2 := ⟨fun j a b => (congrFun k.1 j).trans (g.1 j a b), fun j p => (k.2.1 j (by omega) (by omega)).trans (g.2.1 j p), fun i p => (congrFun (k.2.1 49 (by decide) (by decide)) i).trans (g.2.2 i p)⟩
theorem KGd.blk {mo w w2 : OB} (b : BLK mo w) (k : KGd w w2) : BLK mo w2 := by
  unfold BLK
  rw [k.2.1 49 (by decide) (by decide)]
  exact b
theorem lays_q {F : Nat} {mo w : OB} (hF : 600 ≤ F) (hB : BLK mo w) (g : GOd mo w) (h38 : ∀ i, i < 8 → w.2.1 38 i = mo.2.1 38 i) : ∃ w2, f_X9_laysBack F w = some w2 ∧ QKd mo w2 ∧ BLK mo w2 ∧ LBd mo w w2 := by
  obtain ⟨w2, e1, l, b⟩ := s_laysBack (F := F) hF hB
  refine ⟨w2, e1, ⟨fun j p q => (l.1 j p q).trans (g.1 j p q), fun j p => (l.2.1 j (by omega)).trans (g.2.1 j p), l.2.2.1, l.2.2.2.1, fun j i p q r => ?_, fun i p => (congrFun (l.2.1 38 (by omega)) i).trans (h38 i p), fun i p => (congrFun (l.2.1 49 (by omega)) i).trans (g.2.2 i p)⟩, b, l⟩
  rcases (show j = 3 ∨ j = 4 ∨ j = 5 by omega) with z | z | z <;> subst z
  · exact l.2.2.2.2.1 i r
  · exact l.2.2.2.2.2.1 i r
  · exact l.2.2.2.2.2.2.1 i r
