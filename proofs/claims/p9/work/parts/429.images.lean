/-! images of the reference -/
noncomputable def ImOk (g : Nat → Int32) (rl : Int32) (b : Nat) : Prop := (iv 0 4 (g (b + 1)) ∧ iv 0 8 (g (b + 2)) ∧ iv 0 8 (g (b + 3)) ∧ iv 0 10 (g (b + 5)) ∧ iv 0 2147483647 (g (b + 6)) ∧ iv (-1) 5 (g (b + 7)) ∧ (g (b + 7)).toInt < rl.toInt) ∧ (∀ j, j < 8 → iv 0 20 (g (b + 28 + j))) ∧ iv 0 20 (g (b + 36)) ∧ (∀ j, j < 8 → iv 0 7 (g (b + 45 + j))) ∧ (∀ j, j < 10 → iv 0 60 (g (b + 53 + j))) ∧ (∀ j, j < 10 → iv 0 7 (g (b + 63 + j))) ∧ HallOk (g (b + 2)) (g (b + 3)) (fun j => g (b + 20 + j)) (fun j => g (b + 45 + j)) (fun j => g (b + 28 + j))
theorem HallOk.cg {s2 s3 : Int32} {so co w so2 co2 w2 : Nat → Int32} (h : HallOk s2 s3 so co w) (h2 : s2.toInt ≤ 8) (h3 : s3.toInt ≤ 8) (e1 : ∀ j, j < 8 → so2 j = so j) (e2 : ∀ j, j < 8 → co2 j = co j) (e3 : ∀ j, j < 8 → w2 j = w j) : HallOk s2 s3 so2 co2 w2 := by
  refine ⟨fun c hc => ?_, fun q hq => ?_⟩
  · rw [e1 c (by omega)]; exact h.1 c hc
  · rw [e2 q (by omega), e3 q (by omega)]; exact h.2 q hq
theorem ImOk.mk {g : Nat → Int32} {rl s0 s1 s2 s3 s4 s5 s6 s7 pm : Int32} {so w co nm nw : Nat → Int32} {b : Nat} (hs : ∀ j, j < 8 → g (b + j) = sc8 s0 s1 s2 s3 s4 s5 s6 s7 j) (hso : ∀ j, j < 8 → g (b + 20 + j) = so j) (hw : ∀ j, j < 8 → g (b + 28 + j) = w j) (hp : g (b + 36) = pm) (hco : ∀ j, j < 8 → g (b + 45 + j) = co j) (hnm : ∀ j, j < 10 → g (b + 53 + j) = nm j) (hnw : ∀ j, j < 10 → g (b + 63 + j) = nw j) (i1 : iv 0 4 s1) (i2 : iv 0 8 s2) (i3 : iv 0 8 s3) (i5 : iv 0 10 s5) (i6 : iv 0 2147483647 s6) (i7 : iv (-1) 5 s7) (h7 : s7.toInt < rl.toInt) (rw' : rowIn 0 20 w) (ip : iv 0 20 pm) (rc : rowIn 0 7 co) (rn : rowIn 0 60 nm) (rm : rowIn 0 7 nw) (hH : HallOk s2 s3 so co w) : ImOk g rl b ∧ g (b + 6) = s6 := by
  have e1 : g (b + 1) = s1 := hs 1 (by decide)
  have e2 : g (b + 2) = s2 := hs 2 (by decide)
  have e3 : g (b + 3) = s3 := hs 3 (by decide)
  have e5 : g (b + 5) = s5 := hs 5 (by decide)
  have e6 : g (b + 6) = s6 := hs 6 (by decide)
  have e7 : g (b + 7) = s7 := hs 7 (by decide)
  refine ⟨?_, e6⟩
  unfold ImOk
  rw [e1, e2, e3, e5, e6, e7, hp]
  exact ⟨⟨i1, i2, i3, i5, i6, i7, h7⟩, fun j hj => by rw [hw j hj]; exact rw' j, ip, fun j hj => by rw [hco j hj]; exact rc j, fun j hj => by rw [hnm j hj]; exact rn j, fun j hj => by rw [hnw j hj]; exact rm j, hH.cg i2.2 i3.2 hso hco hw⟩
theorem ImOk.cg {g g2 : Nat → Int32} {rl rl2 : Int32} {b : Nat} (h : ImOk g rl b) (hl : rl.toInt ≤ rl2.toInt) (e : ∀ j, b ≤ j → j < b + 400 → g2 j = g j) : ImOk g2 rl2 b := by
  obtain ⟨⟨a1, a2, a3, a5, a6, a7, a8⟩, b1, b2, b3, b4, b5, b6⟩ := h
  unfold ImOk
  rw [e (b + 1) (by omega) (by omega), e (b + 2) (by omega) (by omega), e (b + 3) (by omega) (by omega), e (b + 5) (by omega) (by omega), e (b + 6) (by omega) (by omega), e (b + 7) (by omega) (by omega), e (b + 36) (by omega) (by omega)]
  exact ⟨⟨a1, a2, a3, a5, a6, a7, by omega⟩, fun j hj => by rw [e _ (by omega) (by omega)]; exact b1 j hj, b2, fun j hj => by rw [e _ (by omega) (by omega)]; exact b3 j hj, fun j hj => by rw [e _ (by omega) (by omega)]; exact b4 j hj, fun j hj => by rw [e _ (by omega) (by omega)]; exact b5 j hj, b6.cg a2.2 a3.2 (fun j hj => e _ (by omega) (by omega)) (fun j hj => e _ (by omega) (by omega)) (fun j hj => e _ (by omega) (by omega))⟩
theorem CpO.row {f0 f g : Nat → Int32} {a n lo hi : Int} {b m : Nat} (h : CpO f0 f g a n) (hf : rowIn lo hi f0) (hb : (b : Int) = a) (hm : (m : Int) = n) (hg : ∀ j, j < m → iv lo hi (g (b + j))) : rowIn lo hi f := by
  intro j
  by_cases hj : (j : Int) < n
  · rw [h.at hb hj]; exact hg j (by omega)
  · rw [(h j).2 (by omega)]; exact hf j
