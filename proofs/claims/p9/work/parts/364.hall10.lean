/-! the hall, pure: the whole of both -/
section HWH
variable {F : Nat}
theorem cp_loop {n : Nat} {fr : Nat → Int32} (hn : n ≤ 500) : ∀ (r g k : Nat) (gr : Nat → Int32), k + r = n → r < g → (∀ j, j < k → gr j = fr j) → ∃ g2, lp (b_X9_copies_2 F n n fr) g (nI k, gr) = some g2 ∧ ∀ j, j < n → g2 j = fr j
  | 0, g, k, gr, h1, h2, h3 => by
    obtain ⟨g, rfl⟩ : ∃ g', g = g' + 1 := ⟨g - 1, by omega⟩
    refine ⟨gr, ?_, fun j hj => h3 j (by omega)⟩
    rw [lp_S, b_X9_copies_2]
    dsimp only
    rw [if_pos (show Int32.ofNat n ≤ nI k from nI_le (a := n) (b := k) (by omega) (by omega))]
  | r + 1, g, k, gr, h1, h2, h3 => by
    obtain ⟨g, rfl⟩ : ∃ g', g = g' + 1 := ⟨g - 1, by omega⟩
    rw [lp_S, b_X9_copies_2]
    dsimp only
    rw [if_neg (show ¬ Int32.ofNat n ≤ nI k from nI_ge (a := k) (b := n) (by omega) (by omega)), if_pos (ib_n (by omega) (by omega)), if_pos (ib_n (by omega) (by omega)), nI_1, nI_clamp (by omega)]
    exact cp_loop hn r g (k + 1) _ (by omega) (by omega) (fun j hj => by
      by_cases e : j = k
      · rw [e, pk_us]
      · rw [pk_un e]
        exact h3 j (by omega))
theorem s_copies {n : Nat} {fr gr : Nat → Int32} (hn : n ≤ 500) (hF : 600 ≤ F) : ∃ g2, f_X9_copies F n n fr gr = some g2 ∧ ∀ j, j < n → g2 j = fr j := cp_loop (F := F) hn n F 0 gr (by omega) (by omega) (fun j hj => absurd hj (Nat.not_lt_zero _))
/-- the reference's rows for a minute and who is how -/
noncomputable def mbg (mo : OB) (sc ca is : Nat → Int32) : OB := (mo.1, uF (uF (uF mo.2.1 1 sc) 2 ca) 3 is, mo.2.2)
theorem bg_loop {mo : OB} {sc ca : Nat → Int32} : ∀ (r g k : Nat) (is : Nat → Int32), k + r = 8 → r < g → (∀ j, j < k → is j = 0) → ∃ is2, lp (b_X9_begins_20 F) g (nI k, mbg mo sc ca is) = some (mbg mo sc ca is2) ∧ ∀ j, j < 8 → is2 j = 0
  | 0, g, k, is, h1, h2, h3 => by
    obtain ⟨g, rfl⟩ : ∃ g', g = g' + 1 := ⟨g - 1, by omega⟩
    refine ⟨is, ?_, fun j hj => h3 j (by omega)⟩
    rw [lp_S, b_X9_begins_20]
    dsimp only
    rw [if_pos (show (8 : Int32) ≤ nI k from nI_le (a := 8) (b := k) (by omega) (by omega))]
  | r + 1, g, k, is, h1, h2, h3 => by
    obtain ⟨g, rfl⟩ : ∃ g', g = g' + 1 := ⟨g - 1, by omega⟩
    rw [lp_S, b_X9_begins_20]
    dsimp only
    rw [if_neg (show ¬ (8 : Int32) ≤ nI k from nI_ge (a := k) (b := 8) (by omega) (by omega)), if_pos (ib_n (show k < 8 by omega) (by decide)), nI_1, nI_clamp (by omega), show (mbg mo sc ca is).2.1 3 = is from rfl]
    rw [show (((mbg mo sc ca is).1, uF (mbg mo sc ca is).2.1 3 (upd is k 0), (mbg mo sc ca is).2.2) : OB) = mbg mo sc ca (upd is k 0) from by
      unfold mbg
      dsimp only
      rw [uF_uF]]
    exact bg_loop r g (k + 1) _ (by omega) (by omega) (fun j hj => by
      by_cases e : j = k
      · rw [e, pk_us]
      · rw [pk_un e]
        exact h3 j (by omega))
theorem s_begins {mo : OB} (hF : 600 ≤ F) : ∃ ca2 is2, f_X9_begins F mo = some (mbg mo (upd (mo.2.1 1) 4 0) ca2 is2) ∧ (∀ j, j < 4 → ca2 j = mo.2.1 11 j) ∧ ∀ j, j < 8 → is2 j = 0 := by
  obtain ⟨c2, e1, g1⟩ := s_copies (F := F) (n := 4) (fr := mo.2.1 11) (gr := mo.2.1 2) (by decide) hF
  obtain ⟨i2, e2, g2⟩ := bg_loop (F := F) (mo := mo) (sc := upd (mo.2.1 1) 4 0) (ca := c2) 8 F 0 (mo.2.1 3) (by omega) (by omega) (fun j hj => absurd hj (Nat.not_lt_zero _))
  refine ⟨c2, i2, ?_, g1, g2⟩
  unfold f_X9_begins
  rw [e1, bd_some, show Int32.toNatClampNeg 4 = 4 from by decide, ← e2]
  unfold mbg
  rw [show mo.2.1 3 = uF (uF mo.2.1 1 (upd (mo.2.1 1) 4 0)) 2 c2 3 from rfl, uF_id]
  rfl
theorem sc_loop {mo : OB} : ∀ (r g k : Nat) (sc : Nat → Int32), k + r = 4 → r < g → (∀ j, j < k → sc j = mo.2.1 12 j) → (∀ j, 4 ≤ j → sc j = mo.2.1 1 j) → ∃ sc2, (∀ j, j < 4 → sc2 j = mo.2.1 12 j) ∧ (∀ j, 4 ≤ j → sc2 j = mo.2.1 1 j) ∧ ∃ g2, lp (b_X9_hall_21 F) g (nI k, (mo.1, uF mo.2.1 1 sc, mo.2.2)) = lp (b_X9_hall_21 F) (g2 + 1) (nI 4, (mo.1, uF mo.2.1 1 sc2, mo.2.2))
  | 0, g, k, sc, h1, h2, h3, h4 => by
    obtain ⟨g, rfl⟩ : ∃ g', g = g' + 1 := ⟨g - 1, by omega⟩
    refine ⟨sc, fun j hj => h3 j (by omega), h4, g, ?_⟩
    rw [show k = 4 by omega]
  | r + 1, g, k, sc, h1, h2, h3, h4 => by
    obtain ⟨g, rfl⟩ : ∃ g', g = g' + 1 := ⟨g - 1, by omega⟩
    rw [lp_S, b_X9_hall_21]
    dsimp only
    rw [if_neg (show ¬ (4 : Int32) ≤ nI k from nI_ge (a := k) (b := 4) (by omega) (by omega)), if_pos (ib_n (show k < 4 by omega) (by decide)), if_pos (ib_n (show k < 8 by omega) (by decide)), nI_1, nI_clamp (by omega), show (uF mo.2.1 1 sc) 1 = sc from rfl, show (uF mo.2.1 1 sc) 12 = mo.2.1 12 from rfl, uF_uF]
    exact sc_loop r g (k + 1) _ (by omega) (by omega) (fun j hj => by
      by_cases e : j = k
      · rw [e, pk_us]
      · rw [pk_un e]
        exact h3 j (by omega)) (fun j hj => by
      rw [pk_un (by omega)]
      exact h4 j hj)
/-- the reference holds the hall -/
noncomputable def MKd (h : HLd) (mo : OB) : Prop := (mo.2.1 1 0 = nI (h.1 0) ∧ mo.2.1 1 1 = nI (h.1 1) ∧ mo.2.1 1 2 = nI (h.1 2) ∧ mo.2.1 1 3 = nI (h.1 3)) ∧ (∀ k, k < h.1 1 → mo.2.1 11 k = nI (h.2 4 k)) ∧ (∀ k, k < h.1 2 → mo.2.1 6 k = nI (h.2 5 k) ∧ mo.2.1 4 k = nI (h.2 6 k)) ∧ ∀ k, k < h.1 3 → mo.2.1 7 k = nI (h.2 7 k) ∧ mo.2.1 5 k = nI (h.2 8 k)
/-- how one is -/
noncomputable def stt (S D k : Nat) : Nat := if bS D k then 2 else if bS S k then 1 else 0
/-- the reference holds the hall and how it is -/
noncomputable def MDd (h : HLd) (cn : Nat → Nat) (S D mi : Nat) (mo : OB) : Prop := MKd h mo ∧ mo.2.1 1 4 = nI mi ∧ (∀ k, k < h.1 1 → mo.2.1 2 k = nI (cn k)) ∧ ∀ k, k < h.1 3 → mo.2.1 3 k = nI (stt S D k)
/-- what hall leaves as it was in the reference: all but the rows of the hall, of how it is, and of reading -/
noncomputable def hFr (mo mo2 : OB) : Prop := (∀ j, j ≠ 18 → j ≠ 19 → j ≠ 20 → j ≠ 23 → j ≠ 24 → j ≠ 25 → j ≠ 41 → mo2.1 j = mo.1 j) ∧ (∀ j, 18 ≤ j → mo2.2.1 j = mo.2.1 j) ∧ (∀ j, 8 ≤ j → j < 11 → mo2.2.1 j = mo.2.1 j) ∧ (∀ j, 6 ≤ j → mo2.2.1 1 j = mo.2.1 1 j) ∧ mo2.2.2 = mo.2.2
end HWH
