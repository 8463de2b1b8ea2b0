/-! feed, end of both, pure -/
noncomputable def B8 (x c : Int32) : Int32 := vp_nar .byte (Int8.toInt32 (Int32.toInt8 (x >>> (c &&& 31))))
theorem B8_in (x c : Int32) : -128 ≤ (B8 x c).toInt ∧ (B8 x c).toInt ≤ 127 := by
  have e : ∃ w : Int8, B8 x c = w.toInt32 := ⟨_, rfl⟩
  obtain ⟨w, e⟩ := e
  rw [e, Int8.toInt_toInt32]
  have h1 := Int8.le_toInt w
  have h2 := Int8.toInt_lt w
  omega
theorem upd_in {lo hi : Int} {f : Nat → Int32} {k : Nat} {v : Int32} (h : ∀ i, lo ≤ (f i).toInt ∧ (f i).toInt ≤ hi) (hv : lo ≤ v.toInt ∧ v.toInt ≤ hi) : ∀ i, lo ≤ (upd f k v i).toInt ∧ (upd f k v i).toInt ≤ hi := fun i => by
  by_cases e : i = k
  · subst e
    rw [pk_us]
    exact hv
  · rw [pk_un e]
    exact h i
noncomputable def tL (tp : OB) (L : Nat) (f : Nat → Int32) : OB := (uF tp.1 1 (nI L), uF tp.2.1 0 f, tp.2.2)
noncomputable def mL (mo : OB) (L : Nat) (f : Nat → Int32) : OB := (uF mo.1 18 (nI L), uF mo.2.1 28 f, mo.2.2)
noncomputable def G8 (x : Int32) (L : Nat) (f : Nat → Int32) : Nat → Int32 := upd (upd (upd (upd f L (B8 x 24)) (L + 1) (B8 x 16)) (L + 2) (B8 x 8)) (L + 3) (B8 x 0)
theorem G8_in {x : Int32} {L : Nat} {f : Nat → Int32} (h : ∀ i, -128 ≤ (f i).toInt ∧ (f i).toInt ≤ 127) : ∀ i, -128 ≤ (G8 x L f i).toInt ∧ (G8 x L f i).toInt ≤ 127 := upd_in (upd_in (upd_in (upd_in h (B8_in _ _)) (B8_in _ _)) (B8_in _ _)) (B8_in _ _)
theorem tL_id {tp : OB} {L : Nat} (h : tp.1 1 = nI L) : tL tp L (tp.2.1 0) = tp := by
  unfold tL
  rw [← h, uF_id, uF_id]
theorem mL_id {mo : OB} {L : Nat} (h : mo.1 18 = nI L) : mL mo L (mo.2.1 28) = mo := by
  unfold mL
  rw [← h, uF_id, uF_id]
theorem ap_step {F n : Nat} {x c : Int32} {tp : OB} {L : Nat} {f : Nat → Int32} (hc : ¬ c < 0) (hL : L < 400) : lp (b_X7_append_3 F) (n + 1) (x, c, tL tp L f) = lp (b_X7_append_3 F) n (x, c + (-8), tL tp (L + 1) (upd f L (B8 x c))) := by
  have e1 : (tL tp L f).1 1 = nI L := rfl
  have e2 : (tL tp L f).2.1 0 = f := rfl
  have c1 : ¬ (400 : Int32) ≤ (tL tp L f).1 1 := by
    rw [e1]
    exact nI_ge (a := L) (b := 400) hL (by decide)
  have c2 : ib ((tL tp L f).1 1) 400 := by
    rw [e1]
    exact ib_n hL (by decide)
  have e3 : tL tp (L + 1) (upd f L (B8 x c)) = (uF (tL tp L f).1 1 (nI L + 1), uF (tL tp L f).2.1 0 (upd f L (B8 x c)), (tL tp L f).2.2) := by
    unfold tL
    rw [uF_uF, uF_uF, nI_1]
  rw [e3, lp_S, b_X7_append_3]
  dsimp only
  rw [if_neg hc, if_neg c1, if_pos c2]
  unfold b_X7_append_40
  rw [e1, e2, nI_clamp (by omega)]
  rfl
theorem pt_step {F n : Nat} {x c : Int32} {mo : OB} {L : Nat} {f : Nat → Int32} (hc : ¬ c < 0) (hL : L < 400) : lp (b_X9_put_3 F) (n + 1) (x, c, mL mo L f) = lp (b_X9_put_3 F) n (x, c + (-8), mL mo (L + 1) (upd f L (B8 x c))) := by
  have e1 : (mL mo L f).1 18 = nI L := rfl
  have e2 : (mL mo L f).2.1 28 = f := rfl
  have c2 : ib ((mL mo L f).1 18) 400 := by
    rw [e1]
    exact ib_n hL (by decide)
  have e3 : mL mo (L + 1) (upd f L (B8 x c)) = (uF (mL mo L f).1 18 (nI L + 1), uF (mL mo L f).2.1 28 (upd f L (B8 x c)), (mL mo L f).2.2) := by
    unfold mL
    rw [uF_uF, uF_uF, nI_1]
  rw [e3, lp_S, b_X9_put_3]
  dsimp only
  rw [if_neg hc, if_pos c2, e1, e2, nI_clamp (by omega)]
  rfl
theorem ap_4 {F : Nat} (hF : 5 ≤ F) {x : Int32} {tp : OB} {L : Nat} {f : Nat → Int32} (h : L + 4 ≤ 400) : f_X7_append F x (tL tp L f) = some (tL tp (L + 4) (G8 x L f)) := by
  have key : ∀ g, 5 ≤ g → lp (b_X7_append_3 F) g (x, 24, tL tp L f) = some (tL tp (L + 4) (G8 x L f)) := by
    intro g hg
    obtain ⟨n, rfl⟩ : ∃ n, g = n + 1 + 1 + 1 + 1 + 1 := ⟨g - 5, by omega⟩
    rw [ap_step (by decide) (by omega), show (24 : Int32) + (-8) = 16 from by decide, ap_step (by decide) (by omega), show (16 : Int32) + (-8) = 8 from by decide, ap_step (by decide) (by omega), show (8 : Int32) + (-8) = 0 from by decide, ap_step (by decide) (by omega), show (0 : Int32) + (-8) = -8 from by decide, lp_S, b_X7_append_3]
    dsimp only
    rw [if_pos (by decide)]
    rfl
  exact key F hF
theorem pt_4 {F : Nat} (hF : 5 ≤ F) {x : Int32} {mo : OB} {L : Nat} {f : Nat → Int32} (h : L + 4 ≤ 400) : f_X9_put F x (mL mo L f) = some (mL mo (L + 4) (G8 x L f)) := by
  have key : ∀ g, 5 ≤ g → lp (b_X9_put_3 F) g (x, 24, mL mo L f) = some (mL mo (L + 4) (G8 x L f)) := by
    intro g hg
    obtain ⟨n, rfl⟩ : ∃ n, g = n + 1 + 1 + 1 + 1 + 1 := ⟨g - 5, by omega⟩
    rw [pt_step (by decide) (by omega), show (24 : Int32) + (-8) = 16 from by decide, pt_step (by decide) (by omega), show (16 : Int32) + (-8) = 8 from by decide, pt_step (by decide) (by omega), show (8 : Int32) + (-8) = 0 from by decide, pt_step (by decide) (by omega), show (0 : Int32) + (-8) = -8 from by decide, lp_S, b_X9_put_3]
    dsimp only
    rw [if_pos (by decide)]
    rfl
  exact key F hF
theorem l20 {L : Nat} (h : L ≤ 400) : nI L + 20 ≤ 400 ↔ L + 20 ≤ 400 := by
  show nI L + nI 20 ≤ nI 400 ↔ _
  rw [nI_add]
  exact nI_leI (by omega) (by decide)
theorem feed_two {F : Nat} (hF : 5 ≤ F) (x1 x2 x3 x4 x5 : Int32) {xi : Nat → Int32} {tp mo : OB} {L : Nat} (h1 : tp.1 1 = nI L) (h2 : mo.1 18 = nI L) (h4 : L ≤ 400) (hB : tp.2.1 0 = mo.2.1 28) (hby : ∀ i, -128 ≤ (mo.2.1 28 i).toInt ∧ (mo.2.1 28 i).toInt ≤ 127) : ∃ (r : Int32) (L2 : Nat) (f : Nat → Int32), L2 ≤ 400 ∧ (∀ i, -128 ≤ (f i).toInt ∧ (f i).toInt ≤ 127) ∧ f_X8_feed F x1 x2 x3 x4 x5 xi tp = some (r, tL tp L2 f) ∧ f_X9_feed F x1 x2 x3 x4 x5 mo = some (r, mL mo L2 f) := by
  by_cases h : L + 20 ≤ 400
  · have a1 := ap_4 (F := F) hF (x := x1) (tp := tp) (L := L) (f := mo.2.1 28) (by omega)
    rw [← hB, tL_id h1, hB] at a1
    have b1 := pt_4 (F := F) hF (x := x1) (mo := mo) (L := L) (f := mo.2.1 28) (by omega)
    rw [mL_id h2] at b1
    refine ⟨nI (L + 4 + 4 + 4 + 4 + 4), L + 4 + 4 + 4 + 4 + 4, G8 x5 (L + 4 + 4 + 4 + 4) (G8 x4 (L + 4 + 4 + 4) (G8 x3 (L + 4 + 4) (G8 x2 (L + 4) (G8 x1 L (mo.2.1 28))))), by omega, G8_in (G8_in (G8_in (G8_in (G8_in hby)))), ?_, ?_⟩
    · unfold f_X8_feed
      rw [if_pos (by rw [h1]; exact (l20 h4).mpr h), a1, bd_some, ap_4 hF (by omega), bd_some, ap_4 hF (by omega), bd_some, ap_4 hF (by omega), bd_some, ap_4 hF (by omega), bd_some]
      rfl
    · unfold f_X9_feed
      rw [if_pos (by rw [h2]; exact (l20 h4).mpr h), b1, bd_some, pt_4 hF (by omega), bd_some, pt_4 hF (by omega), bd_some, pt_4 hF (by omega), bd_some, pt_4 hF (by omega), bd_some]
      rfl
  · refine ⟨-1, L, mo.2.1 28, h4, hby, ?_, ?_⟩
    · rw [← hB, tL_id h1]
      unfold f_X8_feed
      rw [if_neg (by rw [h1]; exact fun q => h ((l20 h4).mp q))]
    · rw [mL_id h2]
      unfold f_X9_feed
      rw [if_neg (by rw [h2]; exact fun q => h ((l20 h4).mp q))]
theorem end_two {F : Nat} (x1 : Int32) {xi : Nat → Int32} {tp mo : OB} {L : Nat} (h1 : tp.1 1 = nI L) (h2 : mo.1 18 = nI L) (h4 : L ≤ 400) (hB : tp.2.1 0 = mo.2.1 28) : ∃ (r : Int32) (L2 : Nat), L2 ≤ 400 ∧ f_X8_end F x1 xi tp = some (r, tL tp L2 (mo.2.1 28)) ∧ f_X9_end F x1 mo = some (r, mL mo L2 (mo.2.1 28)) := by
  have no : ∃ (r : Int32) (L2 : Nat), L2 ≤ 400 ∧ b_X8_end_15 F xi tp = some (r, tL tp L2 (mo.2.1 28)) ∧ b_X9_end_12 F mo = some (r, mL mo L2 (mo.2.1 28)) := by
    refine ⟨-1, L, h4, ?_, ?_⟩
    · rw [← hB, tL_id h1]
      rfl
    · rw [mL_id h2]
      rfl
  unfold f_X8_end f_X9_end
  rw [h1, h2]
  by_cases c1 : x1 < 0
  · rw [if_pos c1, if_pos c1]
    exact no
  · rw [if_neg c1, if_neg c1]
    by_cases c2 : x1 ≤ nI L
    · rw [if_pos c2, if_pos c2]
      obtain ⟨j, hj, rfl⟩ := nI_of c1
      have hjL : j ≤ L := (nI_leI hj (by omega)).mp c2
      refine ⟨nI j, j, by omega, ?_, ?_⟩
      · unfold tL
        rw [← hB, uF_id]
      · unfold mL
        rw [uF_id]
    · rw [if_neg c2, if_neg c2]
      exact no
