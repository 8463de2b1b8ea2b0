/-! Acts, Notes, Rule: what never breaks -/
/-! intervals: rests, the greater and the less -/
theorem ai_rem {x z : Int32} {hi : Int} (d : Nat) (h0 : 0 ≤ x.toInt) (hd : 0 < d ∧ d < 2 ^ 31 ∧ (d : Int) - 1 = hi) (e : z = x - x / (nI d) * (nI d)) : iv 0 hi z := by
  obtain ⟨j, hj, rfl⟩ := nI_of (x := x) (fun h => by simp only [sp_lt, sp0] at h; omega)
  rw [e, pk_rem hj hd.1 hd.2.1]
  have hm := Nat.mod_lt j hd.1
  unfold iv
  rw [nI_toInt (by omega)]
  omega
theorem iv_f {x : Int32} (h : iv 0 1 x) : fits .boolean (.int x) = true := by
  have : x = 0 ∨ x = 1 := by
    simp only [sp_eq, sp0, sp1]
    have := h.1
    have := h.2
    omega
  rcases this with rfl | rfl <;> rfl
theorem ai_max {x y z : Int32} {a b : Int} (ha : x.toInt = a) (hb : y.toInt = b) (e : z = if x < y then y else x) : (z.toInt = a ∨ z.toInt = b) ∧ a ≤ z.toInt ∧ b ≤ z.toInt := by
  by_cases h : x < y
  · rw [if_pos h] at e
    simp only [sp_lt, ha, hb] at h
    rw [e, hb]; omega
  · rw [if_neg h] at e
    simp only [sp_lt, ha, hb] at h
    rw [e, ha]; omega
theorem ai_min {x y z : Int32} {a b : Int} (ha : x.toInt = a) (hb : y.toInt = b) (e : z = if y < x then y else x) : (z.toInt = a ∨ z.toInt = b) ∧ z.toInt ≤ a ∧ z.toInt ≤ b := by
  by_cases h : y < x
  · rw [if_pos h] at e
    simp only [sp_lt, ha, hb] at h
    rw [e, hb]; omega
  · rw [if_neg h] at e
    simp only [sp_lt, ha, hb] at h
    rw [e, ha]; omega

set_option maxHeartbeats 4000000 in
set_option maxRecDepth 100000 in
theorem i_X3_copyFrom (l : Launch) (D : va_G) (k : Nat → ClassId) (sz : Nat) (r : Nat) (r_told : Int32) (r_strands : Int32) (r_chairs : Int32) (r_sitters : Int32) (r_atoldCane : Nat) (r_aheight : Nat) (r_astrandOf : Nat) (r_achairOf : Nat) (r_aweight : Nat) (r_acane : Nat) (r_sits : Int32) (r_dropped : Int32) (r_minute : Int32) (r_aload : Nat) (r_aheads : Nat) (r_held : Int32) (r_heldDown : Int32) (r_rtoldCane : Nat → Int32) (r_rheight : Nat → Int32) (r_rstrandOf : Nat → Int32) (r_rchairOf : Nat → Int32) (r_rweight : Nat → Int32) (r_rcane : Nat → Int32) (r_rload : Nat → Int32) (r_rheads : Nat → Int32) (oo : Nat) (oo_told : Int32) (oo_strands : Int32) (oo_chairs : Int32) (oo_sitters : Int32) (oo_atoldCane : Nat) (oo_aheight : Nat) (oo_astrandOf : Nat) (oo_achairOf : Nat) (oo_aweight : Nat) (oo_acane : Nat) (oo_sits : Int32) (oo_dropped : Int32) (oo_minute : Int32) (oo_aload : Nat) (oo_aheads : Nat) (oo_held : Int32) (oo_heldDown : Int32) (oo_rtoldCane : Nat → Int32) (oo_rheight : Nat → Int32) (oo_rstrandOf : Nat → Int32) (oo_rchairOf : Nat → Int32) (oo_rweight : Nat → Int32) (oo_rcane : Nat → Int32) (oo_rload : Nat → Int32) (oo_rheads : Nat → Int32) (h_r_told : iv (0) (1) r_told) (h_r_strands : iv (0) (4) r_strands) (h_r_chairs : iv (0) (8) r_chairs) (h_r_sitters : iv (0) (8) r_sitters) (h_r_rstrandOf : rowIn (0) (3) r_rstrandOf) (h_r_rchairOf : rowIn (0) (7) r_rchairOf) (h_oo_told : iv (0) (1) oo_told) (h_oo_strands : iv (0) (4) oo_strands) (h_oo_chairs : iv (0) (8) oo_chairs) (h_oo_sitters : iv (0) (8) oo_sitters) (h_oo_rstrandOf : rowIn (0) (3) oo_rstrandOf) (h_oo_rchairOf : rowIn (0) (7) oo_rchairOf) : CtV l yX3_copyFrom wsX3_copyFrom (rmK 1 0 0) [.ref r, .ref oo] D k sz ([(r, .inr (2, [.int r_told, .int r_strands, .int r_chairs, .int r_sitters, .ref r_atoldCane, .ref r_aheight, .ref r_astrandOf, .ref r_achairOf, .ref r_aweight, .ref r_acane, .int r_sits, .int r_dropped, .int r_minute, .ref r_aload, .ref r_aheads, .int r_held, .int r_heldDown])), (r_atoldCane, hcI k 4 r_rtoldCane), (r_aheight, hcI k 8 r_rheight), (r_astrandOf, hcI k 8 r_rstrandOf), (r_achairOf, hcI k 8 r_rchairOf), (r_aweight, hcI k 8 r_rweight), (r_acane, hcI k 4 r_rcane), (r_aload, hcI k 4 r_rload), (r_aheads, hcI k 4 r_rheads), (oo, .inr (2, [.int oo_told, .int oo_strands, .int oo_chairs, .int oo_sitters, .ref oo_atoldCane, .ref oo_aheight, .ref oo_astrandOf, .ref oo_achairOf, .ref oo_aweight, .ref oo_acane, .int oo_sits, .int oo_dropped, .int oo_minute, .ref oo_aload, .ref oo_aheads, .int oo_held, .int oo_heldDown])), (oo_atoldCane, hcI k 4 oo_rtoldCane), (oo_aheight, hcI k 8 oo_rheight), (oo_astrandOf, hcI k 8 oo_rstrandOf), (oo_achairOf, hcI k 8 oo_rchairOf), (oo_aweight, hcI k 8 oo_rweight), (oo_acane, hcI k 4 oo_rcane), (oo_aload, hcI k 4 oo_rload), (oo_aheads, hcI k 4 oo_rheads)]) (fun u : (Int32) × (Int32) × (Int32) × (Int32) × (Int32) × (Int32) × (Int32) × (Int32) × (Nat → Int32) × (Nat → Int32) × (Nat → Int32) × (Nat → Int32) × (Nat → Int32) × (Nat → Int32) × (Nat → Int32) × (Nat → Int32) => iv (0) (1) (u.1) ∧ iv (0) (4) (u.2.1) ∧ iv (0) (8) (u.2.2.1) ∧ iv (0) (8) (u.2.2.2.1) ∧ rowIn (0) (3) (u.2.2.2.2.2.2.2.2.2.2.1) ∧ rowIn (0) (7) (u.2.2.2.2.2.2.2.2.2.2.2.1)) (fun u : (Int32) × (Int32) × (Int32) × (Int32) × (Int32) × (Int32) × (Int32) × (Int32) × (Nat → Int32) × (Nat → Int32) × (Nat → Int32) × (Nat → Int32) × (Nat → Int32) × (Nat → Int32) × (Nat → Int32) × (Nat → Int32) => [(r, .inr (2, [.int (u.1), .int (u.2.1), .int (u.2.2.1), .int (u.2.2.2.1), .ref r_atoldCane, .ref r_aheight, .ref r_astrandOf, .ref r_achairOf, .ref r_aweight, .ref r_acane, .int (u.2.2.2.2.1), .int (u.2.2.2.2.2.1), .int (u.2.2.2.2.2.2.1), .ref r_aload, .ref r_aheads, .int (u.2.2.2.2.2.2.2.1), .int r_heldDown])), (r_atoldCane, hcI k 4 (u.2.2.2.2.2.2.2.2.1)), (r_aheight, hcI k 8 (u.2.2.2.2.2.2.2.2.2.1)), (r_astrandOf, hcI k 8 (u.2.2.2.2.2.2.2.2.2.2.1)), (r_achairOf, hcI k 8 (u.2.2.2.2.2.2.2.2.2.2.2.1)), (r_aweight, hcI k 8 (u.2.2.2.2.2.2.2.2.2.2.2.2.1)), (r_acane, hcI k 4 (u.2.2.2.2.2.2.2.2.2.2.2.2.2.1)), (r_aload, hcI k 4 (u.2.2.2.2.2.2.2.2.2.2.2.2.2.2.1)), (r_aheads, hcI k 4 (u.2.2.2.2.2.2.2.2.2.2.2.2.2.2.2)), (oo, .inr (2, [.int oo_told, .int oo_strands, .int oo_chairs, .int oo_sitters, .ref oo_atoldCane, .ref oo_aheight, .ref oo_astrandOf, .ref oo_achairOf, .ref oo_aweight, .ref oo_acane, .int oo_sits, .int oo_dropped, .int oo_minute, .ref oo_aload, .ref oo_aheads, .int oo_held, .int oo_heldDown])), (oo_atoldCane, hcI k 4 oo_rtoldCane), (oo_aheight, hcI k 8 oo_rheight), (oo_astrandOf, hcI k 8 oo_rstrandOf), (oo_achairOf, hcI k 8 oo_rchairOf), (oo_aweight, hcI k 8 oo_rweight), (oo_acane, hcI k 4 oo_rcane), (oo_aload, hcI k 4 oo_rload), (oo_aheads, hcI k 4 oo_rheads)]) 0 0 := by
  have h_r_told_l := h_r_told.1
  have h_r_told_u := h_r_told.2
  have h_r_strands_l := h_r_strands.1
  have h_r_strands_u := h_r_strands.2
  have h_r_chairs_l := h_r_chairs.1
  have h_r_chairs_u := h_r_chairs.2
  have h_r_sitters_l := h_r_sitters.1
  have h_r_sitters_u := h_r_sitters.2
  have h_oo_told_l := h_oo_told.1
  have h_oo_told_u := h_oo_told.2
  have h_oo_strands_l := h_oo_strands.1
  have h_oo_strands_u := h_oo_strands.2
  have h_oo_chairs_l := h_oo_chairs.1
  have h_oo_chairs_u := h_oo_chairs.2
  have h_oo_sitters_l := h_oo_sitters.1
  have h_oo_sitters_u := h_oo_sitters.2
  refine CtV.mk (cc := cX3_copyFrom) (maxL := 2) (ret := none) (by decide) rfl (Nat.le_of_ble_eq_true rfl) ?_
  intro p e s m below meth c A ls E hP hD hS hl
  obtain ⟨hx, hb, hr, hml, hown, hts, hlocks, hin, hG, hA⟩ := E
  have hown : s.vm.findClass RX3 = some m.cls := hown
  have in3 : ∀ w ∈ u_ws RX3 TX3 17, w ∈ wsX3_copyFrom := fun _ h => List.mem_cons_of_mem _ (List.mem_append_right _ h)
  have hl : lv_has ls 2 [(0, .ref r), (1, .ref oo)] := hl
  refine lv_aload_n hx hb dX3_copyFrom_0 rfl (lv_at hl 0 rfl) ?_
  refine lv_aload_n hx hb dX3_copyFrom_1 rfl (lv_at hl 1 rfl) ?_
  refine va_get (D := D) (ci := 2) (v := .int oo_told) (C := RX3) (T := TX3) (N := 17) hx hb hts in3 hown hG.1 hP 9 rfl rfl 0 (by decide) (hts (.fieldLink RX3 9 "ChairCane$Room" "told" "Z") (by decide +kernel)) (fun _ h9 => h9) rfl dX3_copyFrom_2 ?_
  refine va_put (D := D) (ci := 2) (v := .int oo_told) (C := RX3) (T := TX3) (N := 17) hx hb hts in3 tyX3 tyX3_ok nmX3 hown hG.1 hP hD hS 0 rfl rfl 0 (by decide) (hts (.fieldLink RX3 9 "ChairCane$Room" "told" "Z") (by decide +kernel)) (fun _ h9 => h9) rfl (tyX3_ok 0 (by decide)) (iv_z ⟨by omega, by omega⟩) (iv_f ⟨by omega, by omega⟩) (Nat.le_of_ble_eq_true rfl) dX3_copyFrom_5 (fun H locs hP hD hS => ?_)
  have hP : va_P D vwCl ([(r, .inr (2, [.int oo_told, .int r_strands, .int r_chairs, .int r_sitters, .ref r_atoldCane, .ref r_aheight, .ref r_astrandOf, .ref r_achairOf, .ref r_aweight, .ref r_acane, .int r_sits, .int r_dropped, .int r_minute, .ref r_aload, .ref r_aheads, .int r_held, .int r_heldDown])), (r_atoldCane, hcI k 4 r_rtoldCane), (r_aheight, hcI k 8 r_rheight), (r_astrandOf, hcI k 8 r_rstrandOf), (r_achairOf, hcI k 8 r_rchairOf), (r_aweight, hcI k 8 r_rweight), (r_acane, hcI k 4 r_rcane), (r_aload, hcI k 4 r_rload), (r_aheads, hcI k 4 r_rheads), (oo, .inr (2, [.int oo_told, .int oo_strands, .int oo_chairs, .int oo_sitters, .ref oo_atoldCane, .ref oo_aheight, .ref oo_astrandOf, .ref oo_achairOf, .ref oo_aweight, .ref oo_acane, .int oo_sits, .int oo_dropped, .int oo_minute, .ref oo_aload, .ref oo_aheads, .int oo_held, .int oo_heldDown])), (oo_atoldCane, hcI k 4 oo_rtoldCane), (oo_aheight, hcI k 8 oo_rheight), (oo_astrandOf, hcI k 8 oo_rstrandOf), (oo_achairOf, hcI k 8 oo_rchairOf), (oo_aweight, hcI k 8 oo_rweight), (oo_acane, hcI k 4 oo_rcane), (oo_aload, hcI k 4 oo_rload), (oo_aheads, hcI k 4 oo_rheads)]) H := hP
  have hD : va_D A ([(r, .inr (2, [.int oo_told, .int r_strands, .int r_chairs, .int r_sitters, .ref r_atoldCane, .ref r_aheight, .ref r_astrandOf, .ref r_achairOf, .ref r_aweight, .ref r_acane, .int r_sits, .int r_dropped, .int r_minute, .ref r_aload, .ref r_aheads, .int r_held, .int r_heldDown])), (r_atoldCane, hcI k 4 r_rtoldCane), (r_aheight, hcI k 8 r_rheight), (r_astrandOf, hcI k 8 r_rstrandOf), (r_achairOf, hcI k 8 r_rchairOf), (r_aweight, hcI k 8 r_rweight), (r_acane, hcI k 4 r_rcane), (r_aload, hcI k 4 r_rload), (r_aheads, hcI k 4 r_rheads), (oo, .inr (2, [.int oo_told, .int oo_strands, .int oo_chairs, .int oo_sitters, .ref oo_atoldCane, .ref oo_aheight, .ref oo_astrandOf, .ref oo_achairOf, .ref oo_aweight, .ref oo_acane, .int oo_sits, .int oo_dropped, .int oo_minute, .ref oo_aload, .ref oo_aheads, .int oo_held, .int oo_heldDown])), (oo_atoldCane, hcI k 4 oo_rtoldCane), (oo_aheight, hcI k 8 oo_rheight), (oo_astrandOf, hcI k 8 oo_rstrandOf), (oo_achairOf, hcI k 8 oo_rchairOf), (oo_aweight, hcI k 8 oo_rweight), (oo_acane, hcI k 4 oo_rcane), (oo_aload, hcI k 4 oo_rload), (oo_aheads, hcI k 4 oo_rheads)]) := hD
  refine lv_aload_n hx hb dX3_copyFrom_8 rfl (lv_at hl 0 rfl) ?_
  refine lv_aload_n hx hb dX3_copyFrom_9 rfl (lv_at hl 1 rfl) ?_
  refine va_get (D := D) (ci := 2) (v := .int oo_strands) (C := RX3) (T := TX3) (N := 17) hx hb hts in3 hown hG.1 hP 9 rfl rfl 1 (by decide) (hts (.fieldLink RX3 15 "ChairCane$Room" "strands" "I") (by decide +kernel)) (fun _ h9 => h9) rfl dX3_copyFrom_10 ?_
  refine va_put (D := D) (ci := 2) (v := .int oo_strands) (C := RX3) (T := TX3) (N := 17) hx hb hts in3 tyX3 tyX3_ok nmX3 hown hG.1 hP hD hS 0 rfl rfl 1 (by decide) (hts (.fieldLink RX3 15 "ChairCane$Room" "strands" "I") (by decide +kernel)) (fun _ h9 => h9) rfl (tyX3_ok 1 (by decide)) rfl rfl (Nat.le_of_ble_eq_true rfl) dX3_copyFrom_13 (fun H locs hP hD hS => ?_)
  have hP : va_P D vwCl ([(r, .inr (2, [.int oo_told, .int oo_strands, .int r_chairs, .int r_sitters, .ref r_atoldCane, .ref r_aheight, .ref r_astrandOf, .ref r_achairOf, .ref r_aweight, .ref r_acane, .int r_sits, .int r_dropped, .int r_minute, .ref r_aload, .ref r_aheads, .int r_held, .int r_heldDown])), (r_atoldCane, hcI k 4 r_rtoldCane), (r_aheight, hcI k 8 r_rheight), (r_astrandOf, hcI k 8 r_rstrandOf), (r_achairOf, hcI k 8 r_rchairOf), (r_aweight, hcI k 8 r_rweight), (r_acane, hcI k 4 r_rcane), (r_aload, hcI k 4 r_rload), (r_aheads, hcI k 4 r_rheads), (oo, .inr (2, [.int oo_told, .int oo_strands, .int oo_chairs, .int oo_sitters, .ref oo_atoldCane, .ref oo_aheight, .ref oo_astrandOf, .ref oo_achairOf, .ref oo_aweight, .ref oo_acane, .int oo_sits, .int oo_dropped, .int oo_minute, .ref oo_aload, .ref oo_aheads, .int oo_held, .int oo_heldDown])), (oo_atoldCane, hcI k 4 oo_rtoldCane), (oo_aheight, hcI k 8 oo_rheight), (oo_astrandOf, hcI k 8 oo_rstrandOf), (oo_achairOf, hcI k 8 oo_rchairOf), (oo_aweight, hcI k 8 oo_rweight), (oo_acane, hcI k 4 oo_rcane), (oo_aload, hcI k 4 oo_rload), (oo_aheads, hcI k 4 oo_rheads)]) H := hP
  have hD : va_D A ([(r, .inr (2, [.int oo_told, .int oo_strands, .int r_chairs, .int r_sitters, .ref r_atoldCane, .ref r_aheight, .ref r_astrandOf, .ref r_achairOf, .ref r_aweight, .ref r_acane, .int r_sits, .int r_dropped, .int r_minute, .ref r_aload, .ref r_aheads, .int r_held, .int r_heldDown])), (r_atoldCane, hcI k 4 r_rtoldCane), (r_aheight, hcI k 8 r_rheight), (r_astrandOf, hcI k 8 r_rstrandOf), (r_achairOf, hcI k 8 r_rchairOf), (r_aweight, hcI k 8 r_rweight), (r_acane, hcI k 4 r_rcane), (r_aload, hcI k 4 r_rload), (r_aheads, hcI k 4 r_rheads), (oo, .inr (2, [.int oo_told, .int oo_strands, .int oo_chairs, .int oo_sitters, .ref oo_atoldCane, .ref oo_aheight, .ref oo_astrandOf, .ref oo_achairOf, .ref oo_aweight, .ref oo_acane, .int oo_sits, .int oo_dropped, .int oo_minute, .ref oo_aload, .ref oo_aheads, .int oo_held, .int oo_heldDown])), (oo_atoldCane, hcI k 4 oo_rtoldCane), (oo_aheight, hcI k 8 oo_rheight), (oo_astrandOf, hcI k 8 oo_rstrandOf), (oo_achairOf, hcI k 8 oo_rchairOf), (oo_aweight, hcI k 8 oo_rweight), (oo_acane, hcI k 4 oo_rcane), (oo_aload, hcI k 4 oo_rload), (oo_aheads, hcI k 4 oo_rheads)]) := hD
  refine lv_aload_n hx hb dX3_copyFrom_16 rfl (lv_at hl 0 rfl) ?_
  refine lv_aload_n hx hb dX3_copyFrom_17 rfl (lv_at hl 1 rfl) ?_
  refine va_get (D := D) (ci := 2) (v := .int oo_chairs) (C := RX3) (T := TX3) (N := 17) hx hb hts in3 hown hG.1 hP 9 rfl rfl 2 (by decide) (hts (.fieldLink RX3 19 "ChairCane$Room" "chairs" "I") (by decide +kernel)) (fun _ h9 => h9) rfl dX3_copyFrom_18 ?_
  refine va_put (D := D) (ci := 2) (v := .int oo_chairs) (C := RX3) (T := TX3) (N := 17) hx hb hts in3 tyX3 tyX3_ok nmX3 hown hG.1 hP hD hS 0 rfl rfl 2 (by decide) (hts (.fieldLink RX3 19 "ChairCane$Room" "chairs" "I") (by decide +kernel)) (fun _ h9 => h9) rfl (tyX3_ok 2 (by decide)) rfl rfl (Nat.le_of_ble_eq_true rfl) dX3_copyFrom_21 (fun H locs hP hD hS => ?_)
  have hP : va_P D vwCl ([(r, .inr (2, [.int oo_told, .int oo_strands, .int oo_chairs, .int r_sitters, .ref r_atoldCane, .ref r_aheight, .ref r_astrandOf, .ref r_achairOf, .ref r_aweight, .ref r_acane, .int r_sits, .int r_dropped, .int r_minute, .ref r_aload, .ref r_aheads, .int r_held, .int r_heldDown])), (r_atoldCane, hcI k 4 r_rtoldCane), (r_aheight, hcI k 8 r_rheight), (r_astrandOf, hcI k 8 r_rstrandOf), (r_achairOf, hcI k 8 r_rchairOf), (r_aweight, hcI k 8 r_rweight), (r_acane, hcI k 4 r_rcane), (r_aload, hcI k 4 r_rload), (r_aheads, hcI k 4 r_rheads), (oo, .inr (2, [.int oo_told, .int oo_strands, .int oo_chairs, .int oo_sitters, .ref oo_atoldCane, .ref oo_aheight, .ref oo_astrandOf, .ref oo_achairOf, .ref oo_aweight, .ref oo_acane, .int oo_sits, .int oo_dropped, .int oo_minute, .ref oo_aload, .ref oo_aheads, .int oo_held, .int oo_heldDown])), (oo_atoldCane, hcI k 4 oo_rtoldCane), (oo_aheight, hcI k 8 oo_rheight), (oo_astrandOf, hcI k 8 oo_rstrandOf), (oo_achairOf, hcI k 8 oo_rchairOf), (oo_aweight, hcI k 8 oo_rweight), (oo_acane, hcI k 4 oo_rcane), (oo_aload, hcI k 4 oo_rload), (oo_aheads, hcI k 4 oo_rheads)]) H := hP
  have hD : va_D A ([(r, .inr (2, [.int oo_told, .int oo_strands, .int oo_chairs, .int r_sitters, .ref r_atoldCane, .ref r_aheight, .ref r_astrandOf, .ref r_achairOf, .ref r_aweight, .ref r_acane, .int r_sits, .int r_dropped, .int r_minute, .ref r_aload, .ref r_aheads, .int r_held, .int r_heldDown])), (r_atoldCane, hcI k 4 r_rtoldCane), (r_aheight, hcI k 8 r_rheight), (r_astrandOf, hcI k 8 r_rstrandOf), (r_achairOf, hcI k 8 r_rchairOf), (r_aweight, hcI k 8 r_rweight), (r_acane, hcI k 4 r_rcane), (r_aload, hcI k 4 r_rload), (r_aheads, hcI k 4 r_rheads), (oo, .inr (2, [.int oo_told, .int oo_strands, .int oo_chairs, .int oo_sitters, .ref oo_atoldCane, .ref oo_aheight, .ref oo_astrandOf, .ref oo_achairOf, .ref oo_aweight, .ref oo_acane, .int oo_sits, .int oo_dropped, .int oo_minute, .ref oo_aload, .ref oo_aheads, .int oo_held, .int oo_heldDown])), (oo_atoldCane, hcI k 4 oo_rtoldCane), (oo_aheight, hcI k 8 oo_rheight), (oo_astrandOf, hcI k 8 oo_rstrandOf), (oo_achairOf, hcI k 8 oo_rchairOf), (oo_aweight, hcI k 8 oo_rweight), (oo_acane, hcI k 4 oo_rcane), (oo_aload, hcI k 4 oo_rload), (oo_aheads, hcI k 4 oo_rheads)]) := hD
  refine lv_aload_n hx hb dX3_copyFrom_24 rfl (lv_at hl 0 rfl) ?_
  refine lv_aload_n hx hb dX3_copyFrom_25 rfl (lv_at hl 1 rfl) ?_
  refine va_get (D := D) (ci := 2) (v := .int oo_sitters) (C := RX3) (T := TX3) (N := 17) hx hb hts in3 hown hG.1 hP 9 rfl rfl 3 (by decide) (hts (.fieldLink RX3 22 "ChairCane$Room" "sitters" "I") (by decide +kernel)) (fun _ h9 => h9) rfl dX3_copyFrom_26 ?_
  refine va_put (D := D) (ci := 2) (v := .int oo_sitters) (C := RX3) (T := TX3) (N := 17) hx hb hts in3 tyX3 tyX3_ok nmX3 hown hG.1 hP hD hS 0 rfl rfl 3 (by decide) (hts (.fieldLink RX3 22 "ChairCane$Room" "sitters" "I") (by decide +kernel)) (fun _ h9 => h9) rfl (tyX3_ok 3 (by decide)) rfl rfl (Nat.le_of_ble_eq_true rfl) dX3_copyFrom_29 (fun H locs hP hD hS => ?_)
  have hP : va_P D vwCl ([(r, .inr (2, [.int oo_told, .int oo_strands, .int oo_chairs, .int oo_sitters, .ref r_atoldCane, .ref r_aheight, .ref r_astrandOf, .ref r_achairOf, .ref r_aweight, .ref r_acane, .int r_sits, .int r_dropped, .int r_minute, .ref r_aload, .ref r_aheads, .int r_held, .int r_heldDown])), (r_atoldCane, hcI k 4 r_rtoldCane), (r_aheight, hcI k 8 r_rheight), (r_astrandOf, hcI k 8 r_rstrandOf), (r_achairOf, hcI k 8 r_rchairOf), (r_aweight, hcI k 8 r_rweight), (r_acane, hcI k 4 r_rcane), (r_aload, hcI k 4 r_rload), (r_aheads, hcI k 4 r_rheads), (oo, .inr (2, [.int oo_told, .int oo_strands, .int oo_chairs, .int oo_sitters, .ref oo_atoldCane, .ref oo_aheight, .ref oo_astrandOf, .ref oo_achairOf, .ref oo_aweight, .ref oo_acane, .int oo_sits, .int oo_dropped, .int oo_minute, .ref oo_aload, .ref oo_aheads, .int oo_held, .int oo_heldDown])), (oo_atoldCane, hcI k 4 oo_rtoldCane), (oo_aheight, hcI k 8 oo_rheight), (oo_astrandOf, hcI k 8 oo_rstrandOf), (oo_achairOf, hcI k 8 oo_rchairOf), (oo_aweight, hcI k 8 oo_rweight), (oo_acane, hcI k 4 oo_rcane), (oo_aload, hcI k 4 oo_rload), (oo_aheads, hcI k 4 oo_rheads)]) H := hP
  have hD : va_D A ([(r, .inr (2, [.int oo_told, .int oo_strands, .int oo_chairs, .int oo_sitters, .ref r_atoldCane, .ref r_aheight, .ref r_astrandOf, .ref r_achairOf, .ref r_aweight, .ref r_acane, .int r_sits, .int r_dropped, .int r_minute, .ref r_aload, .ref r_aheads, .int r_held, .int r_heldDown])), (r_atoldCane, hcI k 4 r_rtoldCane), (r_aheight, hcI k 8 r_rheight), (r_astrandOf, hcI k 8 r_rstrandOf), (r_achairOf, hcI k 8 r_rchairOf), (r_aweight, hcI k 8 r_rweight), (r_acane, hcI k 4 r_rcane), (r_aload, hcI k 4 r_rload), (r_aheads, hcI k 4 r_rheads), (oo, .inr (2, [.int oo_told, .int oo_strands, .int oo_chairs, .int oo_sitters, .ref oo_atoldCane, .ref oo_aheight, .ref oo_astrandOf, .ref oo_achairOf, .ref oo_aweight, .ref oo_acane, .int oo_sits, .int oo_dropped, .int oo_minute, .ref oo_aload, .ref oo_aheads, .int oo_held, .int oo_heldDown])), (oo_atoldCane, hcI k 4 oo_rtoldCane), (oo_aheight, hcI k 8 oo_rheight), (oo_astrandOf, hcI k 8 oo_rstrandOf), (oo_achairOf, hcI k 8 oo_rchairOf), (oo_aweight, hcI k 8 oo_rweight), (oo_acane, hcI k 4 oo_rcane), (oo_aload, hcI k 4 oo_rload), (oo_aheads, hcI k 4 oo_rheads)]) := hD
  refine lv_aload_n hx hb dX3_copyFrom_32 rfl (lv_at hl 1 rfl) ?_
  refine va_get (D := D) (ci := 2) (v := .ref oo_atoldCane) (C := RX3) (T := TX3) (N := 17) hx hb hts in3 hown hG.1 hP 9 rfl rfl 4 (by decide) (hts (.fieldLink RX3 25 "ChairCane$Room" "toldCane" "[I") (by decide +kernel)) (fun _ h9 => h9) rfl dX3_copyFrom_33 ?_
  refine lv_iconst (v := 0) hx hb dX3_copyFrom_36 (by decide) ?_
  refine lv_aload_n hx hb dX3_copyFrom_37 rfl (lv_at hl 0 rfl) ?_
  refine va_get (D := D) (ci := 2) (v := .ref r_atoldCane) (C := RX3) (T := TX3) (N := 17) hx hb hts in3 hown hG.1 hP 0 rfl rfl 4 (by decide) (hts (.fieldLink RX3 25 "ChairCane$Room" "toldCane" "[I") (by decide +kernel)) (fun _ h9 => h9) rfl dX3_copyFrom_38 ?_
  refine lv_iconst (v := 0) hx hb dX3_copyFrom_41 (by decide) ?_
  refine lv_iconst (v := 4) hx hb dX3_copyFrom_42 (by decide) ?_
  refine va_copyi hx hb (by rw [hml]; exact hl.1.symm) hown (hts (.methodLink RX3 65 arraycopyName) (by decide +kernel)) (hts (.native arraycopyName) (by decide +kernel)) (hts (.static arraycopyName) (by decide +kernel)) (hts (.initialized "java/lang/System") (by decide +kernel)) hG.1 hP hD hS 10 1 0 0 rfl rfl rfl rfl rfl (by decide) (by decide) (by decide) (by decide) (by decide) (fun _ _ => rfl) (Nat.le_of_ble_eq_true rfl) (Nat.le_of_ble_eq_true rfl) dX3_copyFrom_43 (fun H locs hP hD hS => ?_)
  obtain ⟨f1, ef1⟩ : ∃ f : Nat → Int32, f = va_cpy oo_rtoldCane r_rtoldCane (Int32.toNatClampNeg 0) (Int32.toNatClampNeg 0) (Int32.toNatClampNeg 4) := ⟨_, rfl⟩
  rw [← ef1] at hP hD
  have hP : va_P D vwCl ([(r, .inr (2, [.int oo_told, .int oo_strands, .int oo_chairs, .int oo_sitters, .ref r_atoldCane, .ref r_aheight, .ref r_astrandOf, .ref r_achairOf, .ref r_aweight, .ref r_acane, .int r_sits, .int r_dropped, .int r_minute, .ref r_aload, .ref r_aheads, .int r_held, .int r_heldDown])), (r_atoldCane, hcI k 4 f1), (r_aheight, hcI k 8 r_rheight), (r_astrandOf, hcI k 8 r_rstrandOf), (r_achairOf, hcI k 8 r_rchairOf), (r_aweight, hcI k 8 r_rweight), (r_acane, hcI k 4 r_rcane), (r_aload, hcI k 4 r_rload), (r_aheads, hcI k 4 r_rheads), (oo, .inr (2, [.int oo_told, .int oo_strands, .int oo_chairs, .int oo_sitters, .ref oo_atoldCane, .ref oo_aheight, .ref oo_astrandOf, .ref oo_achairOf, .ref oo_aweight, .ref oo_acane, .int oo_sits, .int oo_dropped, .int oo_minute, .ref oo_aload, .ref oo_aheads, .int oo_held, .int oo_heldDown])), (oo_atoldCane, hcI k 4 oo_rtoldCane), (oo_aheight, hcI k 8 oo_rheight), (oo_astrandOf, hcI k 8 oo_rstrandOf), (oo_achairOf, hcI k 8 oo_rchairOf), (oo_aweight, hcI k 8 oo_rweight), (oo_acane, hcI k 4 oo_rcane), (oo_aload, hcI k 4 oo_rload), (oo_aheads, hcI k 4 oo_rheads)]) H := hP
  have hD : va_D A ([(r, .inr (2, [.int oo_told, .int oo_strands, .int oo_chairs, .int oo_sitters, .ref r_atoldCane, .ref r_aheight, .ref r_astrandOf, .ref r_achairOf, .ref r_aweight, .ref r_acane, .int r_sits, .int r_dropped, .int r_minute, .ref r_aload, .ref r_aheads, .int r_held, .int r_heldDown])), (r_atoldCane, hcI k 4 f1), (r_aheight, hcI k 8 r_rheight), (r_astrandOf, hcI k 8 r_rstrandOf), (r_achairOf, hcI k 8 r_rchairOf), (r_aweight, hcI k 8 r_rweight), (r_acane, hcI k 4 r_rcane), (r_aload, hcI k 4 r_rload), (r_aheads, hcI k 4 r_rheads), (oo, .inr (2, [.int oo_told, .int oo_strands, .int oo_chairs, .int oo_sitters, .ref oo_atoldCane, .ref oo_aheight, .ref oo_astrandOf, .ref oo_achairOf, .ref oo_aweight, .ref oo_acane, .int oo_sits, .int oo_dropped, .int oo_minute, .ref oo_aload, .ref oo_aheads, .int oo_held, .int oo_heldDown])), (oo_atoldCane, hcI k 4 oo_rtoldCane), (oo_aheight, hcI k 8 oo_rheight), (oo_astrandOf, hcI k 8 oo_rstrandOf), (oo_achairOf, hcI k 8 oo_rchairOf), (oo_aweight, hcI k 8 oo_rweight), (oo_acane, hcI k 4 oo_rcane), (oo_aload, hcI k 4 oo_rload), (oo_aheads, hcI k 4 oo_rheads)]) := hD
  refine lv_aload_n hx hb dX3_copyFrom_46 rfl (lv_at hl 1 rfl) ?_
  refine va_get (D := D) (ci := 2) (v := .ref oo_aheight) (C := RX3) (T := TX3) (N := 17) hx hb hts in3 hown hG.1 hP 9 rfl rfl 5 (by decide) (hts (.fieldLink RX3 29 "ChairCane$Room" "height" "[I") (by decide +kernel)) (fun _ h9 => h9) rfl dX3_copyFrom_47 ?_
  refine lv_iconst (v := 0) hx hb dX3_copyFrom_50 (by decide) ?_
  refine lv_aload_n hx hb dX3_copyFrom_51 rfl (lv_at hl 0 rfl) ?_
  refine va_get (D := D) (ci := 2) (v := .ref r_aheight) (C := RX3) (T := TX3) (N := 17) hx hb hts in3 hown hG.1 hP 0 rfl rfl 5 (by decide) (hts (.fieldLink RX3 29 "ChairCane$Room" "height" "[I") (by decide +kernel)) (fun _ h9 => h9) rfl dX3_copyFrom_52 ?_
  refine lv_iconst (v := 0) hx hb dX3_copyFrom_55 (by decide) ?_
  refine lv_bipush (v := 8) hx hb dX3_copyFrom_56 (by decide) ?_
  refine va_copyi hx hb (by rw [hml]; exact hl.1.symm) hown (hts (.methodLink RX3 65 arraycopyName) (by decide +kernel)) (hts (.native arraycopyName) (by decide +kernel)) (hts (.static arraycopyName) (by decide +kernel)) (hts (.initialized "java/lang/System") (by decide +kernel)) hG.1 hP hD hS 11 2 0 0 rfl rfl rfl rfl rfl (by decide) (by decide) (by decide) (by decide) (by decide) (fun _ _ => rfl) (Nat.le_of_ble_eq_true rfl) (Nat.le_of_ble_eq_true rfl) dX3_copyFrom_58 (fun H locs hP hD hS => ?_)
  obtain ⟨f2, ef2⟩ : ∃ f : Nat → Int32, f = va_cpy oo_rheight r_rheight (Int32.toNatClampNeg 0) (Int32.toNatClampNeg 0) (Int32.toNatClampNeg 8) := ⟨_, rfl⟩
  rw [← ef2] at hP hD
  have hP : va_P D vwCl ([(r, .inr (2, [.int oo_told, .int oo_strands, .int oo_chairs, .int oo_sitters, .ref r_atoldCane, .ref r_aheight, .ref r_astrandOf, .ref r_achairOf, .ref r_aweight, .ref r_acane, .int r_sits, .int r_dropped, .int r_minute, .ref r_aload, .ref r_aheads, .int r_held, .int r_heldDown])), (r_atoldCane, hcI k 4 f1), (r_aheight, hcI k 8 f2), (r_astrandOf, hcI k 8 r_rstrandOf), (r_achairOf, hcI k 8 r_rchairOf), (r_aweight, hcI k 8 r_rweight), (r_acane, hcI k 4 r_rcane), (r_aload, hcI k 4 r_rload), (r_aheads, hcI k 4 r_rheads), (oo, .inr (2, [.int oo_told, .int oo_strands, .int oo_chairs, .int oo_sitters, .ref oo_atoldCane, .ref oo_aheight, .ref oo_astrandOf, .ref oo_achairOf, .ref oo_aweight, .ref oo_acane, .int oo_sits, .int oo_dropped, .int oo_minute, .ref oo_aload, .ref oo_aheads, .int oo_held, .int oo_heldDown])), (oo_atoldCane, hcI k 4 oo_rtoldCane), (oo_aheight, hcI k 8 oo_rheight), (oo_astrandOf, hcI k 8 oo_rstrandOf), (oo_achairOf, hcI k 8 oo_rchairOf), (oo_aweight, hcI k 8 oo_rweight), (oo_acane, hcI k 4 oo_rcane), (oo_aload, hcI k 4 oo_rload), (oo_aheads, hcI k 4 oo_rheads)]) H := hP
  have hD : va_D A ([(r, .inr (2, [.int oo_told, .int oo_strands, .int oo_chairs, .int oo_sitters, .ref r_atoldCane, .ref r_aheight, .ref r_astrandOf, .ref r_achairOf, .ref r_aweight, .ref r_acane, .int r_sits, .int r_dropped, .int r_minute, .ref r_aload, .ref r_aheads, .int r_held, .int r_heldDown])), (r_atoldCane, hcI k 4 f1), (r_aheight, hcI k 8 f2), (r_astrandOf, hcI k 8 r_rstrandOf), (r_achairOf, hcI k 8 r_rchairOf), (r_aweight, hcI k 8 r_rweight), (r_acane, hcI k 4 r_rcane), (r_aload, hcI k 4 r_rload), (r_aheads, hcI k 4 r_rheads), (oo, .inr (2, [.int oo_told, .int oo_strands, .int oo_chairs, .int oo_sitters, .ref oo_atoldCane, .ref oo_aheight, .ref oo_astrandOf, .ref oo_achairOf, .ref oo_aweight, .ref oo_acane, .int oo_sits, .int oo_dropped, .int oo_minute, .ref oo_aload, .ref oo_aheads, .int oo_held, .int oo_heldDown])), (oo_atoldCane, hcI k 4 oo_rtoldCane), (oo_aheight, hcI k 8 oo_rheight), (oo_astrandOf, hcI k 8 oo_rstrandOf), (oo_achairOf, hcI k 8 oo_rchairOf), (oo_aweight, hcI k 8 oo_rweight), (oo_acane, hcI k 4 oo_rcane), (oo_aload, hcI k 4 oo_rload), (oo_aheads, hcI k 4 oo_rheads)]) := hD
  refine lv_aload_n hx hb dX3_copyFrom_61 rfl (lv_at hl 1 rfl) ?_
  refine va_get (D := D) (ci := 2) (v := .ref oo_astrandOf) (C := RX3) (T := TX3) (N := 17) hx hb hts in3 hown hG.1 hP 9 rfl rfl 6 (by decide) (hts (.fieldLink RX3 32 "ChairCane$Room" "strandOf" "[I") (by decide +kernel)) (fun _ h9 => h9) rfl dX3_copyFrom_62 ?_
  refine lv_iconst (v := 0) hx hb dX3_copyFrom_65 (by decide) ?_
  refine lv_aload_n hx hb dX3_copyFrom_66 rfl (lv_at hl 0 rfl) ?_
  refine va_get (D := D) (ci := 2) (v := .ref r_astrandOf) (C := RX3) (T := TX3) (N := 17) hx hb hts in3 hown hG.1 hP 0 rfl rfl 6 (by decide) (hts (.fieldLink RX3 32 "ChairCane$Room" "strandOf" "[I") (by decide +kernel)) (fun _ h9 => h9) rfl dX3_copyFrom_67 ?_
  refine lv_iconst (v := 0) hx hb dX3_copyFrom_70 (by decide) ?_
  refine lv_bipush (v := 8) hx hb dX3_copyFrom_71 (by decide) ?_
  refine va_copyi hx hb (by rw [hml]; exact hl.1.symm) hown (hts (.methodLink RX3 65 arraycopyName) (by decide +kernel)) (hts (.native arraycopyName) (by decide +kernel)) (hts (.static arraycopyName) (by decide +kernel)) (hts (.initialized "java/lang/System") (by decide +kernel)) hG.1 hP hD hS 12 3 0 0 rfl rfl rfl rfl rfl (by decide) (by decide) (by decide) (by decide) (by decide) (fun _ _ => rfl) (Nat.le_of_ble_eq_true rfl) (Nat.le_of_ble_eq_true rfl) dX3_copyFrom_73 (fun H locs hP hD hS => ?_)
  obtain ⟨f3, ef3⟩ : ∃ f : Nat → Int32, f = va_cpy oo_rstrandOf r_rstrandOf (Int32.toNatClampNeg 0) (Int32.toNatClampNeg 0) (Int32.toNatClampNeg 8) := ⟨_, rfl⟩
  rw [← ef3] at hP hD
  have h_f3 : rowIn (0) (3) f3 := by rw [ef3]; exact row_cpy h_oo_rstrandOf h_r_rstrandOf
  have hP : va_P D vwCl ([(r, .inr (2, [.int oo_told, .int oo_strands, .int oo_chairs, .int oo_sitters, .ref r_atoldCane, .ref r_aheight, .ref r_astrandOf, .ref r_achairOf, .ref r_aweight, .ref r_acane, .int r_sits, .int r_dropped, .int r_minute, .ref r_aload, .ref r_aheads, .int r_held, .int r_heldDown])), (r_atoldCane, hcI k 4 f1), (r_aheight, hcI k 8 f2), (r_astrandOf, hcI k 8 f3), (r_achairOf, hcI k 8 r_rchairOf), (r_aweight, hcI k 8 r_rweight), (r_acane, hcI k 4 r_rcane), (r_aload, hcI k 4 r_rload), (r_aheads, hcI k 4 r_rheads), (oo, .inr (2, [.int oo_told, .int oo_strands, .int oo_chairs, .int oo_sitters, .ref oo_atoldCane, .ref oo_aheight, .ref oo_astrandOf, .ref oo_achairOf, .ref oo_aweight, .ref oo_acane, .int oo_sits, .int oo_dropped, .int oo_minute, .ref oo_aload, .ref oo_aheads, .int oo_held, .int oo_heldDown])), (oo_atoldCane, hcI k 4 oo_rtoldCane), (oo_aheight, hcI k 8 oo_rheight), (oo_astrandOf, hcI k 8 oo_rstrandOf), (oo_achairOf, hcI k 8 oo_rchairOf), (oo_aweight, hcI k 8 oo_rweight), (oo_acane, hcI k 4 oo_rcane), (oo_aload, hcI k 4 oo_rload), (oo_aheads, hcI k 4 oo_rheads)]) H := hP
  have hD : va_D A ([(r, .inr (2, [.int oo_told, .int oo_strands, .int oo_chairs, .int oo_sitters, .ref r_atoldCane, .ref r_aheight, .ref r_astrandOf, .ref r_achairOf, .ref r_aweight, .ref r_acane, .int r_sits, .int r_dropped, .int r_minute, .ref r_aload, .ref r_aheads, .int r_held, .int r_heldDown])), (r_atoldCane, hcI k 4 f1), (r_aheight, hcI k 8 f2), (r_astrandOf, hcI k 8 f3), (r_achairOf, hcI k 8 r_rchairOf), (r_aweight, hcI k 8 r_rweight), (r_acane, hcI k 4 r_rcane), (r_aload, hcI k 4 r_rload), (r_aheads, hcI k 4 r_rheads), (oo, .inr (2, [.int oo_told, .int oo_strands, .int oo_chairs, .int oo_sitters, .ref oo_atoldCane, .ref oo_aheight, .ref oo_astrandOf, .ref oo_achairOf, .ref oo_aweight, .ref oo_acane, .int oo_sits, .int oo_dropped, .int oo_minute, .ref oo_aload, .ref oo_aheads, .int oo_held, .int oo_heldDown])), (oo_atoldCane, hcI k 4 oo_rtoldCane), (oo_aheight, hcI k 8 oo_rheight), (oo_astrandOf, hcI k 8 oo_rstrandOf), (oo_achairOf, hcI k 8 oo_rchairOf), (oo_aweight, hcI k 8 oo_rweight), (oo_acane, hcI k 4 oo_rcane), (oo_aload, hcI k 4 oo_rload), (oo_aheads, hcI k 4 oo_rheads)]) := hD
  refine lv_aload_n hx hb dX3_copyFrom_76 rfl (lv_at hl 1 rfl) ?_
  refine va_get (D := D) (ci := 2) (v := .ref oo_achairOf) (C := RX3) (T := TX3) (N := 17) hx hb hts in3 hown hG.1 hP 9 rfl rfl 7 (by decide) (hts (.fieldLink RX3 35 "ChairCane$Room" "chairOf" "[I") (by decide +kernel)) (fun _ h9 => h9) rfl dX3_copyFrom_77 ?_
  refine lv_iconst (v := 0) hx hb dX3_copyFrom_80 (by decide) ?_
  refine lv_aload_n hx hb dX3_copyFrom_81 rfl (lv_at hl 0 rfl) ?_
  refine va_get (D := D) (ci := 2) (v := .ref r_achairOf) (C := RX3) (T := TX3) (N := 17) hx hb hts in3 hown hG.1 hP 0 rfl rfl 7 (by decide) (hts (.fieldLink RX3 35 "ChairCane$Room" "chairOf" "[I") (by decide +kernel)) (fun _ h9 => h9) rfl dX3_copyFrom_82 ?_
  refine lv_iconst (v := 0) hx hb dX3_copyFrom_85 (by decide) ?_
  refine lv_bipush (v := 8) hx hb dX3_copyFrom_86 (by decide) ?_
  refine va_copyi hx hb (by rw [hml]; exact hl.1.symm) hown (hts (.methodLink RX3 65 arraycopyName) (by decide +kernel)) (hts (.native arraycopyName) (by decide +kernel)) (hts (.static arraycopyName) (by decide +kernel)) (hts (.initialized "java/lang/System") (by decide +kernel)) hG.1 hP hD hS 13 4 0 0 rfl rfl rfl rfl rfl (by decide) (by decide) (by decide) (by decide) (by decide) (fun _ _ => rfl) (Nat.le_of_ble_eq_true rfl) (Nat.le_of_ble_eq_true rfl) dX3_copyFrom_88 (fun H locs hP hD hS => ?_)
  obtain ⟨f4, ef4⟩ : ∃ f : Nat → Int32, f = va_cpy oo_rchairOf r_rchairOf (Int32.toNatClampNeg 0) (Int32.toNatClampNeg 0) (Int32.toNatClampNeg 8) := ⟨_, rfl⟩
  rw [← ef4] at hP hD
  have h_f4 : rowIn (0) (7) f4 := by rw [ef4]; exact row_cpy h_oo_rchairOf h_r_rchairOf
  have hP : va_P D vwCl ([(r, .inr (2, [.int oo_told, .int oo_strands, .int oo_chairs, .int oo_sitters, .ref r_atoldCane, .ref r_aheight, .ref r_astrandOf, .ref r_achairOf, .ref r_aweight, .ref r_acane, .int r_sits, .int r_dropped, .int r_minute, .ref r_aload, .ref r_aheads, .int r_held, .int r_heldDown])), (r_atoldCane, hcI k 4 f1), (r_aheight, hcI k 8 f2), (r_astrandOf, hcI k 8 f3), (r_achairOf, hcI k 8 f4), (r_aweight, hcI k 8 r_rweight), (r_acane, hcI k 4 r_rcane), (r_aload, hcI k 4 r_rload), (r_aheads, hcI k 4 r_rheads), (oo, .inr (2, [.int oo_told, .int oo_strands, .int oo_chairs, .int oo_sitters, .ref oo_atoldCane, .ref oo_aheight, .ref oo_astrandOf, .ref oo_achairOf, .ref oo_aweight, .ref oo_acane, .int oo_sits, .int oo_dropped, .int oo_minute, .ref oo_aload, .ref oo_aheads, .int oo_held, .int oo_heldDown])), (oo_atoldCane, hcI k 4 oo_rtoldCane), (oo_aheight, hcI k 8 oo_rheight), (oo_astrandOf, hcI k 8 oo_rstrandOf), (oo_achairOf, hcI k 8 oo_rchairOf), (oo_aweight, hcI k 8 oo_rweight), (oo_acane, hcI k 4 oo_rcane), (oo_aload, hcI k 4 oo_rload), (oo_aheads, hcI k 4 oo_rheads)]) H := hP
  have hD : va_D A ([(r, .inr (2, [.int oo_told, .int oo_strands, .int oo_chairs, .int oo_sitters, .ref r_atoldCane, .ref r_aheight, .ref r_astrandOf, .ref r_achairOf, .ref r_aweight, .ref r_acane, .int r_sits, .int r_dropped, .int r_minute, .ref r_aload, .ref r_aheads, .int r_held, .int r_heldDown])), (r_atoldCane, hcI k 4 f1), (r_aheight, hcI k 8 f2), (r_astrandOf, hcI k 8 f3), (r_achairOf, hcI k 8 f4), (r_aweight, hcI k 8 r_rweight), (r_acane, hcI k 4 r_rcane), (r_aload, hcI k 4 r_rload), (r_aheads, hcI k 4 r_rheads), (oo, .inr (2, [.int oo_told, .int oo_strands, .int oo_chairs, .int oo_sitters, .ref oo_atoldCane, .ref oo_aheight, .ref oo_astrandOf, .ref oo_achairOf, .ref oo_aweight, .ref oo_acane, .int oo_sits, .int oo_dropped, .int oo_minute, .ref oo_aload, .ref oo_aheads, .int oo_held, .int oo_heldDown])), (oo_atoldCane, hcI k 4 oo_rtoldCane), (oo_aheight, hcI k 8 oo_rheight), (oo_astrandOf, hcI k 8 oo_rstrandOf), (oo_achairOf, hcI k 8 oo_rchairOf), (oo_aweight, hcI k 8 oo_rweight), (oo_acane, hcI k 4 oo_rcane), (oo_aload, hcI k 4 oo_rload), (oo_aheads, hcI k 4 oo_rheads)]) := hD
  refine lv_aload_n hx hb dX3_copyFrom_91 rfl (lv_at hl 1 rfl) ?_
  refine va_get (D := D) (ci := 2) (v := .ref oo_aweight) (C := RX3) (T := TX3) (N := 17) hx hb hts in3 hown hG.1 hP 9 rfl rfl 8 (by decide) (hts (.fieldLink RX3 38 "ChairCane$Room" "weight" "[I") (by decide +kernel)) (fun _ h9 => h9) rfl dX3_copyFrom_92 ?_
  refine lv_iconst (v := 0) hx hb dX3_copyFrom_95 (by decide) ?_
  refine lv_aload_n hx hb dX3_copyFrom_96 rfl (lv_at hl 0 rfl) ?_
  refine va_get (D := D) (ci := 2) (v := .ref r_aweight) (C := RX3) (T := TX3) (N := 17) hx hb hts in3 hown hG.1 hP 0 rfl rfl 8 (by decide) (hts (.fieldLink RX3 38 "ChairCane$Room" "weight" "[I") (by decide +kernel)) (fun _ h9 => h9) rfl dX3_copyFrom_97 ?_
  refine lv_iconst (v := 0) hx hb dX3_copyFrom_100 (by decide) ?_
  refine lv_bipush (v := 8) hx hb dX3_copyFrom_101 (by decide) ?_
  refine va_copyi hx hb (by rw [hml]; exact hl.1.symm) hown (hts (.methodLink RX3 65 arraycopyName) (by decide +kernel)) (hts (.native arraycopyName) (by decide +kernel)) (hts (.static arraycopyName) (by decide +kernel)) (hts (.initialized "java/lang/System") (by decide +kernel)) hG.1 hP hD hS 14 5 0 0 rfl rfl rfl rfl rfl (by decide) (by decide) (by decide) (by decide) (by decide) (fun _ _ => rfl) (Nat.le_of_ble_eq_true rfl) (Nat.le_of_ble_eq_true rfl) dX3_copyFrom_103 (fun H locs hP hD hS => ?_)
  obtain ⟨f5, ef5⟩ : ∃ f : Nat → Int32, f = va_cpy oo_rweight r_rweight (Int32.toNatClampNeg 0) (Int32.toNatClampNeg 0) (Int32.toNatClampNeg 8) := ⟨_, rfl⟩
  rw [← ef5] at hP hD
  have hP : va_P D vwCl ([(r, .inr (2, [.int oo_told, .int oo_strands, .int oo_chairs, .int oo_sitters, .ref r_atoldCane, .ref r_aheight, .ref r_astrandOf, .ref r_achairOf, .ref r_aweight, .ref r_acane, .int r_sits, .int r_dropped, .int r_minute, .ref r_aload, .ref r_aheads, .int r_held, .int r_heldDown])), (r_atoldCane, hcI k 4 f1), (r_aheight, hcI k 8 f2), (r_astrandOf, hcI k 8 f3), (r_achairOf, hcI k 8 f4), (r_aweight, hcI k 8 f5), (r_acane, hcI k 4 r_rcane), (r_aload, hcI k 4 r_rload), (r_aheads, hcI k 4 r_rheads), (oo, .inr (2, [.int oo_told, .int oo_strands, .int oo_chairs, .int oo_sitters, .ref oo_atoldCane, .ref oo_aheight, .ref oo_astrandOf, .ref oo_achairOf, .ref oo_aweight, .ref oo_acane, .int oo_sits, .int oo_dropped, .int oo_minute, .ref oo_aload, .ref oo_aheads, .int oo_held, .int oo_heldDown])), (oo_atoldCane, hcI k 4 oo_rtoldCane), (oo_aheight, hcI k 8 oo_rheight), (oo_astrandOf, hcI k 8 oo_rstrandOf), (oo_achairOf, hcI k 8 oo_rchairOf), (oo_aweight, hcI k 8 oo_rweight), (oo_acane, hcI k 4 oo_rcane), (oo_aload, hcI k 4 oo_rload), (oo_aheads, hcI k 4 oo_rheads)]) H := hP
  have hD : va_D A ([(r, .inr (2, [.int oo_told, .int oo_strands, .int oo_chairs, .int oo_sitters, .ref r_atoldCane, .ref r_aheight, .ref r_astrandOf, .ref r_achairOf, .ref r_aweight, .ref r_acane, .int r_sits, .int r_dropped, .int r_minute, .ref r_aload, .ref r_aheads, .int r_held, .int r_heldDown])), (r_atoldCane, hcI k 4 f1), (r_aheight, hcI k 8 f2), (r_astrandOf, hcI k 8 f3), (r_achairOf, hcI k 8 f4), (r_aweight, hcI k 8 f5), (r_acane, hcI k 4 r_rcane), (r_aload, hcI k 4 r_rload), (r_aheads, hcI k 4 r_rheads), (oo, .inr (2, [.int oo_told, .int oo_strands, .int oo_chairs, .int oo_sitters, .ref oo_atoldCane, .ref oo_aheight, .ref oo_astrandOf, .ref oo_achairOf, .ref oo_aweight, .ref oo_acane, .int oo_sits, .int oo_dropped, .int oo_minute, .ref oo_aload, .ref oo_aheads, .int oo_held, .int oo_heldDown])), (oo_atoldCane, hcI k 4 oo_rtoldCane), (oo_aheight, hcI k 8 oo_rheight), (oo_astrandOf, hcI k 8 oo_rstrandOf), (oo_achairOf, hcI k 8 oo_rchairOf), (oo_aweight, hcI k 8 oo_rweight), (oo_acane, hcI k 4 oo_rcane), (oo_aload, hcI k 4 oo_rload), (oo_aheads, hcI k 4 oo_rheads)]) := hD
  refine lv_aload_n hx hb dX3_copyFrom_106 rfl (lv_at hl 1 rfl) ?_
  refine va_get (D := D) (ci := 2) (v := .ref oo_acane) (C := RX3) (T := TX3) (N := 17) hx hb hts in3 hown hG.1 hP 9 rfl rfl 9 (by decide) (hts (.fieldLink RX3 41 "ChairCane$Room" "cane" "[I") (by decide +kernel)) (fun _ h9 => h9) rfl dX3_copyFrom_107 ?_
  refine lv_iconst (v := 0) hx hb dX3_copyFrom_110 (by decide) ?_
  refine lv_aload_n hx hb dX3_copyFrom_111 rfl (lv_at hl 0 rfl) ?_
  refine va_get (D := D) (ci := 2) (v := .ref r_acane) (C := RX3) (T := TX3) (N := 17) hx hb hts in3 hown hG.1 hP 0 rfl rfl 9 (by decide) (hts (.fieldLink RX3 41 "ChairCane$Room" "cane" "[I") (by decide +kernel)) (fun _ h9 => h9) rfl dX3_copyFrom_112 ?_
  refine lv_iconst (v := 0) hx hb dX3_copyFrom_115 (by decide) ?_
  refine lv_iconst (v := 4) hx hb dX3_copyFrom_116 (by decide) ?_
  refine va_copyi hx hb (by rw [hml]; exact hl.1.symm) hown (hts (.methodLink RX3 65 arraycopyName) (by decide +kernel)) (hts (.native arraycopyName) (by decide +kernel)) (hts (.static arraycopyName) (by decide +kernel)) (hts (.initialized "java/lang/System") (by decide +kernel)) hG.1 hP hD hS 15 6 0 0 rfl rfl rfl rfl rfl (by decide) (by decide) (by decide) (by decide) (by decide) (fun _ _ => rfl) (Nat.le_of_ble_eq_true rfl) (Nat.le_of_ble_eq_true rfl) dX3_copyFrom_117 (fun H locs hP hD hS => ?_)
  obtain ⟨f6, ef6⟩ : ∃ f : Nat → Int32, f = va_cpy oo_rcane r_rcane (Int32.toNatClampNeg 0) (Int32.toNatClampNeg 0) (Int32.toNatClampNeg 4) := ⟨_, rfl⟩
  rw [← ef6] at hP hD
  have hP : va_P D vwCl ([(r, .inr (2, [.int oo_told, .int oo_strands, .int oo_chairs, .int oo_sitters, .ref r_atoldCane, .ref r_aheight, .ref r_astrandOf, .ref r_achairOf, .ref r_aweight, .ref r_acane, .int r_sits, .int r_dropped, .int r_minute, .ref r_aload, .ref r_aheads, .int r_held, .int r_heldDown])), (r_atoldCane, hcI k 4 f1), (r_aheight, hcI k 8 f2), (r_astrandOf, hcI k 8 f3), (r_achairOf, hcI k 8 f4), (r_aweight, hcI k 8 f5), (r_acane, hcI k 4 f6), (r_aload, hcI k 4 r_rload), (r_aheads, hcI k 4 r_rheads), (oo, .inr (2, [.int oo_told, .int oo_strands, .int oo_chairs, .int oo_sitters, .ref oo_atoldCane, .ref oo_aheight, .ref oo_astrandOf, .ref oo_achairOf, .ref oo_aweight, .ref oo_acane, .int oo_sits, .int oo_dropped, .int oo_minute, .ref oo_aload, .ref oo_aheads, .int oo_held, .int oo_heldDown])), (oo_atoldCane, hcI k 4 oo_rtoldCane), (oo_aheight, hcI k 8 oo_rheight), (oo_astrandOf, hcI k 8 oo_rstrandOf), (oo_achairOf, hcI k 8 oo_rchairOf), (oo_aweight, hcI k 8 oo_rweight), (oo_acane, hcI k 4 oo_rcane), (oo_aload, hcI k 4 oo_rload), (oo_aheads, hcI k 4 oo_rheads)]) H := hP
  have hD : va_D A ([(r, .inr (2, [.int oo_told, .int oo_strands, .int oo_chairs, .int oo_sitters, .ref r_atoldCane, .ref r_aheight, .ref r_astrandOf, .ref r_achairOf, .ref r_aweight, .ref r_acane, .int r_sits, .int r_dropped, .int r_minute, .ref r_aload, .ref r_aheads, .int r_held, .int r_heldDown])), (r_atoldCane, hcI k 4 f1), (r_aheight, hcI k 8 f2), (r_astrandOf, hcI k 8 f3), (r_achairOf, hcI k 8 f4), (r_aweight, hcI k 8 f5), (r_acane, hcI k 4 f6), (r_aload, hcI k 4 r_rload), (r_aheads, hcI k 4 r_rheads), (oo, .inr (2, [.int oo_told, .int oo_strands, .int oo_chairs, .int oo_sitters, .ref oo_atoldCane, .ref oo_aheight, .ref oo_astrandOf, .ref oo_achairOf, .ref oo_aweight, .ref oo_acane, .int oo_sits, .int oo_dropped, .int oo_minute, .ref oo_aload, .ref oo_aheads, .int oo_held, .int oo_heldDown])), (oo_atoldCane, hcI k 4 oo_rtoldCane), (oo_aheight, hcI k 8 oo_rheight), (oo_astrandOf, hcI k 8 oo_rstrandOf), (oo_achairOf, hcI k 8 oo_rchairOf), (oo_aweight, hcI k 8 oo_rweight), (oo_acane, hcI k 4 oo_rcane), (oo_aload, hcI k 4 oo_rload), (oo_aheads, hcI k 4 oo_rheads)]) := hD
  refine lv_aload_n hx hb dX3_copyFrom_120 rfl (lv_at hl 1 rfl) ?_
  refine va_get (D := D) (ci := 2) (v := .ref oo_aload) (C := RX3) (T := TX3) (N := 17) hx hb hts in3 hown hG.1 hP 9 rfl rfl 13 (by decide) (hts (.fieldLink RX3 53 "ChairCane$Room" "load" "[I") (by decide +kernel)) (fun _ h9 => h9) rfl dX3_copyFrom_121 ?_
  refine lv_iconst (v := 0) hx hb dX3_copyFrom_124 (by decide) ?_
  refine lv_aload_n hx hb dX3_copyFrom_125 rfl (lv_at hl 0 rfl) ?_
  refine va_get (D := D) (ci := 2) (v := .ref r_aload) (C := RX3) (T := TX3) (N := 17) hx hb hts in3 hown hG.1 hP 0 rfl rfl 13 (by decide) (hts (.fieldLink RX3 53 "ChairCane$Room" "load" "[I") (by decide +kernel)) (fun _ h9 => h9) rfl dX3_copyFrom_126 ?_
  refine lv_iconst (v := 0) hx hb dX3_copyFrom_129 (by decide) ?_
  refine lv_iconst (v := 4) hx hb dX3_copyFrom_130 (by decide) ?_
  refine va_copyi hx hb (by rw [hml]; exact hl.1.symm) hown (hts (.methodLink RX3 65 arraycopyName) (by decide +kernel)) (hts (.native arraycopyName) (by decide +kernel)) (hts (.static arraycopyName) (by decide +kernel)) (hts (.initialized "java/lang/System") (by decide +kernel)) hG.1 hP hD hS 16 7 0 0 rfl rfl rfl rfl rfl (by decide) (by decide) (by decide) (by decide) (by decide) (fun _ _ => rfl) (Nat.le_of_ble_eq_true rfl) (Nat.le_of_ble_eq_true rfl) dX3_copyFrom_131 (fun H locs hP hD hS => ?_)
  obtain ⟨f7, ef7⟩ : ∃ f : Nat → Int32, f = va_cpy oo_rload r_rload (Int32.toNatClampNeg 0) (Int32.toNatClampNeg 0) (Int32.toNatClampNeg 4) := ⟨_, rfl⟩
  rw [← ef7] at hP hD
  have hP : va_P D vwCl ([(r, .inr (2, [.int oo_told, .int oo_strands, .int oo_chairs, .int oo_sitters, .ref r_atoldCane, .ref r_aheight, .ref r_astrandOf, .ref r_achairOf, .ref r_aweight, .ref r_acane, .int r_sits, .int r_dropped, .int r_minute, .ref r_aload, .ref r_aheads, .int r_held, .int r_heldDown])), (r_atoldCane, hcI k 4 f1), (r_aheight, hcI k 8 f2), (r_astrandOf, hcI k 8 f3), (r_achairOf, hcI k 8 f4), (r_aweight, hcI k 8 f5), (r_acane, hcI k 4 f6), (r_aload, hcI k 4 f7), (r_aheads, hcI k 4 r_rheads), (oo, .inr (2, [.int oo_told, .int oo_strands, .int oo_chairs, .int oo_sitters, .ref oo_atoldCane, .ref oo_aheight, .ref oo_astrandOf, .ref oo_achairOf, .ref oo_aweight, .ref oo_acane, .int oo_sits, .int oo_dropped, .int oo_minute, .ref oo_aload, .ref oo_aheads, .int oo_held, .int oo_heldDown])), (oo_atoldCane, hcI k 4 oo_rtoldCane), (oo_aheight, hcI k 8 oo_rheight), (oo_astrandOf, hcI k 8 oo_rstrandOf), (oo_achairOf, hcI k 8 oo_rchairOf), (oo_aweight, hcI k 8 oo_rweight), (oo_acane, hcI k 4 oo_rcane), (oo_aload, hcI k 4 oo_rload), (oo_aheads, hcI k 4 oo_rheads)]) H := hP
  have hD : va_D A ([(r, .inr (2, [.int oo_told, .int oo_strands, .int oo_chairs, .int oo_sitters, .ref r_atoldCane, .ref r_aheight, .ref r_astrandOf, .ref r_achairOf, .ref r_aweight, .ref r_acane, .int r_sits, .int r_dropped, .int r_minute, .ref r_aload, .ref r_aheads, .int r_held, .int r_heldDown])), (r_atoldCane, hcI k 4 f1), (r_aheight, hcI k 8 f2), (r_astrandOf, hcI k 8 f3), (r_achairOf, hcI k 8 f4), (r_aweight, hcI k 8 f5), (r_acane, hcI k 4 f6), (r_aload, hcI k 4 f7), (r_aheads, hcI k 4 r_rheads), (oo, .inr (2, [.int oo_told, .int oo_strands, .int oo_chairs, .int oo_sitters, .ref oo_atoldCane, .ref oo_aheight, .ref oo_astrandOf, .ref oo_achairOf, .ref oo_aweight, .ref oo_acane, .int oo_sits, .int oo_dropped, .int oo_minute, .ref oo_aload, .ref oo_aheads, .int oo_held, .int oo_heldDown])), (oo_atoldCane, hcI k 4 oo_rtoldCane), (oo_aheight, hcI k 8 oo_rheight), (oo_astrandOf, hcI k 8 oo_rstrandOf), (oo_achairOf, hcI k 8 oo_rchairOf), (oo_aweight, hcI k 8 oo_rweight), (oo_acane, hcI k 4 oo_rcane), (oo_aload, hcI k 4 oo_rload), (oo_aheads, hcI k 4 oo_rheads)]) := hD
  refine lv_aload_n hx hb dX3_copyFrom_134 rfl (lv_at hl 1 rfl) ?_
  refine va_get (D := D) (ci := 2) (v := .ref oo_aheads) (C := RX3) (T := TX3) (N := 17) hx hb hts in3 hown hG.1 hP 9 rfl rfl 14 (by decide) (hts (.fieldLink RX3 56 "ChairCane$Room" "heads" "[I") (by decide +kernel)) (fun _ h9 => h9) rfl dX3_copyFrom_135 ?_
  refine lv_iconst (v := 0) hx hb dX3_copyFrom_138 (by decide) ?_
  refine lv_aload_n hx hb dX3_copyFrom_139 rfl (lv_at hl 0 rfl) ?_
  refine va_get (D := D) (ci := 2) (v := .ref r_aheads) (C := RX3) (T := TX3) (N := 17) hx hb hts in3 hown hG.1 hP 0 rfl rfl 14 (by decide) (hts (.fieldLink RX3 56 "ChairCane$Room" "heads" "[I") (by decide +kernel)) (fun _ h9 => h9) rfl dX3_copyFrom_140 ?_
  refine lv_iconst (v := 0) hx hb dX3_copyFrom_143 (by decide) ?_
  refine lv_iconst (v := 4) hx hb dX3_copyFrom_144 (by decide) ?_
  refine va_copyi hx hb (by rw [hml]; exact hl.1.symm) hown (hts (.methodLink RX3 65 arraycopyName) (by decide +kernel)) (hts (.native arraycopyName) (by decide +kernel)) (hts (.static arraycopyName) (by decide +kernel)) (hts (.initialized "java/lang/System") (by decide +kernel)) hG.1 hP hD hS 17 8 0 0 rfl rfl rfl rfl rfl (by decide) (by decide) (by decide) (by decide) (by decide) (fun _ _ => rfl) (Nat.le_of_ble_eq_true rfl) (Nat.le_of_ble_eq_true rfl) dX3_copyFrom_145 (fun H locs hP hD hS => ?_)
  obtain ⟨f8, ef8⟩ : ∃ f : Nat → Int32, f = va_cpy oo_rheads r_rheads (Int32.toNatClampNeg 0) (Int32.toNatClampNeg 0) (Int32.toNatClampNeg 4) := ⟨_, rfl⟩
  rw [← ef8] at hP hD
  have hP : va_P D vwCl ([(r, .inr (2, [.int oo_told, .int oo_strands, .int oo_chairs, .int oo_sitters, .ref r_atoldCane, .ref r_aheight, .ref r_astrandOf, .ref r_achairOf, .ref r_aweight, .ref r_acane, .int r_sits, .int r_dropped, .int r_minute, .ref r_aload, .ref r_aheads, .int r_held, .int r_heldDown])), (r_atoldCane, hcI k 4 f1), (r_aheight, hcI k 8 f2), (r_astrandOf, hcI k 8 f3), (r_achairOf, hcI k 8 f4), (r_aweight, hcI k 8 f5), (r_acane, hcI k 4 f6), (r_aload, hcI k 4 f7), (r_aheads, hcI k 4 f8), (oo, .inr (2, [.int oo_told, .int oo_strands, .int oo_chairs, .int oo_sitters, .ref oo_atoldCane, .ref oo_aheight, .ref oo_astrandOf, .ref oo_achairOf, .ref oo_aweight, .ref oo_acane, .int oo_sits, .int oo_dropped, .int oo_minute, .ref oo_aload, .ref oo_aheads, .int oo_held, .int oo_heldDown])), (oo_atoldCane, hcI k 4 oo_rtoldCane), (oo_aheight, hcI k 8 oo_rheight), (oo_astrandOf, hcI k 8 oo_rstrandOf), (oo_achairOf, hcI k 8 oo_rchairOf), (oo_aweight, hcI k 8 oo_rweight), (oo_acane, hcI k 4 oo_rcane), (oo_aload, hcI k 4 oo_rload), (oo_aheads, hcI k 4 oo_rheads)]) H := hP
  have hD : va_D A ([(r, .inr (2, [.int oo_told, .int oo_strands, .int oo_chairs, .int oo_sitters, .ref r_atoldCane, .ref r_aheight, .ref r_astrandOf, .ref r_achairOf, .ref r_aweight, .ref r_acane, .int r_sits, .int r_dropped, .int r_minute, .ref r_aload, .ref r_aheads, .int r_held, .int r_heldDown])), (r_atoldCane, hcI k 4 f1), (r_aheight, hcI k 8 f2), (r_astrandOf, hcI k 8 f3), (r_achairOf, hcI k 8 f4), (r_aweight, hcI k 8 f5), (r_acane, hcI k 4 f6), (r_aload, hcI k 4 f7), (r_aheads, hcI k 4 f8), (oo, .inr (2, [.int oo_told, .int oo_strands, .int oo_chairs, .int oo_sitters, .ref oo_atoldCane, .ref oo_aheight, .ref oo_astrandOf, .ref oo_achairOf, .ref oo_aweight, .ref oo_acane, .int oo_sits, .int oo_dropped, .int oo_minute, .ref oo_aload, .ref oo_aheads, .int oo_held, .int oo_heldDown])), (oo_atoldCane, hcI k 4 oo_rtoldCane), (oo_aheight, hcI k 8 oo_rheight), (oo_astrandOf, hcI k 8 oo_rstrandOf), (oo_achairOf, hcI k 8 oo_rchairOf), (oo_aweight, hcI k 8 oo_rweight), (oo_acane, hcI k 4 oo_rcane), (oo_aload, hcI k 4 oo_rload), (oo_aheads, hcI k 4 oo_rheads)]) := hD
  refine lv_aload_n hx hb dX3_copyFrom_148 rfl (lv_at hl 0 rfl) ?_
  refine lv_aload_n hx hb dX3_copyFrom_149 rfl (lv_at hl 1 rfl) ?_
  refine va_get (D := D) (ci := 2) (v := .int oo_sits) (C := RX3) (T := TX3) (N := 17) hx hb hts in3 hown hG.1 hP 9 rfl rfl 10 (by decide) (hts (.fieldLink RX3 44 "ChairCane$Room" "sits" "I") (by decide +kernel)) (fun _ h9 => h9) rfl dX3_copyFrom_150 ?_
  refine va_put (D := D) (ci := 2) (v := .int oo_sits) (C := RX3) (T := TX3) (N := 17) hx hb hts in3 tyX3 tyX3_ok nmX3 hown hG.1 hP hD hS 0 rfl rfl 10 (by decide) (hts (.fieldLink RX3 44 "ChairCane$Room" "sits" "I") (by decide +kernel)) (fun _ h9 => h9) rfl (tyX3_ok 10 (by decide)) rfl rfl (Nat.le_of_ble_eq_true rfl) dX3_copyFrom_153 (fun H locs hP hD hS => ?_)
  have hP : va_P D vwCl ([(r, .inr (2, [.int oo_told, .int oo_strands, .int oo_chairs, .int oo_sitters, .ref r_atoldCane, .ref r_aheight, .ref r_astrandOf, .ref r_achairOf, .ref r_aweight, .ref r_acane, .int oo_sits, .int r_dropped, .int r_minute, .ref r_aload, .ref r_aheads, .int r_held, .int r_heldDown])), (r_atoldCane, hcI k 4 f1), (r_aheight, hcI k 8 f2), (r_astrandOf, hcI k 8 f3), (r_achairOf, hcI k 8 f4), (r_aweight, hcI k 8 f5), (r_acane, hcI k 4 f6), (r_aload, hcI k 4 f7), (r_aheads, hcI k 4 f8), (oo, .inr (2, [.int oo_told, .int oo_strands, .int oo_chairs, .int oo_sitters, .ref oo_atoldCane, .ref oo_aheight, .ref oo_astrandOf, .ref oo_achairOf, .ref oo_aweight, .ref oo_acane, .int oo_sits, .int oo_dropped, .int oo_minute, .ref oo_aload, .ref oo_aheads, .int oo_held, .int oo_heldDown])), (oo_atoldCane, hcI k 4 oo_rtoldCane), (oo_aheight, hcI k 8 oo_rheight), (oo_astrandOf, hcI k 8 oo_rstrandOf), (oo_achairOf, hcI k 8 oo_rchairOf), (oo_aweight, hcI k 8 oo_rweight), (oo_acane, hcI k 4 oo_rcane), (oo_aload, hcI k 4 oo_rload), (oo_aheads, hcI k 4 oo_rheads)]) H := hP
  have hD : va_D A ([(r, .inr (2, [.int oo_told, .int oo_strands, .int oo_chairs, .int oo_sitters, .ref r_atoldCane, .ref r_aheight, .ref r_astrandOf, .ref r_achairOf, .ref r_aweight, .ref r_acane, .int oo_sits, .int r_dropped, .int r_minute, .ref r_aload, .ref r_aheads, .int r_held, .int r_heldDown])), (r_atoldCane, hcI k 4 f1), (r_aheight, hcI k 8 f2), (r_astrandOf, hcI k 8 f3), (r_achairOf, hcI k 8 f4), (r_aweight, hcI k 8 f5), (r_acane, hcI k 4 f6), (r_aload, hcI k 4 f7), (r_aheads, hcI k 4 f8), (oo, .inr (2, [.int oo_told, .int oo_strands, .int oo_chairs, .int oo_sitters, .ref oo_atoldCane, .ref oo_aheight, .ref oo_astrandOf, .ref oo_achairOf, .ref oo_aweight, .ref oo_acane, .int oo_sits, .int oo_dropped, .int oo_minute, .ref oo_aload, .ref oo_aheads, .int oo_held, .int oo_heldDown])), (oo_atoldCane, hcI k 4 oo_rtoldCane), (oo_aheight, hcI k 8 oo_rheight), (oo_astrandOf, hcI k 8 oo_rstrandOf), (oo_achairOf, hcI k 8 oo_rchairOf), (oo_aweight, hcI k 8 oo_rweight), (oo_acane, hcI k 4 oo_rcane), (oo_aload, hcI k 4 oo_rload), (oo_aheads, hcI k 4 oo_rheads)]) := hD
  refine lv_aload_n hx hb dX3_copyFrom_156 rfl (lv_at hl 0 rfl) ?_
  refine lv_aload_n hx hb dX3_copyFrom_157 rfl (lv_at hl 1 rfl) ?_
  refine va_get (D := D) (ci := 2) (v := .int oo_dropped) (C := RX3) (T := TX3) (N := 17) hx hb hts in3 hown hG.1 hP 9 rfl rfl 11 (by decide) (hts (.fieldLink RX3 47 "ChairCane$Room" "dropped" "I") (by decide +kernel)) (fun _ h9 => h9) rfl dX3_copyFrom_158 ?_
  refine va_put (D := D) (ci := 2) (v := .int oo_dropped) (C := RX3) (T := TX3) (N := 17) hx hb hts in3 tyX3 tyX3_ok nmX3 hown hG.1 hP hD hS 0 rfl rfl 11 (by decide) (hts (.fieldLink RX3 47 "ChairCane$Room" "dropped" "I") (by decide +kernel)) (fun _ h9 => h9) rfl (tyX3_ok 11 (by decide)) rfl rfl (Nat.le_of_ble_eq_true rfl) dX3_copyFrom_161 (fun H locs hP hD hS => ?_)
  have hP : va_P D vwCl ([(r, .inr (2, [.int oo_told, .int oo_strands, .int oo_chairs, .int oo_sitters, .ref r_atoldCane, .ref r_aheight, .ref r_astrandOf, .ref r_achairOf, .ref r_aweight, .ref r_acane, .int oo_sits, .int oo_dropped, .int r_minute, .ref r_aload, .ref r_aheads, .int r_held, .int r_heldDown])), (r_atoldCane, hcI k 4 f1), (r_aheight, hcI k 8 f2), (r_astrandOf, hcI k 8 f3), (r_achairOf, hcI k 8 f4), (r_aweight, hcI k 8 f5), (r_acane, hcI k 4 f6), (r_aload, hcI k 4 f7), (r_aheads, hcI k 4 f8), (oo, .inr (2, [.int oo_told, .int oo_strands, .int oo_chairs, .int oo_sitters, .ref oo_atoldCane, .ref oo_aheight, .ref oo_astrandOf, .ref oo_achairOf, .ref oo_aweight, .ref oo_acane, .int oo_sits, .int oo_dropped, .int oo_minute, .ref oo_aload, .ref oo_aheads, .int oo_held, .int oo_heldDown])), (oo_atoldCane, hcI k 4 oo_rtoldCane), (oo_aheight, hcI k 8 oo_rheight), (oo_astrandOf, hcI k 8 oo_rstrandOf), (oo_achairOf, hcI k 8 oo_rchairOf), (oo_aweight, hcI k 8 oo_rweight), (oo_acane, hcI k 4 oo_rcane), (oo_aload, hcI k 4 oo_rload), (oo_aheads, hcI k 4 oo_rheads)]) H := hP
  have hD : va_D A ([(r, .inr (2, [.int oo_told, .int oo_strands, .int oo_chairs, .int oo_sitters, .ref r_atoldCane, .ref r_aheight, .ref r_astrandOf, .ref r_achairOf, .ref r_aweight, .ref r_acane, .int oo_sits, .int oo_dropped, .int r_minute, .ref r_aload, .ref r_aheads, .int r_held, .int r_heldDown])), (r_atoldCane, hcI k 4 f1), (r_aheight, hcI k 8 f2), (r_astrandOf, hcI k 8 f3), (r_achairOf, hcI k 8 f4), (r_aweight, hcI k 8 f5), (r_acane, hcI k 4 f6), (r_aload, hcI k 4 f7), (r_aheads, hcI k 4 f8), (oo, .inr (2, [.int oo_told, .int oo_strands, .int oo_chairs, .int oo_sitters, .ref oo_atoldCane, .ref oo_aheight, .ref oo_astrandOf, .ref oo_achairOf, .ref oo_aweight, .ref oo_acane, .int oo_sits, .int oo_dropped, .int oo_minute, .ref oo_aload, .ref oo_aheads, .int oo_held, .int oo_heldDown])), (oo_atoldCane, hcI k 4 oo_rtoldCane), (oo_aheight, hcI k 8 oo_rheight), (oo_astrandOf, hcI k 8 oo_rstrandOf), (oo_achairOf, hcI k 8 oo_rchairOf), (oo_aweight, hcI k 8 oo_rweight), (oo_acane, hcI k 4 oo_rcane), (oo_aload, hcI k 4 oo_rload), (oo_aheads, hcI k 4 oo_rheads)]) := hD
  refine lv_aload_n hx hb dX3_copyFrom_164 rfl (lv_at hl 0 rfl) ?_
  refine lv_aload_n hx hb dX3_copyFrom_165 rfl (lv_at hl 1 rfl) ?_
  refine va_get (D := D) (ci := 2) (v := .int oo_minute) (C := RX3) (T := TX3) (N := 17) hx hb hts in3 hown hG.1 hP 9 rfl rfl 12 (by decide) (hts (.fieldLink RX3 50 "ChairCane$Room" "minute" "I") (by decide +kernel)) (fun _ h9 => h9) rfl dX3_copyFrom_166 ?_
  refine va_put (D := D) (ci := 2) (v := .int oo_minute) (C := RX3) (T := TX3) (N := 17) hx hb hts in3 tyX3 tyX3_ok nmX3 hown hG.1 hP hD hS 0 rfl rfl 12 (by decide) (hts (.fieldLink RX3 50 "ChairCane$Room" "minute" "I") (by decide +kernel)) (fun _ h9 => h9) rfl (tyX3_ok 12 (by decide)) rfl rfl (Nat.le_of_ble_eq_true rfl) dX3_copyFrom_169 (fun H locs hP hD hS => ?_)
  have hP : va_P D vwCl ([(r, .inr (2, [.int oo_told, .int oo_strands, .int oo_chairs, .int oo_sitters, .ref r_atoldCane, .ref r_aheight, .ref r_astrandOf, .ref r_achairOf, .ref r_aweight, .ref r_acane, .int oo_sits, .int oo_dropped, .int oo_minute, .ref r_aload, .ref r_aheads, .int r_held, .int r_heldDown])), (r_atoldCane, hcI k 4 f1), (r_aheight, hcI k 8 f2), (r_astrandOf, hcI k 8 f3), (r_achairOf, hcI k 8 f4), (r_aweight, hcI k 8 f5), (r_acane, hcI k 4 f6), (r_aload, hcI k 4 f7), (r_aheads, hcI k 4 f8), (oo, .inr (2, [.int oo_told, .int oo_strands, .int oo_chairs, .int oo_sitters, .ref oo_atoldCane, .ref oo_aheight, .ref oo_astrandOf, .ref oo_achairOf, .ref oo_aweight, .ref oo_acane, .int oo_sits, .int oo_dropped, .int oo_minute, .ref oo_aload, .ref oo_aheads, .int oo_held, .int oo_heldDown])), (oo_atoldCane, hcI k 4 oo_rtoldCane), (oo_aheight, hcI k 8 oo_rheight), (oo_astrandOf, hcI k 8 oo_rstrandOf), (oo_achairOf, hcI k 8 oo_rchairOf), (oo_aweight, hcI k 8 oo_rweight), (oo_acane, hcI k 4 oo_rcane), (oo_aload, hcI k 4 oo_rload), (oo_aheads, hcI k 4 oo_rheads)]) H := hP
  have hD : va_D A ([(r, .inr (2, [.int oo_told, .int oo_strands, .int oo_chairs, .int oo_sitters, .ref r_atoldCane, .ref r_aheight, .ref r_astrandOf, .ref r_achairOf, .ref r_aweight, .ref r_acane, .int oo_sits, .int oo_dropped, .int oo_minute, .ref r_aload, .ref r_aheads, .int r_held, .int r_heldDown])), (r_atoldCane, hcI k 4 f1), (r_aheight, hcI k 8 f2), (r_astrandOf, hcI k 8 f3), (r_achairOf, hcI k 8 f4), (r_aweight, hcI k 8 f5), (r_acane, hcI k 4 f6), (r_aload, hcI k 4 f7), (r_aheads, hcI k 4 f8), (oo, .inr (2, [.int oo_told, .int oo_strands, .int oo_chairs, .int oo_sitters, .ref oo_atoldCane, .ref oo_aheight, .ref oo_astrandOf, .ref oo_achairOf, .ref oo_aweight, .ref oo_acane, .int oo_sits, .int oo_dropped, .int oo_minute, .ref oo_aload, .ref oo_aheads, .int oo_held, .int oo_heldDown])), (oo_atoldCane, hcI k 4 oo_rtoldCane), (oo_aheight, hcI k 8 oo_rheight), (oo_astrandOf, hcI k 8 oo_rstrandOf), (oo_achairOf, hcI k 8 oo_rchairOf), (oo_aweight, hcI k 8 oo_rweight), (oo_acane, hcI k 4 oo_rcane), (oo_aload, hcI k 4 oo_rload), (oo_aheads, hcI k 4 oo_rheads)]) := hD
  refine lv_aload_n hx hb dX3_copyFrom_172 rfl (lv_at hl 0 rfl) ?_
  refine lv_iconst (v := 0) hx hb dX3_copyFrom_173 (by decide) ?_
  refine va_put (D := D) (ci := 2) (v := .int 0) (C := RX3) (T := TX3) (N := 17) hx hb hts in3 tyX3 tyX3_ok nmX3 hown hG.1 hP hD hS 0 rfl rfl 15 (by decide) (hts (.fieldLink RX3 59 "ChairCane$Room" "held" "I") (by decide +kernel)) (fun _ h9 => h9) rfl (tyX3_ok 15 (by decide)) rfl rfl (Nat.le_of_ble_eq_true rfl) dX3_copyFrom_174 (fun H locs hP hD hS => ?_)
  have hP : va_P D vwCl ([(r, .inr (2, [.int oo_told, .int oo_strands, .int oo_chairs, .int oo_sitters, .ref r_atoldCane, .ref r_aheight, .ref r_astrandOf, .ref r_achairOf, .ref r_aweight, .ref r_acane, .int oo_sits, .int oo_dropped, .int oo_minute, .ref r_aload, .ref r_aheads, .int 0, .int r_heldDown])), (r_atoldCane, hcI k 4 f1), (r_aheight, hcI k 8 f2), (r_astrandOf, hcI k 8 f3), (r_achairOf, hcI k 8 f4), (r_aweight, hcI k 8 f5), (r_acane, hcI k 4 f6), (r_aload, hcI k 4 f7), (r_aheads, hcI k 4 f8), (oo, .inr (2, [.int oo_told, .int oo_strands, .int oo_chairs, .int oo_sitters, .ref oo_atoldCane, .ref oo_aheight, .ref oo_astrandOf, .ref oo_achairOf, .ref oo_aweight, .ref oo_acane, .int oo_sits, .int oo_dropped, .int oo_minute, .ref oo_aload, .ref oo_aheads, .int oo_held, .int oo_heldDown])), (oo_atoldCane, hcI k 4 oo_rtoldCane), (oo_aheight, hcI k 8 oo_rheight), (oo_astrandOf, hcI k 8 oo_rstrandOf), (oo_achairOf, hcI k 8 oo_rchairOf), (oo_aweight, hcI k 8 oo_rweight), (oo_acane, hcI k 4 oo_rcane), (oo_aload, hcI k 4 oo_rload), (oo_aheads, hcI k 4 oo_rheads)]) H := hP
  have hD : va_D A ([(r, .inr (2, [.int oo_told, .int oo_strands, .int oo_chairs, .int oo_sitters, .ref r_atoldCane, .ref r_aheight, .ref r_astrandOf, .ref r_achairOf, .ref r_aweight, .ref r_acane, .int oo_sits, .int oo_dropped, .int oo_minute, .ref r_aload, .ref r_aheads, .int 0, .int r_heldDown])), (r_atoldCane, hcI k 4 f1), (r_aheight, hcI k 8 f2), (r_astrandOf, hcI k 8 f3), (r_achairOf, hcI k 8 f4), (r_aweight, hcI k 8 f5), (r_acane, hcI k 4 f6), (r_aload, hcI k 4 f7), (r_aheads, hcI k 4 f8), (oo, .inr (2, [.int oo_told, .int oo_strands, .int oo_chairs, .int oo_sitters, .ref oo_atoldCane, .ref oo_aheight, .ref oo_astrandOf, .ref oo_achairOf, .ref oo_aweight, .ref oo_acane, .int oo_sits, .int oo_dropped, .int oo_minute, .ref oo_aload, .ref oo_aheads, .int oo_held, .int oo_heldDown])), (oo_atoldCane, hcI k 4 oo_rtoldCane), (oo_aheight, hcI k 8 oo_rheight), (oo_astrandOf, hcI k 8 oo_rstrandOf), (oo_achairOf, hcI k 8 oo_rchairOf), (oo_aweight, hcI k 8 oo_rweight), (oo_acane, hcI k 4 oo_rcane), (oo_aload, hcI k 4 oo_rload), (oo_aheads, hcI k 4 oo_rheads)]) := hD
  exact hc_endV hx hb hr hlocks (oo_told, oo_strands, oo_chairs, oo_sitters, oo_sits, oo_dropped, oo_minute, 0, f1, f2, f3, f4, f5, f6, f7, f8) ⟨(show iv (0) (1) oo_told from ⟨by omega, by omega⟩), (show iv (0) (4) oo_strands from ⟨by omega, by omega⟩), (show iv (0) (8) oo_chairs from ⟨by omega, by omega⟩), (show iv (0) (8) oo_sitters from ⟨by omega, by omega⟩), h_f3, h_f4⟩ hP hD hS dX3_copyFrom_177
set_option maxHeartbeats 4000000 in
set_option maxRecDepth 100000 in
theorem i_X0_forget (l : Launch) (D : va_G) (k : Nat → ClassId) (sz : Nat) (ac : Nat) (ac_aseats : Nat) (ac_aminutes : Nat) (ac_acanes : Nat) (ac_next : Int32) (ac_kept : Int32) (h_ac_next : iv (0) (19) ac_next) : CtV l yX0_forget wsX0_forget (rmK 1 0 0) [.ref ac] D k sz ([(ac, .inr (0, [.ref ac_aseats, .ref ac_aminutes, .ref ac_acanes, .int ac_next, .int ac_kept]))]) (fun u : (Int32) => True) (fun u : (Int32) => [(ac, .inr (0, [.ref ac_aseats, .ref ac_aminutes, .ref ac_acanes, .int ac_next, .int (u)]))]) 0 0 := by
  have h_ac_next_l := h_ac_next.1
  have h_ac_next_u := h_ac_next.2
  refine CtV.mk (cc := cX0_forget) (maxL := 1) (ret := none) (by decide) rfl (Nat.le_of_ble_eq_true rfl) ?_
  intro p e s m below meth c A ls E hP hD hS hl
  obtain ⟨hx, hb, hr, hml, hown, hts, hlocks, hin, hG, hA⟩ := E
  have hown : s.vm.findClass RX0 = some m.cls := hown
  have in0 : ∀ w ∈ u_ws RX0 TX0 5, w ∈ wsX0_forget := fun _ h => List.mem_cons_of_mem _ (List.mem_append_right _ h)
  have hl : lv_has ls 1 [(0, .ref ac)] := hl
  refine lv_aload_n hx hb dX0_forget_0 rfl (lv_at hl 0 rfl) ?_
  refine lv_iconst (v := 0) hx hb dX0_forget_1 (by decide) ?_
  refine va_put (D := D) (ci := 0) (v := .int 0) (C := RX0) (T := TX0) (N := 5) hx hb hts in0 tyX0 tyX0_ok nmX0 hown hG.1 hP hD hS 0 rfl rfl 4 (by decide) (hts (.fieldLink RX0 25 "ChairCane$Acts" "kept" "I") (by decide +kernel)) (fun _ h9 => h9) rfl (tyX0_ok 4 (by decide)) rfl rfl (Nat.le_of_ble_eq_true rfl) dX0_forget_2 (fun H locs hP hD hS => ?_)
  have hP : va_P D vwCl ([(ac, .inr (0, [.ref ac_aseats, .ref ac_aminutes, .ref ac_acanes, .int ac_next, .int 0]))]) H := hP
  have hD : va_D A ([(ac, .inr (0, [.ref ac_aseats, .ref ac_aminutes, .ref ac_acanes, .int ac_next, .int 0]))]) := hD
  exact hc_endV hx hb hr hlocks (0) trivial hP hD hS dX0_forget_5
set_option maxHeartbeats 4000000 in
set_option maxRecDepth 100000 in
theorem i_X0_copyFrom (l : Launch) (D : va_G) (k : Nat → ClassId) (sz : Nat) (ac : Nat) (ac_aseats : Nat) (ac_aminutes : Nat) (ac_acanes : Nat) (ac_next : Int32) (ac_kept : Int32) (ac_rseats : Nat → Int32) (ac_rminutes : Nat → Int32) (ac_rcanes : Nat → Int32) (oo : Nat) (oo_aseats : Nat) (oo_aminutes : Nat) (oo_acanes : Nat) (oo_next : Int32) (oo_kept : Int32) (oo_rseats : Nat → Int32) (oo_rminutes : Nat → Int32) (oo_rcanes : Nat → Int32) (h_ac_next : iv (0) (19) ac_next) (h_oo_next : iv (0) (19) oo_next) : CtV l yX0_copyFrom wsX0_copyFrom (rmK 1 0 0) [.ref ac, .ref oo] D k sz ([(ac, .inr (0, [.ref ac_aseats, .ref ac_aminutes, .ref ac_acanes, .int ac_next, .int ac_kept])), (ac_aseats, hcI k 20 ac_rseats), (ac_aminutes, hcI k 20 ac_rminutes), (ac_acanes, hcI k 20 ac_rcanes), (oo, .inr (0, [.ref oo_aseats, .ref oo_aminutes, .ref oo_acanes, .int oo_next, .int oo_kept])), (oo_aseats, hcI k 20 oo_rseats), (oo_aminutes, hcI k 20 oo_rminutes), (oo_acanes, hcI k 20 oo_rcanes)]) (fun u : (Int32) × (Int32) × (Nat → Int32) × (Nat → Int32) × (Nat → Int32) => iv (0) (19) (u.1)) (fun u : (Int32) × (Int32) × (Nat → Int32) × (Nat → Int32) × (Nat → Int32) => [(ac, .inr (0, [.ref ac_aseats, .ref ac_aminutes, .ref ac_acanes, .int (u.1), .int (u.2.1)])), (ac_aseats, hcI k 20 (u.2.2.1)), (ac_aminutes, hcI k 20 (u.2.2.2.1)), (ac_acanes, hcI k 20 (u.2.2.2.2)), (oo, .inr (0, [.ref oo_aseats, .ref oo_aminutes, .ref oo_acanes, .int oo_next, .int oo_kept])), (oo_aseats, hcI k 20 oo_rseats), (oo_aminutes, hcI k 20 oo_rminutes), (oo_acanes, hcI k 20 oo_rcanes)]) 0 0 := by
  have h_ac_next_l := h_ac_next.1
  have h_ac_next_u := h_ac_next.2
  have h_oo_next_l := h_oo_next.1
  have h_oo_next_u := h_oo_next.2
  refine CtV.mk (cc := cX0_copyFrom) (maxL := 2) (ret := none) (by decide) rfl (Nat.le_of_ble_eq_true rfl) ?_
  intro p e s m below meth c A ls E hP hD hS hl
  obtain ⟨hx, hb, hr, hml, hown, hts, hlocks, hin, hG, hA⟩ := E
  have hown : s.vm.findClass RX0 = some m.cls := hown
  have in0 : ∀ w ∈ u_ws RX0 TX0 5, w ∈ wsX0_copyFrom := fun _ h => List.mem_cons_of_mem _ (List.mem_append_right _ h)
  have hl : lv_has ls 2 [(0, .ref ac), (1, .ref oo)] := hl
  refine lv_aload_n hx hb dX0_copyFrom_0 rfl (lv_at hl 1 rfl) ?_
  refine va_get (D := D) (ci := 0) (v := .ref oo_aseats) (C := RX0) (T := TX0) (N := 5) hx hb hts in0 hown hG.1 hP 4 rfl rfl 0 (by decide) (hts (.fieldLink RX0 9 "ChairCane$Acts" "seats" "[I") (by decide +kernel)) (fun _ h9 => h9) rfl dX0_copyFrom_1 ?_
  refine lv_iconst (v := 0) hx hb dX0_copyFrom_4 (by decide) ?_
  refine lv_aload_n hx hb dX0_copyFrom_5 rfl (lv_at hl 0 rfl) ?_
  refine va_get (D := D) (ci := 0) (v := .ref ac_aseats) (C := RX0) (T := TX0) (N := 5) hx hb hts in0 hown hG.1 hP 0 rfl rfl 0 (by decide) (hts (.fieldLink RX0 9 "ChairCane$Acts" "seats" "[I") (by decide +kernel)) (fun _ h9 => h9) rfl dX0_copyFrom_6 ?_
  refine lv_iconst (v := 0) hx hb dX0_copyFrom_9 (by decide) ?_
  refine lv_bipush (v := 20) hx hb dX0_copyFrom_10 (by decide) ?_
  refine va_copyi hx hb (by rw [hml]; exact hl.1.symm) hown (hts (.methodLink RX0 28 arraycopyName) (by decide +kernel)) (hts (.native arraycopyName) (by decide +kernel)) (hts (.static arraycopyName) (by decide +kernel)) (hts (.initialized "java/lang/System") (by decide +kernel)) hG.1 hP hD hS 5 1 0 0 rfl rfl rfl rfl rfl (by decide) (by decide) (by decide) (by decide) (by decide) (fun _ _ => rfl) (Nat.le_of_ble_eq_true rfl) (Nat.le_of_ble_eq_true rfl) dX0_copyFrom_12 (fun H locs hP hD hS => ?_)
  obtain ⟨f1, ef1⟩ : ∃ f : Nat → Int32, f = va_cpy oo_rseats ac_rseats (Int32.toNatClampNeg 0) (Int32.toNatClampNeg 0) (Int32.toNatClampNeg 20) := ⟨_, rfl⟩
  rw [← ef1] at hP hD
  have hP : va_P D vwCl ([(ac, .inr (0, [.ref ac_aseats, .ref ac_aminutes, .ref ac_acanes, .int ac_next, .int ac_kept])), (ac_aseats, hcI k 20 f1), (ac_aminutes, hcI k 20 ac_rminutes), (ac_acanes, hcI k 20 ac_rcanes), (oo, .inr (0, [.ref oo_aseats, .ref oo_aminutes, .ref oo_acanes, .int oo_next, .int oo_kept])), (oo_aseats, hcI k 20 oo_rseats), (oo_aminutes, hcI k 20 oo_rminutes), (oo_acanes, hcI k 20 oo_rcanes)]) H := hP
  have hD : va_D A ([(ac, .inr (0, [.ref ac_aseats, .ref ac_aminutes, .ref ac_acanes, .int ac_next, .int ac_kept])), (ac_aseats, hcI k 20 f1), (ac_aminutes, hcI k 20 ac_rminutes), (ac_acanes, hcI k 20 ac_rcanes), (oo, .inr (0, [.ref oo_aseats, .ref oo_aminutes, .ref oo_acanes, .int oo_next, .int oo_kept])), (oo_aseats, hcI k 20 oo_rseats), (oo_aminutes, hcI k 20 oo_rminutes), (oo_acanes, hcI k 20 oo_rcanes)]) := hD
  refine lv_aload_n hx hb dX0_copyFrom_15 rfl (lv_at hl 1 rfl) ?_
  refine va_get (D := D) (ci := 0) (v := .ref oo_aminutes) (C := RX0) (T := TX0) (N := 5) hx hb hts in0 hown hG.1 hP 4 rfl rfl 1 (by decide) (hts (.fieldLink RX0 15 "ChairCane$Acts" "minutes" "[I") (by decide +kernel)) (fun _ h9 => h9) rfl dX0_copyFrom_16 ?_
  refine lv_iconst (v := 0) hx hb dX0_copyFrom_19 (by decide) ?_
  refine lv_aload_n hx hb dX0_copyFrom_20 rfl (lv_at hl 0 rfl) ?_
  refine va_get (D := D) (ci := 0) (v := .ref ac_aminutes) (C := RX0) (T := TX0) (N := 5) hx hb hts in0 hown hG.1 hP 0 rfl rfl 1 (by decide) (hts (.fieldLink RX0 15 "ChairCane$Acts" "minutes" "[I") (by decide +kernel)) (fun _ h9 => h9) rfl dX0_copyFrom_21 ?_
  refine lv_iconst (v := 0) hx hb dX0_copyFrom_24 (by decide) ?_
  refine lv_bipush (v := 20) hx hb dX0_copyFrom_25 (by decide) ?_
  refine va_copyi hx hb (by rw [hml]; exact hl.1.symm) hown (hts (.methodLink RX0 28 arraycopyName) (by decide +kernel)) (hts (.native arraycopyName) (by decide +kernel)) (hts (.static arraycopyName) (by decide +kernel)) (hts (.initialized "java/lang/System") (by decide +kernel)) hG.1 hP hD hS 6 2 0 0 rfl rfl rfl rfl rfl (by decide) (by decide) (by decide) (by decide) (by decide) (fun _ _ => rfl) (Nat.le_of_ble_eq_true rfl) (Nat.le_of_ble_eq_true rfl) dX0_copyFrom_27 (fun H locs hP hD hS => ?_)
  obtain ⟨f2, ef2⟩ : ∃ f : Nat → Int32, f = va_cpy oo_rminutes ac_rminutes (Int32.toNatClampNeg 0) (Int32.toNatClampNeg 0) (Int32.toNatClampNeg 20) := ⟨_, rfl⟩
  rw [← ef2] at hP hD
  have hP : va_P D vwCl ([(ac, .inr (0, [.ref ac_aseats, .ref ac_aminutes, .ref ac_acanes, .int ac_next, .int ac_kept])), (ac_aseats, hcI k 20 f1), (ac_aminutes, hcI k 20 f2), (ac_acanes, hcI k 20 ac_rcanes), (oo, .inr (0, [.ref oo_aseats, .ref oo_aminutes, .ref oo_acanes, .int oo_next, .int oo_kept])), (oo_aseats, hcI k 20 oo_rseats), (oo_aminutes, hcI k 20 oo_rminutes), (oo_acanes, hcI k 20 oo_rcanes)]) H := hP
  have hD : va_D A ([(ac, .inr (0, [.ref ac_aseats, .ref ac_aminutes, .ref ac_acanes, .int ac_next, .int ac_kept])), (ac_aseats, hcI k 20 f1), (ac_aminutes, hcI k 20 f2), (ac_acanes, hcI k 20 ac_rcanes), (oo, .inr (0, [.ref oo_aseats, .ref oo_aminutes, .ref oo_acanes, .int oo_next, .int oo_kept])), (oo_aseats, hcI k 20 oo_rseats), (oo_aminutes, hcI k 20 oo_rminutes), (oo_acanes, hcI k 20 oo_rcanes)]) := hD
  refine lv_aload_n hx hb dX0_copyFrom_30 rfl (lv_at hl 1 rfl) ?_
  refine va_get (D := D) (ci := 0) (v := .ref oo_acanes) (C := RX0) (T := TX0) (N := 5) hx hb hts in0 hown hG.1 hP 4 rfl rfl 2 (by decide) (hts (.fieldLink RX0 18 "ChairCane$Acts" "canes" "[I") (by decide +kernel)) (fun _ h9 => h9) rfl dX0_copyFrom_31 ?_
  refine lv_iconst (v := 0) hx hb dX0_copyFrom_34 (by decide) ?_
  refine lv_aload_n hx hb dX0_copyFrom_35 rfl (lv_at hl 0 rfl) ?_
  refine va_get (D := D) (ci := 0) (v := .ref ac_acanes) (C := RX0) (T := TX0) (N := 5) hx hb hts in0 hown hG.1 hP 0 rfl rfl 2 (by decide) (hts (.fieldLink RX0 18 "ChairCane$Acts" "canes" "[I") (by decide +kernel)) (fun _ h9 => h9) rfl dX0_copyFrom_36 ?_
  refine lv_iconst (v := 0) hx hb dX0_copyFrom_39 (by decide) ?_
  refine lv_bipush (v := 20) hx hb dX0_copyFrom_40 (by decide) ?_
  refine va_copyi hx hb (by rw [hml]; exact hl.1.symm) hown (hts (.methodLink RX0 28 arraycopyName) (by decide +kernel)) (hts (.native arraycopyName) (by decide +kernel)) (hts (.static arraycopyName) (by decide +kernel)) (hts (.initialized "java/lang/System") (by decide +kernel)) hG.1 hP hD hS 7 3 0 0 rfl rfl rfl rfl rfl (by decide) (by decide) (by decide) (by decide) (by decide) (fun _ _ => rfl) (Nat.le_of_ble_eq_true rfl) (Nat.le_of_ble_eq_true rfl) dX0_copyFrom_42 (fun H locs hP hD hS => ?_)
  obtain ⟨f3, ef3⟩ : ∃ f : Nat → Int32, f = va_cpy oo_rcanes ac_rcanes (Int32.toNatClampNeg 0) (Int32.toNatClampNeg 0) (Int32.toNatClampNeg 20) := ⟨_, rfl⟩
  rw [← ef3] at hP hD
  have hP : va_P D vwCl ([(ac, .inr (0, [.ref ac_aseats, .ref ac_aminutes, .ref ac_acanes, .int ac_next, .int ac_kept])), (ac_aseats, hcI k 20 f1), (ac_aminutes, hcI k 20 f2), (ac_acanes, hcI k 20 f3), (oo, .inr (0, [.ref oo_aseats, .ref oo_aminutes, .ref oo_acanes, .int oo_next, .int oo_kept])), (oo_aseats, hcI k 20 oo_rseats), (oo_aminutes, hcI k 20 oo_rminutes), (oo_acanes, hcI k 20 oo_rcanes)]) H := hP
  have hD : va_D A ([(ac, .inr (0, [.ref ac_aseats, .ref ac_aminutes, .ref ac_acanes, .int ac_next, .int ac_kept])), (ac_aseats, hcI k 20 f1), (ac_aminutes, hcI k 20 f2), (ac_acanes, hcI k 20 f3), (oo, .inr (0, [.ref oo_aseats, .ref oo_aminutes, .ref oo_acanes, .int oo_next, .int oo_kept])), (oo_aseats, hcI k 20 oo_rseats), (oo_aminutes, hcI k 20 oo_rminutes), (oo_acanes, hcI k 20 oo_rcanes)]) := hD
  refine lv_aload_n hx hb dX0_copyFrom_45 rfl (lv_at hl 0 rfl) ?_
  refine lv_aload_n hx hb dX0_copyFrom_46 rfl (lv_at hl 1 rfl) ?_
  refine va_get (D := D) (ci := 0) (v := .int oo_next) (C := RX0) (T := TX0) (N := 5) hx hb hts in0 hown hG.1 hP 4 rfl rfl 3 (by decide) (hts (.fieldLink RX0 21 "ChairCane$Acts" "next" "I") (by decide +kernel)) (fun _ h9 => h9) rfl dX0_copyFrom_47 ?_
  refine va_put (D := D) (ci := 0) (v := .int oo_next) (C := RX0) (T := TX0) (N := 5) hx hb hts in0 tyX0 tyX0_ok nmX0 hown hG.1 hP hD hS 0 rfl rfl 3 (by decide) (hts (.fieldLink RX0 21 "ChairCane$Acts" "next" "I") (by decide +kernel)) (fun _ h9 => h9) rfl (tyX0_ok 3 (by decide)) rfl rfl (Nat.le_of_ble_eq_true rfl) dX0_copyFrom_50 (fun H locs hP hD hS => ?_)
  have hP : va_P D vwCl ([(ac, .inr (0, [.ref ac_aseats, .ref ac_aminutes, .ref ac_acanes, .int oo_next, .int ac_kept])), (ac_aseats, hcI k 20 f1), (ac_aminutes, hcI k 20 f2), (ac_acanes, hcI k 20 f3), (oo, .inr (0, [.ref oo_aseats, .ref oo_aminutes, .ref oo_acanes, .int oo_next, .int oo_kept])), (oo_aseats, hcI k 20 oo_rseats), (oo_aminutes, hcI k 20 oo_rminutes), (oo_acanes, hcI k 20 oo_rcanes)]) H := hP
  have hD : va_D A ([(ac, .inr (0, [.ref ac_aseats, .ref ac_aminutes, .ref ac_acanes, .int oo_next, .int ac_kept])), (ac_aseats, hcI k 20 f1), (ac_aminutes, hcI k 20 f2), (ac_acanes, hcI k 20 f3), (oo, .inr (0, [.ref oo_aseats, .ref oo_aminutes, .ref oo_acanes, .int oo_next, .int oo_kept])), (oo_aseats, hcI k 20 oo_rseats), (oo_aminutes, hcI k 20 oo_rminutes), (oo_acanes, hcI k 20 oo_rcanes)]) := hD
  refine lv_aload_n hx hb dX0_copyFrom_53 rfl (lv_at hl 0 rfl) ?_
  refine lv_aload_n hx hb dX0_copyFrom_54 rfl (lv_at hl 1 rfl) ?_
  refine va_get (D := D) (ci := 0) (v := .int oo_kept) (C := RX0) (T := TX0) (N := 5) hx hb hts in0 hown hG.1 hP 4 rfl rfl 4 (by decide) (hts (.fieldLink RX0 25 "ChairCane$Acts" "kept" "I") (by decide +kernel)) (fun _ h9 => h9) rfl dX0_copyFrom_55 ?_
  refine va_put (D := D) (ci := 0) (v := .int oo_kept) (C := RX0) (T := TX0) (N := 5) hx hb hts in0 tyX0 tyX0_ok nmX0 hown hG.1 hP hD hS 0 rfl rfl 4 (by decide) (hts (.fieldLink RX0 25 "ChairCane$Acts" "kept" "I") (by decide +kernel)) (fun _ h9 => h9) rfl (tyX0_ok 4 (by decide)) rfl rfl (Nat.le_of_ble_eq_true rfl) dX0_copyFrom_58 (fun H locs hP hD hS => ?_)
  have hP : va_P D vwCl ([(ac, .inr (0, [.ref ac_aseats, .ref ac_aminutes, .ref ac_acanes, .int oo_next, .int oo_kept])), (ac_aseats, hcI k 20 f1), (ac_aminutes, hcI k 20 f2), (ac_acanes, hcI k 20 f3), (oo, .inr (0, [.ref oo_aseats, .ref oo_aminutes, .ref oo_acanes, .int oo_next, .int oo_kept])), (oo_aseats, hcI k 20 oo_rseats), (oo_aminutes, hcI k 20 oo_rminutes), (oo_acanes, hcI k 20 oo_rcanes)]) H := hP
  have hD : va_D A ([(ac, .inr (0, [.ref ac_aseats, .ref ac_aminutes, .ref ac_acanes, .int oo_next, .int oo_kept])), (ac_aseats, hcI k 20 f1), (ac_aminutes, hcI k 20 f2), (ac_acanes, hcI k 20 f3), (oo, .inr (0, [.ref oo_aseats, .ref oo_aminutes, .ref oo_acanes, .int oo_next, .int oo_kept])), (oo_aseats, hcI k 20 oo_rseats), (oo_aminutes, hcI k 20 oo_rminutes), (oo_acanes, hcI k 20 oo_rcanes)]) := hD
  exact hc_endV hx hb hr hlocks (oo_next, oo_kept, f1, f2, f3) ((show iv (0) (19) oo_next from ⟨by omega, by omega⟩)) hP hD hS dX0_copyFrom_61
set_option maxHeartbeats 4000000 in
set_option maxRecDepth 100000 in
theorem i_X0_keep (l : Launch) (D : va_G) (k : Nat → ClassId) (sz : Nat) (ac : Nat) (ac_aseats : Nat) (ac_aminutes : Nat) (ac_acanes : Nat) (ac_next : Int32) (ac_kept : Int32) (ac_rseats : Nat → Int32) (ac_rminutes : Nat → Int32) (ac_rcanes : Nat → Int32) (r : Nat) (r_told : Int32) (r_strands : Int32) (r_chairs : Int32) (r_sitters : Int32) (r_atoldCane : Nat) (r_aheight : Nat) (r_astrandOf : Nat) (r_achairOf : Nat) (r_aweight : Nat) (r_acane : Nat) (r_sits : Int32) (r_dropped : Int32) (r_minute : Int32) (r_aload : Nat) (r_aheads : Nat) (r_held : Int32) (r_heldDown : Int32) (r_rcane : Nat → Int32) (h_ac_next : iv (0) (19) ac_next) (h_r_told : iv (0) (1) r_told) (h_r_strands : iv (0) (4) r_strands) (h_r_chairs : iv (0) (8) r_chairs) (h_r_sitters : iv (0) (8) r_sitters) : CtV l yX0_keep wsX0_keep (rmK 1 0 0) [.ref ac, .ref r] D k sz ([(ac, .inr (0, [.ref ac_aseats, .ref ac_aminutes, .ref ac_acanes, .int ac_next, .int ac_kept])), (ac_aseats, hcI k 20 ac_rseats), (ac_aminutes, hcI k 20 ac_rminutes), (ac_acanes, hcI k 20 ac_rcanes), (r, .inr (2, [.int r_told, .int r_strands, .int r_chairs, .int r_sitters, .ref r_atoldCane, .ref r_aheight, .ref r_astrandOf, .ref r_achairOf, .ref r_aweight, .ref r_acane, .int r_sits, .int r_dropped, .int r_minute, .ref r_aload, .ref r_aheads, .int r_held, .int r_heldDown])), (r_acane, hcI k 4 r_rcane)]) (fun u : (Int32) × (Int32) × (Nat → Int32) × (Nat → Int32) × (Nat → Int32) => iv (0) (19) (u.1)) (fun u : (Int32) × (Int32) × (Nat → Int32) × (Nat → Int32) × (Nat → Int32) => [(ac, .inr (0, [.ref ac_aseats, .ref ac_aminutes, .ref ac_acanes, .int (u.1), .int (u.2.1)])), (ac_aseats, hcI k 20 (u.2.2.1)), (ac_aminutes, hcI k 20 (u.2.2.2.1)), (ac_acanes, hcI k 20 (u.2.2.2.2)), (r, .inr (2, [.int r_told, .int r_strands, .int r_chairs, .int r_sitters, .ref r_atoldCane, .ref r_aheight, .ref r_astrandOf, .ref r_achairOf, .ref r_aweight, .ref r_acane, .int r_sits, .int r_dropped, .int r_minute, .ref r_aload, .ref r_aheads, .int r_held, .int r_heldDown])), (r_acane, hcI k 4 r_rcane)]) 0 0 := by
  have h_ac_next_l := h_ac_next.1
  have h_ac_next_u := h_ac_next.2
  have h_r_told_l := h_r_told.1
  have h_r_told_u := h_r_told.2
  have h_r_strands_l := h_r_strands.1
  have h_r_strands_u := h_r_strands.2
  have h_r_chairs_l := h_r_chairs.1
  have h_r_chairs_u := h_r_chairs.2
  have h_r_sitters_l := h_r_sitters.1
  have h_r_sitters_u := h_r_sitters.2
  refine CtV.mk (cc := cX0_keep) (maxL := 4) (ret := none) (by decide) rfl (Nat.le_of_ble_eq_true rfl) ?_
  intro p e s m below meth c A ls E hP hD hS hl
  obtain ⟨hx, hb, hr, hml, hown, hts, hlocks, hin, hG, hA⟩ := E
  have hown : s.vm.findClass RX0 = some m.cls := hown
  have in0 : ∀ w ∈ u_ws RX0 TX0 5, w ∈ wsX0_keep := fun _ h => List.mem_cons_of_mem _ (List.mem_append_left _ (List.mem_append_right _ h))
  have in3 : ∀ w ∈ u_ws RX3 TX3 17, w ∈ wsX0_keep := fun _ h => List.mem_cons_of_mem _ (List.mem_append_right _ h)
  have hl : lv_has ls 4 [(0, .ref ac), (1, .ref r)] := hl
  refine lv_aload_n hx hb dX0_keep_0 rfl (lv_at hl 0 rfl) ?_
  refine va_get (D := D) (ci := 0) (v := .ref ac_aseats) (C := RX0) (T := TX0) (N := 5) hx hb hts in0 hown hG.1 hP 0 rfl rfl 0 (by decide) (hts (.fieldLink RX0 9 "ChairCane$Acts" "seats" "[I") (by decide +kernel)) (fun _ h9 => h9) rfl dX0_keep_1 ?_
  refine lv_aload_n hx hb dX0_keep_4 rfl (lv_at hl 0 rfl) ?_
  refine va_get (D := D) (ci := 0) (v := .int ac_next) (C := RX0) (T := TX0) (N := 5) hx hb hts in0 hown hG.1 hP 0 rfl rfl 3 (by decide) (hts (.fieldLink RX0 21 "ChairCane$Acts" "next" "I") (by decide +kernel)) (fun _ h9 => h9) rfl dX0_keep_5 ?_
  refine lv_aload_n hx hb dX0_keep_8 rfl (lv_at hl 1 rfl) ?_
  refine va_get (D := D) (ci := 2) (v := .int r_sits) (C := RX3) (T := TX3) (N := 17) hx hb hts in3 hown hG.1 hP 4 rfl rfl 10 (by decide) (hts (.fieldLink RX0 34 "ChairCane$Room" "sits" "I") (by decide +kernel)) (fun _ h9 => h9) rfl dX0_keep_9 ?_
  refine lv_aload_n hx hb dX0_keep_12 rfl (lv_at hl 1 rfl) ?_
  refine va_get (D := D) (ci := 2) (v := .int r_dropped) (C := RX3) (T := TX3) (N := 17) hx hb hts in3 hown hG.1 hP 4 rfl rfl 11 (by decide) (hts (.fieldLink RX0 39 "ChairCane$Room" "dropped" "I") (by decide +kernel)) (fun _ h9 => h9) rfl dX0_keep_13 ?_
  refine lv_bipush (v := 8) hx hb dX0_keep_16 (by decide) ?_
  refine lv_ishl hx hb dX0_keep_18 ?_
  refine lv_topi (fun z1 ez1 => ?_)
  refine lv_ior hx hb dX0_keep_19 ?_
  refine lv_topi (fun z2 ez2 => ?_)
  refine va_iast hx hb hG.1 hP hD hS 1 0 rfl rfl (vp_in_iff.mpr ⟨by omega, by omega⟩) dX0_keep_20 (fun H locs hP hD hS => ?_)
  obtain ⟨f3, ef3⟩ : ∃ f, f = upd ac_rseats (Int32.toNatClampNeg ac_next) (z2) := ⟨_, rfl⟩
  rw [← ef3] at hP hD
  have hP : va_P D vwCl ([(ac, .inr (0, [.ref ac_aseats, .ref ac_aminutes, .ref ac_acanes, .int ac_next, .int ac_kept])), (ac_aseats, hcI k 20 f3), (ac_aminutes, hcI k 20 ac_rminutes), (ac_acanes, hcI k 20 ac_rcanes), (r, .inr (2, [.int r_told, .int r_strands, .int r_chairs, .int r_sitters, .ref r_atoldCane, .ref r_aheight, .ref r_astrandOf, .ref r_achairOf, .ref r_aweight, .ref r_acane, .int r_sits, .int r_dropped, .int r_minute, .ref r_aload, .ref r_aheads, .int r_held, .int r_heldDown])), (r_acane, hcI k 4 r_rcane)]) H := hP
  have hD : va_D A ([(ac, .inr (0, [.ref ac_aseats, .ref ac_aminutes, .ref ac_acanes, .int ac_next, .int ac_kept])), (ac_aseats, hcI k 20 f3), (ac_aminutes, hcI k 20 ac_rminutes), (ac_acanes, hcI k 20 ac_rcanes), (r, .inr (2, [.int r_told, .int r_strands, .int r_chairs, .int r_sitters, .ref r_atoldCane, .ref r_aheight, .ref r_astrandOf, .ref r_achairOf, .ref r_aweight, .ref r_acane, .int r_sits, .int r_dropped, .int r_minute, .ref r_aload, .ref r_aheads, .int r_held, .int r_heldDown])), (r_acane, hcI k 4 r_rcane)]) := hD
  refine lv_aload_n hx hb dX0_keep_21 rfl (lv_at hl 0 rfl) ?_
  refine va_get (D := D) (ci := 0) (v := .ref ac_aminutes) (C := RX0) (T := TX0) (N := 5) hx hb hts in0 hown hG.1 hP 0 rfl rfl 1 (by decide) (hts (.fieldLink RX0 15 "ChairCane$Acts" "minutes" "[I") (by decide +kernel)) (fun _ h9 => h9) rfl dX0_keep_22 ?_
  refine lv_aload_n hx hb dX0_keep_25 rfl (lv_at hl 0 rfl) ?_
  refine va_get (D := D) (ci := 0) (v := .int ac_next) (C := RX0) (T := TX0) (N := 5) hx hb hts in0 hown hG.1 hP 0 rfl rfl 3 (by decide) (hts (.fieldLink RX0 21 "ChairCane$Acts" "next" "I") (by decide +kernel)) (fun _ h9 => h9) rfl dX0_keep_26 ?_
  refine lv_aload_n hx hb dX0_keep_29 rfl (lv_at hl 1 rfl) ?_
  refine va_get (D := D) (ci := 2) (v := .int r_minute) (C := RX3) (T := TX3) (N := 17) hx hb hts in3 hown hG.1 hP 4 rfl rfl 12 (by decide) (hts (.fieldLink RX0 42 "ChairCane$Room" "minute" "I") (by decide +kernel)) (fun _ h9 => h9) rfl dX0_keep_30 ?_
  refine va_iast hx hb hG.1 hP hD hS 2 0 rfl rfl (vp_in_iff.mpr ⟨by omega, by omega⟩) dX0_keep_33 (fun H locs hP hD hS => ?_)
  obtain ⟨f4, ef4⟩ : ∃ f, f = upd ac_rminutes (Int32.toNatClampNeg ac_next) (r_minute) := ⟨_, rfl⟩
  rw [← ef4] at hP hD
  have hP : va_P D vwCl ([(ac, .inr (0, [.ref ac_aseats, .ref ac_aminutes, .ref ac_acanes, .int ac_next, .int ac_kept])), (ac_aseats, hcI k 20 f3), (ac_aminutes, hcI k 20 f4), (ac_acanes, hcI k 20 ac_rcanes), (r, .inr (2, [.int r_told, .int r_strands, .int r_chairs, .int r_sitters, .ref r_atoldCane, .ref r_aheight, .ref r_astrandOf, .ref r_achairOf, .ref r_aweight, .ref r_acane, .int r_sits, .int r_dropped, .int r_minute, .ref r_aload, .ref r_aheads, .int r_held, .int r_heldDown])), (r_acane, hcI k 4 r_rcane)]) H := hP
  have hD : va_D A ([(ac, .inr (0, [.ref ac_aseats, .ref ac_aminutes, .ref ac_acanes, .int ac_next, .int ac_kept])), (ac_aseats, hcI k 20 f3), (ac_aminutes, hcI k 20 f4), (ac_acanes, hcI k 20 ac_rcanes), (r, .inr (2, [.int r_told, .int r_strands, .int r_chairs, .int r_sitters, .ref r_atoldCane, .ref r_aheight, .ref r_astrandOf, .ref r_achairOf, .ref r_aweight, .ref r_acane, .int r_sits, .int r_dropped, .int r_minute, .ref r_aload, .ref r_aheads, .int r_held, .int r_heldDown])), (r_acane, hcI k 4 r_rcane)]) := hD
  refine lv_iconst (v := 0) hx hb dX0_keep_34 (by decide) ?_
  refine lv_istore_n (lv' := [(2, .int 0), (0, .ref ac), (1, .ref r)]) hx hb dX0_keep_35 rfl hl (by decide) rfl (fun ls hl => ?_)
  refine lv_iconst (v := 3) hx hb dX0_keep_36 (by decide) ?_
  refine lv_istore_n (lv' := [(3, .int 3), (2, .int 0), (0, .ref ac), (1, .ref r)]) hx hb dX0_keep_37 rfl hl (by decide) rfl (fun ls hl => ?_)
  have loop5 : ∀ (fu : Nat) (L2_5 : Int32) (L3_5 : Int32), iv (-1) (3) L3_5 → L3_5.toInt + 1 < (fu : Int) → ∀ (H : Heap) (locs : List Loc) (ls : Array Slot), va_P D vwCl ([(ac, .inr (0, [.ref ac_aseats, .ref ac_aminutes, .ref ac_acanes, .int ac_next, .int ac_kept])), (ac_aseats, hcI k 20 f3), (ac_aminutes, hcI k 20 f4), (ac_acanes, hcI k 20 ac_rcanes), (r, .inr (2, [.int r_told, .int r_strands, .int r_chairs, .int r_sitters, .ref r_atoldCane, .ref r_aheight, .ref r_astrandOf, .ref r_achairOf, .ref r_aweight, .ref r_acane, .int r_sits, .int r_dropped, .int r_minute, .ref r_aload, .ref r_aheads, .int r_held, .int r_heldDown])), (r_acane, hcI k 4 r_rcane)]) H → va_D A ([(ac, .inr (0, [.ref ac_aseats, .ref ac_aminutes, .ref ac_acanes, .int ac_next, .int ac_kept])), (ac_aseats, hcI k 20 f3), (ac_aminutes, hcI k 20 f4), (ac_acanes, hcI k 20 ac_rcanes), (r, .inr (2, [.int r_told, .int r_strands, .int r_chairs, .int r_sitters, .ref r_atoldCane, .ref r_aheight, .ref r_astrandOf, .ref r_achairOf, .ref r_aweight, .ref r_acane, .int r_sits, .int r_dropped, .int r_minute, .ref r_aload, .ref r_aheads, .int r_held, .int r_heldDown])), (r_acane, hcI k 4 r_rcane)]) → va_S A s.heap H locs → lv_has ls 4 [(3, .int L3_5), (2, .int L2_5), (0, .ref ac), (1, .ref r)] → W p l e (rmK 1 0 0) s m (List.toArray [.ref ac, .ref r]) below meth c H locs 0 0 (MQ below (va_Qv (fun u : (Int32) × (Int32) × (Nat → Int32) × (Nat → Int32) × (Nat → Int32) => iv (0) (19) (u.1)) (hcB D (fun u : (Int32) × (Int32) × (Nat → Int32) × (Nat → Int32) × (Nat → Int32) => [(ac, .inr (0, [.ref ac_aseats, .ref ac_aminutes, .ref ac_acanes, .int (u.1), .int (u.2.1)])), (ac_aseats, hcI k 20 (u.2.2.1)), (ac_aminutes, hcI k 20 (u.2.2.2.1)), (ac_acanes, hcI k 20 (u.2.2.2.2)), (r, .inr (2, [.int r_told, .int r_strands, .int r_chairs, .int r_sitters, .ref r_atoldCane, .ref r_aheight, .ref r_astrandOf, .ref r_achairOf, .ref r_aweight, .ref r_acane, .int r_sits, .int r_dropped, .int r_minute, .ref r_aload, .ref r_aheads, .int r_held, .int r_heldDown])), (r_acane, hcI k 4 r_rcane)]) A) A) (List.toArray [.ref ac, .ref r]) s 0 0 A) (F0 m 38 ls []) := by
    intro fu
    induction fu with
    | zero =>
      intro L2_5 L3_5 bL3_5 hm
      have bL3_5_l := bL3_5.1
      have bL3_5_u := bL3_5.2
      exact absurd hm (by omega)
    | succ fu ih5 =>
      intro L2_5 L3_5 bL3_5 hm H locs ls hP hD hS hl
      have bL3_5_l := bL3_5.1
      have bL3_5_u := bL3_5.2
      refine lv_iload_n hx hb dX0_keep_38 rfl (lv_at hl 0 rfl) ?_
      refine lv_if_lt (tgt := 60) hx hb dX0_keep_39 (by decide) (fun c6 => ?_) (fun c6 => ?_)
      · have fc6 := cx_lt_t (a := L3_5.toInt) (b := 0) rfl (by decide) c6
        refine lv_aload_n hx hb dX0_keep_60 rfl (lv_at hl 2 rfl) ?_
        refine va_get (D := D) (ci := 0) (v := .ref ac_acanes) (C := RX0) (T := TX0) (N := 5) hx hb hts in0 hown hG.1 hP 0 rfl rfl 2 (by decide) (hts (.fieldLink RX0 18 "ChairCane$Acts" "canes" "[I") (by decide +kernel)) (fun _ h9 => h9) rfl dX0_keep_61 ?_
        refine lv_aload_n hx hb dX0_keep_64 rfl (lv_at hl 2 rfl) ?_
        refine va_get (D := D) (ci := 0) (v := .int ac_next) (C := RX0) (T := TX0) (N := 5) hx hb hts in0 hown hG.1 hP 0 rfl rfl 3 (by decide) (hts (.fieldLink RX0 21 "ChairCane$Acts" "next" "I") (by decide +kernel)) (fun _ h9 => h9) rfl dX0_keep_65 ?_
        refine lv_iload_n hx hb dX0_keep_68 rfl (lv_at hl 1 rfl) ?_
        refine va_iast hx hb hG.1 hP hD hS 3 0 rfl rfl (vp_in_iff.mpr ⟨by omega, by omega⟩) dX0_keep_69 (fun H locs hP hD hS => ?_)
        obtain ⟨f7, ef7⟩ : ∃ f, f = upd ac_rcanes (Int32.toNatClampNeg ac_next) (L2_5) := ⟨_, rfl⟩
        rw [← ef7] at hP hD
        have hP : va_P D vwCl ([(ac, .inr (0, [.ref ac_aseats, .ref ac_aminutes, .ref ac_acanes, .int ac_next, .int ac_kept])), (ac_aseats, hcI k 20 f3), (ac_aminutes, hcI k 20 f4), (ac_acanes, hcI k 20 f7), (r, .inr (2, [.int r_told, .int r_strands, .int r_chairs, .int r_sitters, .ref r_atoldCane, .ref r_aheight, .ref r_astrandOf, .ref r_achairOf, .ref r_aweight, .ref r_acane, .int r_sits, .int r_dropped, .int r_minute, .ref r_aload, .ref r_aheads, .int r_held, .int r_heldDown])), (r_acane, hcI k 4 r_rcane)]) H := hP
        have hD : va_D A ([(ac, .inr (0, [.ref ac_aseats, .ref ac_aminutes, .ref ac_acanes, .int ac_next, .int ac_kept])), (ac_aseats, hcI k 20 f3), (ac_aminutes, hcI k 20 f4), (ac_acanes, hcI k 20 f7), (r, .inr (2, [.int r_told, .int r_strands, .int r_chairs, .int r_sitters, .ref r_atoldCane, .ref r_aheight, .ref r_astrandOf, .ref r_achairOf, .ref r_aweight, .ref r_acane, .int r_sits, .int r_dropped, .int r_minute, .ref r_aload, .ref r_aheads, .int r_held, .int r_heldDown])), (r_acane, hcI k 4 r_rcane)]) := hD
        refine lv_aload_n hx hb dX0_keep_70 rfl (lv_at hl 2 rfl) ?_
        refine lv_aload_n hx hb dX0_keep_71 rfl (lv_at hl 2 rfl) ?_
        refine va_get (D := D) (ci := 0) (v := .int ac_next) (C := RX0) (T := TX0) (N := 5) hx hb hts in0 hown hG.1 hP 0 rfl rfl 3 (by decide) (hts (.fieldLink RX0 21 "ChairCane$Acts" "next" "I") (by decide +kernel)) (fun _ h9 => h9) rfl dX0_keep_72 ?_
        refine lv_iconst (v := 1) hx hb dX0_keep_75 (by decide) ?_
        refine lv_iadd hx hb dX0_keep_76 ?_
        refine lv_topi (fun z8 ez8 => ?_)
        have tz8 : z8.toInt = ac_next.toInt + 1 := ai_add rfl (by decide) ez8 (by omega) (by omega)
        refine lv_bipush (v := 20) hx hb dX0_keep_77 (by decide) ?_
        refine lv_irem hx hb dX0_keep_79 (by decide) ?_
        refine lv_topi (fun z9 ez9 => ?_)
        have bz9 : iv (0) (19) z9 := ai_rem 20 (by omega) (by decide) ez9
        have bz9_l := bz9.1
        have bz9_u := bz9.2
        refine va_put (D := D) (ci := 0) (v := .int z9) (C := RX0) (T := TX0) (N := 5) hx hb hts in0 tyX0 tyX0_ok nmX0 hown hG.1 hP hD hS 0 rfl rfl 3 (by decide) (hts (.fieldLink RX0 21 "ChairCane$Acts" "next" "I") (by decide +kernel)) (fun _ h9 => h9) rfl (tyX0_ok 3 (by decide)) rfl rfl (Nat.le_of_ble_eq_true rfl) dX0_keep_80 (fun H locs hP hD hS => ?_)
        have hP : va_P D vwCl ([(ac, .inr (0, [.ref ac_aseats, .ref ac_aminutes, .ref ac_acanes, .int z9, .int ac_kept])), (ac_aseats, hcI k 20 f3), (ac_aminutes, hcI k 20 f4), (ac_acanes, hcI k 20 f7), (r, .inr (2, [.int r_told, .int r_strands, .int r_chairs, .int r_sitters, .ref r_atoldCane, .ref r_aheight, .ref r_astrandOf, .ref r_achairOf, .ref r_aweight, .ref r_acane, .int r_sits, .int r_dropped, .int r_minute, .ref r_aload, .ref r_aheads, .int r_held, .int r_heldDown])), (r_acane, hcI k 4 r_rcane)]) H := hP
        have hD : va_D A ([(ac, .inr (0, [.ref ac_aseats, .ref ac_aminutes, .ref ac_acanes, .int z9, .int ac_kept])), (ac_aseats, hcI k 20 f3), (ac_aminutes, hcI k 20 f4), (ac_acanes, hcI k 20 f7), (r, .inr (2, [.int r_told, .int r_strands, .int r_chairs, .int r_sitters, .ref r_atoldCane, .ref r_aheight, .ref r_astrandOf, .ref r_achairOf, .ref r_aweight, .ref r_acane, .int r_sits, .int r_dropped, .int r_minute, .ref r_aload, .ref r_aheads, .int r_held, .int r_heldDown])), (r_acane, hcI k 4 r_rcane)]) := hD
        refine lv_aload_n hx hb dX0_keep_83 rfl (lv_at hl 2 rfl) ?_
        refine lv_aload_n hx hb dX0_keep_84 rfl (lv_at hl 2 rfl) ?_
        refine va_get (D := D) (ci := 0) (v := .int ac_kept) (C := RX0) (T := TX0) (N := 5) hx hb hts in0 hown hG.1 hP 0 rfl rfl 4 (by decide) (hts (.fieldLink RX0 25 "ChairCane$Acts" "kept" "I") (by decide +kernel)) (fun _ h9 => h9) rfl dX0_keep_85 ?_
        refine lv_iconst (v := 1) hx hb dX0_keep_88 (by decide) ?_
        refine lv_iadd hx hb dX0_keep_89 ?_
        refine lv_topi (fun z10 ez10 => ?_)
        refine lv_bipush (v := 20) hx hb dX0_keep_90 (by decide) ?_
        refine va_mmin hx hb (by rw [hml]; exact hl.1.symm) hown (hts (.methodLink RX0 48 Lib.Math.min.name) (by decide +kernel)) (hts (.static Lib.Math.min.name) (by decide +kernel)) (hts (.initialized "java/lang/Math") (by decide +kernel)) (hts (.code Lib.Math.min.name Lib.Math.min.code 2 (some .int)) (by decide +kernel)) (Nat.le_of_ble_eq_true rfl) (Nat.le_of_ble_eq_true rfl) (Nat.le_of_ble_eq_true rfl) (Nat.le_of_ble_eq_true rfl) dX0_keep_92 ?_
        refine lv_topi (fun z11 ez11 => ?_)
        have tz11 := ai_min (a := z10.toInt) (b := 20) rfl (by decide) ez11
        refine va_put (D := D) (ci := 0) (v := .int z11) (C := RX0) (T := TX0) (N := 5) hx hb hts in0 tyX0 tyX0_ok nmX0 hown hG.1 hP hD hS 0 rfl rfl 4 (by decide) (hts (.fieldLink RX0 25 "ChairCane$Acts" "kept" "I") (by decide +kernel)) (fun _ h9 => h9) rfl (tyX0_ok 4 (by decide)) rfl rfl (Nat.le_of_ble_eq_true rfl) dX0_keep_95 (fun H locs hP hD hS => ?_)
        have hP : va_P D vwCl ([(ac, .inr (0, [.ref ac_aseats, .ref ac_aminutes, .ref ac_acanes, .int z9, .int z11])), (ac_aseats, hcI k 20 f3), (ac_aminutes, hcI k 20 f4), (ac_acanes, hcI k 20 f7), (r, .inr (2, [.int r_told, .int r_strands, .int r_chairs, .int r_sitters, .ref r_atoldCane, .ref r_aheight, .ref r_astrandOf, .ref r_achairOf, .ref r_aweight, .ref r_acane, .int r_sits, .int r_dropped, .int r_minute, .ref r_aload, .ref r_aheads, .int r_held, .int r_heldDown])), (r_acane, hcI k 4 r_rcane)]) H := hP
        have hD : va_D A ([(ac, .inr (0, [.ref ac_aseats, .ref ac_aminutes, .ref ac_acanes, .int z9, .int z11])), (ac_aseats, hcI k 20 f3), (ac_aminutes, hcI k 20 f4), (ac_acanes, hcI k 20 f7), (r, .inr (2, [.int r_told, .int r_strands, .int r_chairs, .int r_sitters, .ref r_atoldCane, .ref r_aheight, .ref r_astrandOf, .ref r_achairOf, .ref r_aweight, .ref r_acane, .int r_sits, .int r_dropped, .int r_minute, .ref r_aload, .ref r_aheads, .int r_held, .int r_heldDown])), (r_acane, hcI k 4 r_rcane)]) := hD
        exact hc_endV hx hb hr hlocks (z9, z11, f3, f4, f7) ((show iv (0) (19) z9 from ⟨by omega, by omega⟩)) hP hD hS dX0_keep_98
      · have fc6 := cx_lt_f (a := L3_5.toInt) (b := 0) rfl (by decide) c6
        refine lv_iload_n hx hb dX0_keep_42 rfl (lv_at hl 1 rfl) ?_
        refine lv_bipush (v := 7) hx hb dX0_keep_43 (by decide) ?_
        refine lv_ishl hx hb dX0_keep_45 ?_
        refine lv_topi (fun z12 ez12 => ?_)
        refine lv_aload_n hx hb dX0_keep_46 rfl (lv_at hl 3 rfl) ?_
        refine va_get (D := D) (ci := 2) (v := .ref r_acane) (C := RX3) (T := TX3) (N := 17) hx hb hts in3 hown hG.1 hP 4 rfl rfl 9 (by decide) (hts (.fieldLink RX0 45 "ChairCane$Room" "cane" "[I") (by decide +kernel)) (fun _ h9 => h9) rfl dX0_keep_47 ?_
        refine lv_iload_n hx hb dX0_keep_50 rfl (lv_at hl 0 rfl) ?_
        refine va_iald hx hb hG.1 hP 5 0 rfl rfl (vp_in_iff.mpr ⟨by omega, by omega⟩) dX0_keep_51 ?_
        refine lv_topi (fun z13 ez13 => ?_)
        refine lv_ior hx hb dX0_keep_52 ?_
        refine lv_topi (fun z14 ez14 => ?_)
        refine lv_istore_n (lv' := [(2, .int z14), (3, .int L3_5), (0, .ref ac), (1, .ref r)]) hx hb dX0_keep_53 rfl hl (by decide) rfl (fun ls hl => ?_)
        obtain ⟨z15, ez15⟩ : ∃ z : Int32, z = L3_5 + (-1) := ⟨_, rfl⟩
        have tz15 : z15.toInt = L3_5.toInt + (-1) := ai_add rfl (by decide) ez15 (by omega) (by omega)
        refine lv_iinc (v := z15) (lv' := [(3, .int z15), (2, .int z14), (0, .ref ac), (1, .ref r)]) hx hb dX0_keep_54 hl (k := 1) rfl (by rw [ez15]; rfl) (by decide) rfl (fun ls hl => ?_)
        refine lv_goto (tgt := 38) hx hb dX0_keep_57 (by decide) ?_
        exact ih5 z14 z15 ⟨by omega, by omega⟩ (by omega) _ _ _ hP hD hS (lv_sub hl [0, 1, 2, 3] rfl)
  exact loop5 100 0 3 (iv_lit (by decide) (by decide)) (by have q0 : (0 : Int32).toInt = 0 := (by decide); have q1 : (3 : Int32).toInt = 3 := (by decide); omega) _ _ _ hP hD hS hl
set_option maxHeartbeats 4000000 in
set_option maxRecDepth 100000 in
theorem i_X0_takeBack (l : Launch) (D : va_G) (k : Nat → ClassId) (sz : Nat) (ac : Nat) (ac_aseats : Nat) (ac_aminutes : Nat) (ac_acanes : Nat) (ac_next : Int32) (ac_kept : Int32) (ac_rseats : Nat → Int32) (ac_rminutes : Nat → Int32) (ac_rcanes : Nat → Int32) (r : Nat) (r_told : Int32) (r_strands : Int32) (r_chairs : Int32) (r_sitters : Int32) (r_atoldCane : Nat) (r_aheight : Nat) (r_astrandOf : Nat) (r_achairOf : Nat) (r_aweight : Nat) (r_acane : Nat) (r_sits : Int32) (r_dropped : Int32) (r_minute : Int32) (r_aload : Nat) (r_aheads : Nat) (r_held : Int32) (r_heldDown : Int32) (r_rstrandOf : Nat → Int32) (r_rchairOf : Nat → Int32) (r_rweight : Nat → Int32) (r_rcane : Nat → Int32) (r_rload : Nat → Int32) (r_rheads : Nat → Int32) (h_ac_next : iv (0) (19) ac_next) (h_r_told : iv (0) (1) r_told) (h_r_strands : iv (0) (4) r_strands) (h_r_chairs : iv (0) (8) r_chairs) (h_r_sitters : iv (0) (8) r_sitters) (h_r_rstrandOf : rowIn (0) (3) r_rstrandOf) (h_r_rchairOf : rowIn (0) (7) r_rchairOf) : CtV l yX0_takeBack wsX0_takeBack (rmK 3 0 0) [.ref ac, .ref r] D k sz ([(ac, .inr (0, [.ref ac_aseats, .ref ac_aminutes, .ref ac_acanes, .int ac_next, .int ac_kept])), (ac_aseats, hcI k 20 ac_rseats), (ac_aminutes, hcI k 20 ac_rminutes), (ac_acanes, hcI k 20 ac_rcanes), (r, .inr (2, [.int r_told, .int r_strands, .int r_chairs, .int r_sitters, .ref r_atoldCane, .ref r_aheight, .ref r_astrandOf, .ref r_achairOf, .ref r_aweight, .ref r_acane, .int r_sits, .int r_dropped, .int r_minute, .ref r_aload, .ref r_aheads, .int r_held, .int r_heldDown])), (r_astrandOf, hcI k 8 r_rstrandOf), (r_achairOf, hcI k 8 r_rchairOf), (r_aweight, hcI k 8 r_rweight), (r_acane, hcI k 4 r_rcane), (r_aload, hcI k 4 r_rload), (r_aheads, hcI k 4 r_rheads)]) (fun u : (Int32) × (Int32) × (Int32) × (Int32) × (Int32) × (Nat → Int32) × (Nat → Int32) × (Nat → Int32) => iv (0) (19) (u.1)) (fun u : (Int32) × (Int32) × (Int32) × (Int32) × (Int32) × (Nat → Int32) × (Nat → Int32) × (Nat → Int32) => [(ac, .inr (0, [.ref ac_aseats, .ref ac_aminutes, .ref ac_acanes, .int (u.1), .int (u.2.1)])), (ac_aseats, hcI k 20 ac_rseats), (ac_aminutes, hcI k 20 ac_rminutes), (ac_acanes, hcI k 20 ac_rcanes), (r, .inr (2, [.int r_told, .int r_strands, .int r_chairs, .int r_sitters, .ref r_atoldCane, .ref r_aheight, .ref r_astrandOf, .ref r_achairOf, .ref r_aweight, .ref r_acane, .int (u.2.2.1), .int (u.2.2.2.1), .int (u.2.2.2.2.1), .ref r_aload, .ref r_aheads, .int r_held, .int r_heldDown])), (r_astrandOf, hcI k 8 r_rstrandOf), (r_achairOf, hcI k 8 r_rchairOf), (r_aweight, hcI k 8 r_rweight), (r_acane, hcI k 4 (u.2.2.2.2.2.1)), (r_aload, hcI k 4 (u.2.2.2.2.2.2.1)), (r_aheads, hcI k 4 (u.2.2.2.2.2.2.2))]) 0 0 := by
  have h_ac_next_l := h_ac_next.1
  have h_ac_next_u := h_ac_next.2
  have h_r_told_l := h_r_told.1
  have h_r_told_u := h_r_told.2
  have h_r_strands_l := h_r_strands.1
  have h_r_strands_u := h_r_strands.2
  have h_r_chairs_l := h_r_chairs.1
  have h_r_chairs_u := h_r_chairs.2
  have h_r_sitters_l := h_r_sitters.1
  have h_r_sitters_u := h_r_sitters.2
  refine CtV.mk (cc := cX0_takeBack) (maxL := 3) (ret := none) (by decide) rfl (Nat.le_of_ble_eq_true rfl) ?_
  intro p e s m below meth c A ls E hP hD hS hl
  obtain ⟨hx, hb, hr, hml, hown, hts, hlocks, hin, hG, hA⟩ := E
  have hown : s.vm.findClass RX0 = some m.cls := hown
  have in0 : ∀ w ∈ u_ws RX0 TX0 5, w ∈ wsX0_takeBack := fun _ h => List.mem_cons_of_mem _ (List.mem_append_left _ (List.mem_append_right _ h))
  have in3 : ∀ w ∈ u_ws RX3 TX3 17, w ∈ wsX0_takeBack := fun _ h => List.mem_cons_of_mem _ (List.mem_append_right _ h)
  have hl : lv_has ls 3 [(0, .ref ac), (1, .ref r)] := hl
  refine lv_aload_n hx hb dX0_takeBack_0 rfl (lv_at hl 0 rfl) ?_
  refine va_get (D := D) (ci := 0) (v := .int ac_kept) (C := RX0) (T := TX0) (N := 5) hx hb hts in0 hown hG.1 hP 0 rfl rfl 4 (by decide) (hts (.fieldLink RX0 25 "ChairCane$Acts" "kept" "I") (by decide +kernel)) (fun _ h9 => h9) rfl dX0_takeBack_1 ?_
  refine lv_if_gt (tgt := 8) hx hb dX0_takeBack_4 (by decide) (fun c1 => ?_) (fun c1 => ?_)
  · have fc1 := cx_gt_t (a := ac_kept.toInt) (b := 0) rfl (by decide) c1
    refine lv_aload_n hx hb dX0_takeBack_8 rfl (lv_at hl 0 rfl) ?_
    refine lv_dup hx hb dX0_takeBack_9 rfl ?_
    refine va_get (D := D) (ci := 0) (v := .int ac_kept) (C := RX0) (T := TX0) (N := 5) hx hb hts in0 hown hG.1 hP 0 rfl rfl 4 (by decide) (hts (.fieldLink RX0 25 "ChairCane$Acts" "kept" "I") (by decide +kernel)) (fun _ h9 => h9) rfl dX0_takeBack_10 ?_
    refine lv_iconst (v := 1) hx hb dX0_takeBack_13 (by decide) ?_
    refine lv_isub hx hb dX0_takeBack_14 ?_
    refine lv_topi (fun z2 ez2 => ?_)
    refine va_put (D := D) (ci := 0) (v := .int z2) (C := RX0) (T := TX0) (N := 5) hx hb hts in0 tyX0 tyX0_ok nmX0 hown hG.1 hP hD hS 0 rfl rfl 4 (by decide) (hts (.fieldLink RX0 25 "ChairCane$Acts" "kept" "I") (by decide +kernel)) (fun _ h9 => h9) rfl (tyX0_ok 4 (by decide)) rfl rfl (Nat.le_of_ble_eq_true rfl) dX0_takeBack_15 (fun H locs hP hD hS => ?_)
    have hP : va_P D vwCl ([(ac, .inr (0, [.ref ac_aseats, .ref ac_aminutes, .ref ac_acanes, .int ac_next, .int z2])), (ac_aseats, hcI k 20 ac_rseats), (ac_aminutes, hcI k 20 ac_rminutes), (ac_acanes, hcI k 20 ac_rcanes), (r, .inr (2, [.int r_told, .int r_strands, .int r_chairs, .int r_sitters, .ref r_atoldCane, .ref r_aheight, .ref r_astrandOf, .ref r_achairOf, .ref r_aweight, .ref r_acane, .int r_sits, .int r_dropped, .int r_minute, .ref r_aload, .ref r_aheads, .int r_held, .int r_heldDown])), (r_astrandOf, hcI k 8 r_rstrandOf), (r_achairOf, hcI k 8 r_rchairOf), (r_aweight, hcI k 8 r_rweight), (r_acane, hcI k 4 r_rcane), (r_aload, hcI k 4 r_rload), (r_aheads, hcI k 4 r_rheads)]) H := hP
    have hD : va_D A ([(ac, .inr (0, [.ref ac_aseats, .ref ac_aminutes, .ref ac_acanes, .int ac_next, .int z2])), (ac_aseats, hcI k 20 ac_rseats), (ac_aminutes, hcI k 20 ac_rminutes), (ac_acanes, hcI k 20 ac_rcanes), (r, .inr (2, [.int r_told, .int r_strands, .int r_chairs, .int r_sitters, .ref r_atoldCane, .ref r_aheight, .ref r_astrandOf, .ref r_achairOf, .ref r_aweight, .ref r_acane, .int r_sits, .int r_dropped, .int r_minute, .ref r_aload, .ref r_aheads, .int r_held, .int r_heldDown])), (r_astrandOf, hcI k 8 r_rstrandOf), (r_achairOf, hcI k 8 r_rchairOf), (r_aweight, hcI k 8 r_rweight), (r_acane, hcI k 4 r_rcane), (r_aload, hcI k 4 r_rload), (r_aheads, hcI k 4 r_rheads)]) := hD
    refine lv_aload_n hx hb dX0_takeBack_18 rfl (lv_at hl 0 rfl) ?_
    refine lv_aload_n hx hb dX0_takeBack_19 rfl (lv_at hl 0 rfl) ?_
    refine va_get (D := D) (ci := 0) (v := .int ac_next) (C := RX0) (T := TX0) (N := 5) hx hb hts in0 hown hG.1 hP 0 rfl rfl 3 (by decide) (hts (.fieldLink RX0 21 "ChairCane$Acts" "next" "I") (by decide +kernel)) (fun _ h9 => h9) rfl dX0_takeBack_20 ?_
    refine lv_bipush (v := 20) hx hb dX0_takeBack_23 (by decide) ?_
    refine lv_iadd hx hb dX0_takeBack_25 ?_
    refine lv_topi (fun z3 ez3 => ?_)
    have tz3 : z3.toInt = ac_next.toInt + 20 := ai_add rfl (by decide) ez3 (by omega) (by omega)
    refine lv_iconst (v := 1) hx hb dX0_takeBack_26 (by decide) ?_
    refine lv_isub hx hb dX0_takeBack_27 ?_
    refine lv_topi (fun z4 ez4 => ?_)
    have tz4 : z4.toInt = z3.toInt - 1 := ai_sub rfl (by decide) ez4 (by omega) (by omega)
    refine lv_bipush (v := 20) hx hb dX0_takeBack_28 (by decide) ?_
    refine lv_irem hx hb dX0_takeBack_30 (by decide) ?_
    refine lv_topi (fun z5 ez5 => ?_)
    have bz5 : iv (0) (19) z5 := ai_rem 20 (by omega) (by decide) ez5
    have bz5_l := bz5.1
    have bz5_u := bz5.2
    refine va_put (D := D) (ci := 0) (v := .int z5) (C := RX0) (T := TX0) (N := 5) hx hb hts in0 tyX0 tyX0_ok nmX0 hown hG.1 hP hD hS 0 rfl rfl 3 (by decide) (hts (.fieldLink RX0 21 "ChairCane$Acts" "next" "I") (by decide +kernel)) (fun _ h9 => h9) rfl (tyX0_ok 3 (by decide)) rfl rfl (Nat.le_of_ble_eq_true rfl) dX0_takeBack_31 (fun H locs hP hD hS => ?_)
    have hP : va_P D vwCl ([(ac, .inr (0, [.ref ac_aseats, .ref ac_aminutes, .ref ac_acanes, .int z5, .int z2])), (ac_aseats, hcI k 20 ac_rseats), (ac_aminutes, hcI k 20 ac_rminutes), (ac_acanes, hcI k 20 ac_rcanes), (r, .inr (2, [.int r_told, .int r_strands, .int r_chairs, .int r_sitters, .ref r_atoldCane, .ref r_aheight, .ref r_astrandOf, .ref r_achairOf, .ref r_aweight, .ref r_acane, .int r_sits, .int r_dropped, .int r_minute, .ref r_aload, .ref r_aheads, .int r_held, .int r_heldDown])), (r_astrandOf, hcI k 8 r_rstrandOf), (r_achairOf, hcI k 8 r_rchairOf), (r_aweight, hcI k 8 r_rweight), (r_acane, hcI k 4 r_rcane), (r_aload, hcI k 4 r_rload), (r_aheads, hcI k 4 r_rheads)]) H := hP
    have hD : va_D A ([(ac, .inr (0, [.ref ac_aseats, .ref ac_aminutes, .ref ac_acanes, .int z5, .int z2])), (ac_aseats, hcI k 20 ac_rseats), (ac_aminutes, hcI k 20 ac_rminutes), (ac_acanes, hcI k 20 ac_rcanes), (r, .inr (2, [.int r_told, .int r_strands, .int r_chairs, .int r_sitters, .ref r_atoldCane, .ref r_aheight, .ref r_astrandOf, .ref r_achairOf, .ref r_aweight, .ref r_acane, .int r_sits, .int r_dropped, .int r_minute, .ref r_aload, .ref r_aheads, .int r_held, .int r_heldDown])), (r_astrandOf, hcI k 8 r_rstrandOf), (r_achairOf, hcI k 8 r_rchairOf), (r_aweight, hcI k 8 r_rweight), (r_acane, hcI k 4 r_rcane), (r_aload, hcI k 4 r_rload), (r_aheads, hcI k 4 r_rheads)]) := hD
    refine lv_aload_n hx hb dX0_takeBack_34 rfl (lv_at hl 1 rfl) ?_
    refine lv_aload_n hx hb dX0_takeBack_35 rfl (lv_at hl 0 rfl) ?_
    refine va_get (D := D) (ci := 0) (v := .ref ac_aseats) (C := RX0) (T := TX0) (N := 5) hx hb hts in0 hown hG.1 hP 0 rfl rfl 0 (by decide) (hts (.fieldLink RX0 9 "ChairCane$Acts" "seats" "[I") (by decide +kernel)) (fun _ h9 => h9) rfl dX0_takeBack_36 ?_
    refine lv_aload_n hx hb dX0_takeBack_39 rfl (lv_at hl 0 rfl) ?_
    refine va_get (D := D) (ci := 0) (v := .int z5) (C := RX0) (T := TX0) (N := 5) hx hb hts in0 hown hG.1 hP 0 rfl rfl 3 (by decide) (hts (.fieldLink RX0 21 "ChairCane$Acts" "next" "I") (by decide +kernel)) (fun _ h9 => h9) rfl dX0_takeBack_40 ?_
    refine va_iald hx hb hG.1 hP 1 0 rfl rfl (vp_in_iff.mpr ⟨by omega, by omega⟩) dX0_takeBack_43 ?_
    refine lv_topi (fun z6 ez6 => ?_)
    refine lv_sipush (v := 255) hx hb dX0_takeBack_44 (by decide) ?_
    refine lv_iand hx hb dX0_takeBack_47 ?_
    refine lv_topi (fun z7 ez7 => ?_)
    have bz7 : iv (0) (255) z7 := ai_mask 8 (by decide) (by decide) ez7
    have bz7_l := bz7.1
    have bz7_u := bz7.2
    refine va_put (D := D) (ci := 2) (v := .int z7) (C := RX3) (T := TX3) (N := 17) hx hb hts in3 tyX3 tyX3_ok nmX3 hown hG.1 hP hD hS 4 rfl rfl 10 (by decide) (hts (.fieldLink RX0 34 "ChairCane$Room" "sits" "I") (by decide +kernel)) (fun _ h9 => h9) rfl (tyX3_ok 10 (by decide)) rfl rfl (Nat.le_of_ble_eq_true rfl) dX0_takeBack_48 (fun H locs hP hD hS => ?_)
    have hP : va_P D vwCl ([(ac, .inr (0, [.ref ac_aseats, .ref ac_aminutes, .ref ac_acanes, .int z5, .int z2])), (ac_aseats, hcI k 20 ac_rseats), (ac_aminutes, hcI k 20 ac_rminutes), (ac_acanes, hcI k 20 ac_rcanes), (r, .inr (2, [.int r_told, .int r_strands, .int r_chairs, .int r_sitters, .ref r_atoldCane, .ref r_aheight, .ref r_astrandOf, .ref r_achairOf, .ref r_aweight, .ref r_acane, .int z7, .int r_dropped, .int r_minute, .ref r_aload, .ref r_aheads, .int r_held, .int r_heldDown])), (r_astrandOf, hcI k 8 r_rstrandOf), (r_achairOf, hcI k 8 r_rchairOf), (r_aweight, hcI k 8 r_rweight), (r_acane, hcI k 4 r_rcane), (r_aload, hcI k 4 r_rload), (r_aheads, hcI k 4 r_rheads)]) H := hP
    have hD : va_D A ([(ac, .inr (0, [.ref ac_aseats, .ref ac_aminutes, .ref ac_acanes, .int z5, .int z2])), (ac_aseats, hcI k 20 ac_rseats), (ac_aminutes, hcI k 20 ac_rminutes), (ac_acanes, hcI k 20 ac_rcanes), (r, .inr (2, [.int r_told, .int r_strands, .int r_chairs, .int r_sitters, .ref r_atoldCane, .ref r_aheight, .ref r_astrandOf, .ref r_achairOf, .ref r_aweight, .ref r_acane, .int z7, .int r_dropped, .int r_minute, .ref r_aload, .ref r_aheads, .int r_held, .int r_heldDown])), (r_astrandOf, hcI k 8 r_rstrandOf), (r_achairOf, hcI k 8 r_rchairOf), (r_aweight, hcI k 8 r_rweight), (r_acane, hcI k 4 r_rcane), (r_aload, hcI k 4 r_rload), (r_aheads, hcI k 4 r_rheads)]) := hD
    refine lv_aload_n hx hb dX0_takeBack_51 rfl (lv_at hl 1 rfl) ?_
    refine lv_aload_n hx hb dX0_takeBack_52 rfl (lv_at hl 0 rfl) ?_
    refine va_get (D := D) (ci := 0) (v := .ref ac_aseats) (C := RX0) (T := TX0) (N := 5) hx hb hts in0 hown hG.1 hP 0 rfl rfl 0 (by decide) (hts (.fieldLink RX0 9 "ChairCane$Acts" "seats" "[I") (by decide +kernel)) (fun _ h9 => h9) rfl dX0_takeBack_53 ?_
    refine lv_aload_n hx hb dX0_takeBack_56 rfl (lv_at hl 0 rfl) ?_
    refine va_get (D := D) (ci := 0) (v := .int z5) (C := RX0) (T := TX0) (N := 5) hx hb hts in0 hown hG.1 hP 0 rfl rfl 3 (by decide) (hts (.fieldLink RX0 21 "ChairCane$Acts" "next" "I") (by decide +kernel)) (fun _ h9 => h9) rfl dX0_takeBack_57 ?_
    refine va_iald hx hb hG.1 hP 1 0 rfl rfl (vp_in_iff.mpr ⟨by omega, by omega⟩) dX0_takeBack_60 ?_
    refine hc_is (z := z6) ez6.symm ?_
    refine lv_bipush (v := 8) hx hb dX0_takeBack_61 (by decide) ?_
    refine lv_ishr hx hb dX0_takeBack_63 ?_
    refine lv_topi (fun z8 ez8 => ?_)
    refine va_put (D := D) (ci := 2) (v := .int z8) (C := RX3) (T := TX3) (N := 17) hx hb hts in3 tyX3 tyX3_ok nmX3 hown hG.1 hP hD hS 4 rfl rfl 11 (by decide) (hts (.fieldLink RX0 39 "ChairCane$Room" "dropped" "I") (by decide +kernel)) (fun _ h9 => h9) rfl (tyX3_ok 11 (by decide)) rfl rfl (Nat.le_of_ble_eq_true rfl) dX0_takeBack_64 (fun H locs hP hD hS => ?_)
    have hP : va_P D vwCl ([(ac, .inr (0, [.ref ac_aseats, .ref ac_aminutes, .ref ac_acanes, .int z5, .int z2])), (ac_aseats, hcI k 20 ac_rseats), (ac_aminutes, hcI k 20 ac_rminutes), (ac_acanes, hcI k 20 ac_rcanes), (r, .inr (2, [.int r_told, .int r_strands, .int r_chairs, .int r_sitters, .ref r_atoldCane, .ref r_aheight, .ref r_astrandOf, .ref r_achairOf, .ref r_aweight, .ref r_acane, .int z7, .int z8, .int r_minute, .ref r_aload, .ref r_aheads, .int r_held, .int r_heldDown])), (r_astrandOf, hcI k 8 r_rstrandOf), (r_achairOf, hcI k 8 r_rchairOf), (r_aweight, hcI k 8 r_rweight), (r_acane, hcI k 4 r_rcane), (r_aload, hcI k 4 r_rload), (r_aheads, hcI k 4 r_rheads)]) H := hP
    have hD : va_D A ([(ac, .inr (0, [.ref ac_aseats, .ref ac_aminutes, .ref ac_acanes, .int z5, .int z2])), (ac_aseats, hcI k 20 ac_rseats), (ac_aminutes, hcI k 20 ac_rminutes), (ac_acanes, hcI k 20 ac_rcanes), (r, .inr (2, [.int r_told, .int r_strands, .int r_chairs, .int r_sitters, .ref r_atoldCane, .ref r_aheight, .ref r_astrandOf, .ref r_achairOf, .ref r_aweight, .ref r_acane, .int z7, .int z8, .int r_minute, .ref r_aload, .ref r_aheads, .int r_held, .int r_heldDown])), (r_astrandOf, hcI k 8 r_rstrandOf), (r_achairOf, hcI k 8 r_rchairOf), (r_aweight, hcI k 8 r_rweight), (r_acane, hcI k 4 r_rcane), (r_aload, hcI k 4 r_rload), (r_aheads, hcI k 4 r_rheads)]) := hD
    refine lv_aload_n hx hb dX0_takeBack_67 rfl (lv_at hl 1 rfl) ?_
    refine lv_aload_n hx hb dX0_takeBack_68 rfl (lv_at hl 0 rfl) ?_
    refine va_get (D := D) (ci := 0) (v := .ref ac_aminutes) (C := RX0) (T := TX0) (N := 5) hx hb hts in0 hown hG.1 hP 0 rfl rfl 1 (by decide) (hts (.fieldLink RX0 15 "ChairCane$Acts" "minutes" "[I") (by decide +kernel)) (fun _ h9 => h9) rfl dX0_takeBack_69 ?_
    refine lv_aload_n hx hb dX0_takeBack_72 rfl (lv_at hl 0 rfl) ?_
    refine va_get (D := D) (ci := 0) (v := .int z5) (C := RX0) (T := TX0) (N := 5) hx hb hts in0 hown hG.1 hP 0 rfl rfl 3 (by decide) (hts (.fieldLink RX0 21 "ChairCane$Acts" "next" "I") (by decide +kernel)) (fun _ h9 => h9) rfl dX0_takeBack_73 ?_
    refine va_iald hx hb hG.1 hP 2 0 rfl rfl (vp_in_iff.mpr ⟨by omega, by omega⟩) dX0_takeBack_76 ?_
    refine lv_topi (fun z9 ez9 => ?_)
    refine va_put (D := D) (ci := 2) (v := .int z9) (C := RX3) (T := TX3) (N := 17) hx hb hts in3 tyX3 tyX3_ok nmX3 hown hG.1 hP hD hS 4 rfl rfl 12 (by decide) (hts (.fieldLink RX0 42 "ChairCane$Room" "minute" "I") (by decide +kernel)) (fun _ h9 => h9) rfl (tyX3_ok 12 (by decide)) rfl rfl (Nat.le_of_ble_eq_true rfl) dX0_takeBack_77 (fun H locs hP hD hS => ?_)
    have hP : va_P D vwCl ([(ac, .inr (0, [.ref ac_aseats, .ref ac_aminutes, .ref ac_acanes, .int z5, .int z2])), (ac_aseats, hcI k 20 ac_rseats), (ac_aminutes, hcI k 20 ac_rminutes), (ac_acanes, hcI k 20 ac_rcanes), (r, .inr (2, [.int r_told, .int r_strands, .int r_chairs, .int r_sitters, .ref r_atoldCane, .ref r_aheight, .ref r_astrandOf, .ref r_achairOf, .ref r_aweight, .ref r_acane, .int z7, .int z8, .int z9, .ref r_aload, .ref r_aheads, .int r_held, .int r_heldDown])), (r_astrandOf, hcI k 8 r_rstrandOf), (r_achairOf, hcI k 8 r_rchairOf), (r_aweight, hcI k 8 r_rweight), (r_acane, hcI k 4 r_rcane), (r_aload, hcI k 4 r_rload), (r_aheads, hcI k 4 r_rheads)]) H := hP
    have hD : va_D A ([(ac, .inr (0, [.ref ac_aseats, .ref ac_aminutes, .ref ac_acanes, .int z5, .int z2])), (ac_aseats, hcI k 20 ac_rseats), (ac_aminutes, hcI k 20 ac_rminutes), (ac_acanes, hcI k 20 ac_rcanes), (r, .inr (2, [.int r_told, .int r_strands, .int r_chairs, .int r_sitters, .ref r_atoldCane, .ref r_aheight, .ref r_astrandOf, .ref r_achairOf, .ref r_aweight, .ref r_acane, .int z7, .int z8, .int z9, .ref r_aload, .ref r_aheads, .int r_held, .int r_heldDown])), (r_astrandOf, hcI k 8 r_rstrandOf), (r_achairOf, hcI k 8 r_rchairOf), (r_aweight, hcI k 8 r_rweight), (r_acane, hcI k 4 r_rcane), (r_aload, hcI k 4 r_rload), (r_aheads, hcI k 4 r_rheads)]) := hD
    refine lv_iconst (v := 0) hx hb dX0_takeBack_80 (by decide) ?_
    refine lv_istore_n (lv' := [(2, .int 0), (0, .ref ac), (1, .ref r)]) hx hb dX0_takeBack_81 rfl hl (by decide) rfl (fun ls hl => ?_)
    have loop10 : ∀ (fu : Nat) (L2_10 : Int32) (g_10r_acane : Nat → Int32), iv (0) (4) L2_10 → 4 - L2_10.toInt < (fu : Int) → ∀ (H : Heap) (locs : List Loc) (ls : Array Slot), va_P D vwCl ([(ac, .inr (0, [.ref ac_aseats, .ref ac_aminutes, .ref ac_acanes, .int z5, .int z2])), (ac_aseats, hcI k 20 ac_rseats), (ac_aminutes, hcI k 20 ac_rminutes), (ac_acanes, hcI k 20 ac_rcanes), (r, .inr (2, [.int r_told, .int r_strands, .int r_chairs, .int r_sitters, .ref r_atoldCane, .ref r_aheight, .ref r_astrandOf, .ref r_achairOf, .ref r_aweight, .ref r_acane, .int z7, .int z8, .int z9, .ref r_aload, .ref r_aheads, .int r_held, .int r_heldDown])), (r_astrandOf, hcI k 8 r_rstrandOf), (r_achairOf, hcI k 8 r_rchairOf), (r_aweight, hcI k 8 r_rweight), (r_acane, hcI k 4 g_10r_acane), (r_aload, hcI k 4 r_rload), (r_aheads, hcI k 4 r_rheads)]) H → va_D A ([(ac, .inr (0, [.ref ac_aseats, .ref ac_aminutes, .ref ac_acanes, .int z5, .int z2])), (ac_aseats, hcI k 20 ac_rseats), (ac_aminutes, hcI k 20 ac_rminutes), (ac_acanes, hcI k 20 ac_rcanes), (r, .inr (2, [.int r_told, .int r_strands, .int r_chairs, .int r_sitters, .ref r_atoldCane, .ref r_aheight, .ref r_astrandOf, .ref r_achairOf, .ref r_aweight, .ref r_acane, .int z7, .int z8, .int z9, .ref r_aload, .ref r_aheads, .int r_held, .int r_heldDown])), (r_astrandOf, hcI k 8 r_rstrandOf), (r_achairOf, hcI k 8 r_rchairOf), (r_aweight, hcI k 8 r_rweight), (r_acane, hcI k 4 g_10r_acane), (r_aload, hcI k 4 r_rload), (r_aheads, hcI k 4 r_rheads)]) → va_S A s.heap H locs → lv_has ls 3 [(2, .int L2_10), (0, .ref ac), (1, .ref r)] → W p l e (rmK 3 0 0) s m (List.toArray [.ref ac, .ref r]) below meth c H locs 0 0 (MQ below (va_Qv (fun u : (Int32) × (Int32) × (Int32) × (Int32) × (Int32) × (Nat → Int32) × (Nat → Int32) × (Nat → Int32) => iv (0) (19) (u.1)) (hcB D (fun u : (Int32) × (Int32) × (Int32) × (Int32) × (Int32) × (Nat → Int32) × (Nat → Int32) × (Nat → Int32) => [(ac, .inr (0, [.ref ac_aseats, .ref ac_aminutes, .ref ac_acanes, .int (u.1), .int (u.2.1)])), (ac_aseats, hcI k 20 ac_rseats), (ac_aminutes, hcI k 20 ac_rminutes), (ac_acanes, hcI k 20 ac_rcanes), (r, .inr (2, [.int r_told, .int r_strands, .int r_chairs, .int r_sitters, .ref r_atoldCane, .ref r_aheight, .ref r_astrandOf, .ref r_achairOf, .ref r_aweight, .ref r_acane, .int (u.2.2.1), .int (u.2.2.2.1), .int (u.2.2.2.2.1), .ref r_aload, .ref r_aheads, .int r_held, .int r_heldDown])), (r_astrandOf, hcI k 8 r_rstrandOf), (r_achairOf, hcI k 8 r_rchairOf), (r_aweight, hcI k 8 r_rweight), (r_acane, hcI k 4 (u.2.2.2.2.2.1)), (r_aload, hcI k 4 (u.2.2.2.2.2.2.1)), (r_aheads, hcI k 4 (u.2.2.2.2.2.2.2))]) A) A) (List.toArray [.ref ac, .ref r]) s 0 0 A) (F0 m 82 ls []) := by
      intro fu
      induction fu with
      | zero =>
        intro L2_10 g_10r_acane bL2_10 hm
        have bL2_10_l := bL2_10.1
        have bL2_10_u := bL2_10.2
        exact absurd hm (by omega)
      | succ fu ih10 =>
        intro L2_10 g_10r_acane bL2_10 hm H locs ls hP hD hS hl
        have bL2_10_l := bL2_10.1
        have bL2_10_u := bL2_10.2
        refine lv_iload_n hx hb dX0_takeBack_82 rfl (lv_at hl 0 rfl) ?_
        refine lv_iconst (v := 4) hx hb dX0_takeBack_83 (by decide) ?_
        refine lv_icmp_ge (tgt := 116) hx hb dX0_takeBack_84 (by decide) (fun c11 => ?_) (fun c11 => ?_)
        · have fc11 := cx_ge_t (a := L2_10.toInt) (b := 4) rfl (by decide) c11
          refine lv_aload_n hx hb dX0_takeBack_116 rfl (lv_at hl 2 rfl) ?_
          refine hc_Vv (As := []) (rest := []) (n := 0) (wr := [(ac, .inr (0, [.ref ac_aseats, .ref ac_aminutes, .ref ac_acanes, .int z5, .int z2])), (ac_aseats, hcI k 20 ac_rseats), (ac_aminutes, hcI k 20 ac_rminutes), (ac_acanes, hcI k 20 ac_rcanes), (r_acane, hcI k 4 g_10r_acane)]) hx hb hml hown hts hG hA hP hD hS hl.1 [4, 5, 6, 7, 9, 10] [0, 1, 2, 3, 8] (i_X3_weigh l D k _ r r_told r_strands r_chairs r_sitters r_atoldCane r_aheight r_astrandOf r_achairOf r_aweight r_acane z7 z8 z9 r_aload r_aheads r_held r_heldDown r_rstrandOf r_rchairOf r_rweight r_rload r_rheads ⟨by omega, by omega⟩ ⟨by omega, by omega⟩ ⟨by omega, by omega⟩ ⟨by omega, by omega⟩ h_r_rstrandOf h_r_rchairOf) (ci := 2) (q0 := 4) rfl rfl gX0_takeBack_X3_weigh rfl ⟨rfl, rfl, Nat.le_of_ble_eq_true rfl, Nat.le_of_ble_eq_true rfl⟩ (by decide +kernel) rfl rfl ⟨by decide, by decide, by decide⟩ ⟨rfl, rfl, Nat.le_of_ble_eq_true rfl, Nat.le_of_ble_eq_true rfl, Nat.le_of_ble_eq_true rfl⟩ dX0_takeBack_117 (fun u12 H locs hw hP hD hS => ?_)
          obtain ⟨w14, w15⟩ := u12
          have hP : va_P D vwCl ([(ac, .inr (0, [.ref ac_aseats, .ref ac_aminutes, .ref ac_acanes, .int z5, .int z2])), (ac_aseats, hcI k 20 ac_rseats), (ac_aminutes, hcI k 20 ac_rminutes), (ac_acanes, hcI k 20 ac_rcanes), (r_acane, hcI k 4 g_10r_acane), (r, .inr (2, [.int r_told, .int r_strands, .int r_chairs, .int r_sitters, .ref r_atoldCane, .ref r_aheight, .ref r_astrandOf, .ref r_achairOf, .ref r_aweight, .ref r_acane, .int z7, .int z8, .int z9, .ref r_aload, .ref r_aheads, .int r_held, .int r_heldDown])), (r_astrandOf, hcI k 8 r_rstrandOf), (r_achairOf, hcI k 8 r_rchairOf), (r_aweight, hcI k 8 r_rweight), (r_aload, hcI k 4 w14), (r_aheads, hcI k 4 w15)]) H := hP
          have hD : va_D A ([(ac, .inr (0, [.ref ac_aseats, .ref ac_aminutes, .ref ac_acanes, .int z5, .int z2])), (ac_aseats, hcI k 20 ac_rseats), (ac_aminutes, hcI k 20 ac_rminutes), (ac_acanes, hcI k 20 ac_rcanes), (r_acane, hcI k 4 g_10r_acane), (r, .inr (2, [.int r_told, .int r_strands, .int r_chairs, .int r_sitters, .ref r_atoldCane, .ref r_aheight, .ref r_astrandOf, .ref r_achairOf, .ref r_aweight, .ref r_acane, .int z7, .int z8, .int z9, .ref r_aload, .ref r_aheads, .int r_held, .int r_heldDown])), (r_astrandOf, hcI k 8 r_rstrandOf), (r_achairOf, hcI k 8 r_rchairOf), (r_aweight, hcI k 8 r_rweight), (r_aload, hcI k 4 w14), (r_aheads, hcI k 4 w15)]) := hD
          exact hc_endV hx hb hr hlocks (z5, z2, z7, z8, z9, g_10r_acane, w14, w15) ((show iv (0) (19) z5 from ⟨by omega, by omega⟩)) (hP.sub [0, 1, 2, 3, 5, 6, 7, 8, 4, 9, 10] rfl) (hD.sub [0, 1, 2, 3, 5, 6, 7, 8, 4, 9, 10] (by decide) rfl) hS dX0_takeBack_120
        · have fc11 := cx_ge_f (a := L2_10.toInt) (b := 4) rfl (by decide) c11
          refine lv_aload_n hx hb dX0_takeBack_87 rfl (lv_at hl 2 rfl) ?_
          refine va_get (D := D) (ci := 2) (v := .ref r_acane) (C := RX3) (T := TX3) (N := 17) hx hb hts in3 hown hG.1 hP 4 rfl rfl 9 (by decide) (hts (.fieldLink RX0 45 "ChairCane$Room" "cane" "[I") (by decide +kernel)) (fun _ h9 => h9) rfl dX0_takeBack_88 ?_
          refine lv_iload_n hx hb dX0_takeBack_91 rfl (lv_at hl 0 rfl) ?_
          refine lv_aload_n hx hb dX0_takeBack_92 rfl (lv_at hl 1 rfl) ?_
          refine va_get (D := D) (ci := 0) (v := .ref ac_acanes) (C := RX0) (T := TX0) (N := 5) hx hb hts in0 hown hG.1 hP 0 rfl rfl 2 (by decide) (hts (.fieldLink RX0 18 "ChairCane$Acts" "canes" "[I") (by decide +kernel)) (fun _ h9 => h9) rfl dX0_takeBack_93 ?_
          refine lv_aload_n hx hb dX0_takeBack_96 rfl (lv_at hl 1 rfl) ?_
          refine va_get (D := D) (ci := 0) (v := .int z5) (C := RX0) (T := TX0) (N := 5) hx hb hts in0 hown hG.1 hP 0 rfl rfl 3 (by decide) (hts (.fieldLink RX0 21 "ChairCane$Acts" "next" "I") (by decide +kernel)) (fun _ h9 => h9) rfl dX0_takeBack_97 ?_
          refine va_iald hx hb hG.1 hP 3 0 rfl rfl (vp_in_iff.mpr ⟨by omega, by omega⟩) dX0_takeBack_100 ?_
          refine lv_topi (fun z16 ez16 => ?_)
          refine lv_bipush (v := 7) hx hb dX0_takeBack_101 (by decide) ?_
          refine lv_iload_n hx hb dX0_takeBack_103 rfl (lv_at hl 0 rfl) ?_
          refine lv_imul hx hb dX0_takeBack_104 ?_
          refine lv_topi (fun z17 ez17 => ?_)
          have tz17 : z17.toInt = 7 * L2_10.toInt := ai_mul (by decide) rfl ez17 (by omega) (by omega)
          refine lv_ishr hx hb dX0_takeBack_105 ?_
          refine lv_topi (fun z18 ez18 => ?_)
          refine lv_bipush (v := 127) hx hb dX0_takeBack_106 (by decide) ?_
          refine lv_iand hx hb dX0_takeBack_108 ?_
          refine lv_topi (fun z19 ez19 => ?_)
          have bz19 : iv (0) (127) z19 := ai_mask 7 (by decide) (by decide) ez19
          have bz19_l := bz19.1
          have bz19_u := bz19.2
          refine va_iast hx hb hG.1 hP hD hS 8 0 rfl rfl (vp_in_iff.mpr ⟨by omega, by omega⟩) dX0_takeBack_109 (fun H locs hP hD hS => ?_)
          obtain ⟨f20, ef20⟩ : ∃ f, f = upd g_10r_acane (Int32.toNatClampNeg L2_10) (z19) := ⟨_, rfl⟩
          rw [← ef20] at hP hD
          have hP : va_P D vwCl ([(ac, .inr (0, [.ref ac_aseats, .ref ac_aminutes, .ref ac_acanes, .int z5, .int z2])), (ac_aseats, hcI k 20 ac_rseats), (ac_aminutes, hcI k 20 ac_rminutes), (ac_acanes, hcI k 20 ac_rcanes), (r, .inr (2, [.int r_told, .int r_strands, .int r_chairs, .int r_sitters, .ref r_atoldCane, .ref r_aheight, .ref r_astrandOf, .ref r_achairOf, .ref r_aweight, .ref r_acane, .int z7, .int z8, .int z9, .ref r_aload, .ref r_aheads, .int r_held, .int r_heldDown])), (r_astrandOf, hcI k 8 r_rstrandOf), (r_achairOf, hcI k 8 r_rchairOf), (r_aweight, hcI k 8 r_rweight), (r_acane, hcI k 4 f20), (r_aload, hcI k 4 r_rload), (r_aheads, hcI k 4 r_rheads)]) H := hP
          have hD : va_D A ([(ac, .inr (0, [.ref ac_aseats, .ref ac_aminutes, .ref ac_acanes, .int z5, .int z2])), (ac_aseats, hcI k 20 ac_rseats), (ac_aminutes, hcI k 20 ac_rminutes), (ac_acanes, hcI k 20 ac_rcanes), (r, .inr (2, [.int r_told, .int r_strands, .int r_chairs, .int r_sitters, .ref r_atoldCane, .ref r_aheight, .ref r_astrandOf, .ref r_achairOf, .ref r_aweight, .ref r_acane, .int z7, .int z8, .int z9, .ref r_aload, .ref r_aheads, .int r_held, .int r_heldDown])), (r_astrandOf, hcI k 8 r_rstrandOf), (r_achairOf, hcI k 8 r_rchairOf), (r_aweight, hcI k 8 r_rweight), (r_acane, hcI k 4 f20), (r_aload, hcI k 4 r_rload), (r_aheads, hcI k 4 r_rheads)]) := hD
          obtain ⟨z21, ez21⟩ : ∃ z : Int32, z = L2_10 + 1 := ⟨_, rfl⟩
          have tz21 : z21.toInt = L2_10.toInt + (1) := ai_add rfl (by decide) ez21 (by omega) (by omega)
          refine lv_iinc (v := z21) (lv' := [(2, .int z21), (0, .ref ac), (1, .ref r)]) hx hb dX0_takeBack_110 hl (k := 0) rfl (by rw [ez21]; rfl) (by decide) rfl (fun ls hl => ?_)
          refine lv_goto (tgt := 82) hx hb dX0_takeBack_113 (by decide) ?_
          exact ih10 z21 f20 ⟨by omega, by omega⟩ (by omega) _ _ _ hP hD hS (lv_sub hl [0, 1, 2] rfl)
    exact loop10 100 0 r_rcane (iv_lit (by decide) (by decide)) (by have q0 : (0 : Int32).toInt = 0 := (by decide); omega) _ _ _ hP hD hS hl
  · have fc1 := cx_gt_f (a := ac_kept.toInt) (b := 0) rfl (by decide) c1
    exact hc_endV hx hb hr hlocks (ac_next, ac_kept, r_sits, r_dropped, r_minute, r_rcane, r_rload, r_rheads) ((show iv (0) (19) ac_next from ⟨by omega, by omega⟩)) hP hD hS dX0_takeBack_7
set_option maxHeartbeats 4000000 in
set_option maxRecDepth 100000 in
theorem i_X2_forget (l : Launch) (D : va_G) (k : Nat → ClassId) (sz : Nat) (nt : Nat) (nt_aminutes : Nat) (nt_awhose : Nat) (nt_astates : Nat) (nt_many : Int32) (h_nt_many : iv (0) (10) nt_many) : CtV l yX2_forget wsX2_forget (rmK 1 0 0) [.ref nt] D k sz ([(nt, .inr (1, [.ref nt_aminutes, .ref nt_awhose, .ref nt_astates, .int nt_many]))]) (fun u : (Int32) => iv (0) (10) (u)) (fun u : (Int32) => [(nt, .inr (1, [.ref nt_aminutes, .ref nt_awhose, .ref nt_astates, .int (u)]))]) 0 0 := by
  have h_nt_many_l := h_nt_many.1
  have h_nt_many_u := h_nt_many.2
  refine CtV.mk (cc := cX2_forget) (maxL := 1) (ret := none) (by decide) rfl (Nat.le_of_ble_eq_true rfl) ?_
  intro p e s m below meth c A ls E hP hD hS hl
  obtain ⟨hx, hb, hr, hml, hown, hts, hlocks, hin, hG, hA⟩ := E
  have hown : s.vm.findClass RX2 = some m.cls := hown
  have in2 : ∀ w ∈ u_ws RX2 TX2 4, w ∈ wsX2_forget := fun _ h => List.mem_cons_of_mem _ (List.mem_append_right _ h)
  have hl : lv_has ls 1 [(0, .ref nt)] := hl
  refine lv_aload_n hx hb dX2_forget_0 rfl (lv_at hl 0 rfl) ?_
  refine lv_iconst (v := 0) hx hb dX2_forget_1 (by decide) ?_
  refine va_put (D := D) (ci := 1) (v := .int 0) (C := RX2) (T := TX2) (N := 4) hx hb hts in2 tyX2 tyX2_ok nmX2 hown hG.1 hP hD hS 0 rfl rfl 3 (by decide) (hts (.fieldLink RX2 21 "ChairCane$Notes" "many" "I") (by decide +kernel)) (fun _ h9 => h9) rfl (tyX2_ok 3 (by decide)) rfl rfl (Nat.le_of_ble_eq_true rfl) dX2_forget_2 (fun H locs hP hD hS => ?_)
  have hP : va_P D vwCl ([(nt, .inr (1, [.ref nt_aminutes, .ref nt_awhose, .ref nt_astates, .int 0]))]) H := hP
  have hD : va_D A ([(nt, .inr (1, [.ref nt_aminutes, .ref nt_awhose, .ref nt_astates, .int 0]))]) := hD
  exact hc_endV hx hb hr hlocks (0) ((show iv (0) (10) 0 from iv_lit (by decide) (by decide))) hP hD hS dX2_forget_5
set_option maxHeartbeats 4000000 in
set_option maxRecDepth 100000 in
theorem i_X2_copyFrom (l : Launch) (D : va_G) (k : Nat → ClassId) (sz : Nat) (nt : Nat) (nt_aminutes : Nat) (nt_awhose : Nat) (nt_astates : Nat) (nt_many : Int32) (nt_rminutes : Nat → Int32) (nt_rwhose : Nat → Int32) (nt_rstates : Nat → Int32) (oo : Nat) (oo_aminutes : Nat) (oo_awhose : Nat) (oo_astates : Nat) (oo_many : Int32) (oo_rminutes : Nat → Int32) (oo_rwhose : Nat → Int32) (oo_rstates : Nat → Int32) (h_nt_many : iv (0) (10) nt_many) (h_oo_many : iv (0) (10) oo_many) : CtV l yX2_copyFrom wsX2_copyFrom (rmK 1 0 0) [.ref nt, .ref oo] D k sz ([(nt, .inr (1, [.ref nt_aminutes, .ref nt_awhose, .ref nt_astates, .int nt_many])), (nt_aminutes, hcI k 10 nt_rminutes), (nt_awhose, hcI k 10 nt_rwhose), (nt_astates, hcI k 10 nt_rstates), (oo, .inr (1, [.ref oo_aminutes, .ref oo_awhose, .ref oo_astates, .int oo_many])), (oo_aminutes, hcI k 10 oo_rminutes), (oo_awhose, hcI k 10 oo_rwhose), (oo_astates, hcI k 10 oo_rstates)]) (fun u : (Int32) × (Nat → Int32) × (Nat → Int32) × (Nat → Int32) => iv (0) (10) (u.1)) (fun u : (Int32) × (Nat → Int32) × (Nat → Int32) × (Nat → Int32) => [(nt, .inr (1, [.ref nt_aminutes, .ref nt_awhose, .ref nt_astates, .int (u.1)])), (nt_aminutes, hcI k 10 (u.2.1)), (nt_awhose, hcI k 10 (u.2.2.1)), (nt_astates, hcI k 10 (u.2.2.2)), (oo, .inr (1, [.ref oo_aminutes, .ref oo_awhose, .ref oo_astates, .int oo_many])), (oo_aminutes, hcI k 10 oo_rminutes), (oo_awhose, hcI k 10 oo_rwhose), (oo_astates, hcI k 10 oo_rstates)]) 0 0 := by
  have h_nt_many_l := h_nt_many.1
  have h_nt_many_u := h_nt_many.2
  have h_oo_many_l := h_oo_many.1
  have h_oo_many_u := h_oo_many.2
  refine CtV.mk (cc := cX2_copyFrom) (maxL := 2) (ret := none) (by decide) rfl (Nat.le_of_ble_eq_true rfl) ?_
  intro p e s m below meth c A ls E hP hD hS hl
  obtain ⟨hx, hb, hr, hml, hown, hts, hlocks, hin, hG, hA⟩ := E
  have hown : s.vm.findClass RX2 = some m.cls := hown
  have in2 : ∀ w ∈ u_ws RX2 TX2 4, w ∈ wsX2_copyFrom := fun _ h => List.mem_cons_of_mem _ (List.mem_append_right _ h)
  have hl : lv_has ls 2 [(0, .ref nt), (1, .ref oo)] := hl
  refine lv_aload_n hx hb dX2_copyFrom_0 rfl (lv_at hl 1 rfl) ?_
  refine va_get (D := D) (ci := 1) (v := .ref oo_aminutes) (C := RX2) (T := TX2) (N := 4) hx hb hts in2 hown hG.1 hP 4 rfl rfl 0 (by decide) (hts (.fieldLink RX2 9 "ChairCane$Notes" "minutes" "[I") (by decide +kernel)) (fun _ h9 => h9) rfl dX2_copyFrom_1 ?_
  refine lv_iconst (v := 0) hx hb dX2_copyFrom_4 (by decide) ?_
  refine lv_aload_n hx hb dX2_copyFrom_5 rfl (lv_at hl 0 rfl) ?_
  refine va_get (D := D) (ci := 1) (v := .ref nt_aminutes) (C := RX2) (T := TX2) (N := 4) hx hb hts in2 hown hG.1 hP 0 rfl rfl 0 (by decide) (hts (.fieldLink RX2 9 "ChairCane$Notes" "minutes" "[I") (by decide +kernel)) (fun _ h9 => h9) rfl dX2_copyFrom_6 ?_
  refine lv_iconst (v := 0) hx hb dX2_copyFrom_9 (by decide) ?_
  refine lv_bipush (v := 10) hx hb dX2_copyFrom_10 (by decide) ?_
  refine va_copyi hx hb (by rw [hml]; exact hl.1.symm) hown (hts (.methodLink RX2 25 arraycopyName) (by decide +kernel)) (hts (.native arraycopyName) (by decide +kernel)) (hts (.static arraycopyName) (by decide +kernel)) (hts (.initialized "java/lang/System") (by decide +kernel)) hG.1 hP hD hS 5 1 0 0 rfl rfl rfl rfl rfl (by decide) (by decide) (by decide) (by decide) (by decide) (fun _ _ => rfl) (Nat.le_of_ble_eq_true rfl) (Nat.le_of_ble_eq_true rfl) dX2_copyFrom_12 (fun H locs hP hD hS => ?_)
  obtain ⟨f1, ef1⟩ : ∃ f : Nat → Int32, f = va_cpy oo_rminutes nt_rminutes (Int32.toNatClampNeg 0) (Int32.toNatClampNeg 0) (Int32.toNatClampNeg 10) := ⟨_, rfl⟩
  rw [← ef1] at hP hD
  have hP : va_P D vwCl ([(nt, .inr (1, [.ref nt_aminutes, .ref nt_awhose, .ref nt_astates, .int nt_many])), (nt_aminutes, hcI k 10 f1), (nt_awhose, hcI k 10 nt_rwhose), (nt_astates, hcI k 10 nt_rstates), (oo, .inr (1, [.ref oo_aminutes, .ref oo_awhose, .ref oo_astates, .int oo_many])), (oo_aminutes, hcI k 10 oo_rminutes), (oo_awhose, hcI k 10 oo_rwhose), (oo_astates, hcI k 10 oo_rstates)]) H := hP
  have hD : va_D A ([(nt, .inr (1, [.ref nt_aminutes, .ref nt_awhose, .ref nt_astates, .int nt_many])), (nt_aminutes, hcI k 10 f1), (nt_awhose, hcI k 10 nt_rwhose), (nt_astates, hcI k 10 nt_rstates), (oo, .inr (1, [.ref oo_aminutes, .ref oo_awhose, .ref oo_astates, .int oo_many])), (oo_aminutes, hcI k 10 oo_rminutes), (oo_awhose, hcI k 10 oo_rwhose), (oo_astates, hcI k 10 oo_rstates)]) := hD
  refine lv_aload_n hx hb dX2_copyFrom_15 rfl (lv_at hl 1 rfl) ?_
  refine va_get (D := D) (ci := 1) (v := .ref oo_awhose) (C := RX2) (T := TX2) (N := 4) hx hb hts in2 hown hG.1 hP 4 rfl rfl 1 (by decide) (hts (.fieldLink RX2 15 "ChairCane$Notes" "whose" "[I") (by decide +kernel)) (fun _ h9 => h9) rfl dX2_copyFrom_16 ?_
  refine lv_iconst (v := 0) hx hb dX2_copyFrom_19 (by decide) ?_
  refine lv_aload_n hx hb dX2_copyFrom_20 rfl (lv_at hl 0 rfl) ?_
  refine va_get (D := D) (ci := 1) (v := .ref nt_awhose) (C := RX2) (T := TX2) (N := 4) hx hb hts in2 hown hG.1 hP 0 rfl rfl 1 (by decide) (hts (.fieldLink RX2 15 "ChairCane$Notes" "whose" "[I") (by decide +kernel)) (fun _ h9 => h9) rfl dX2_copyFrom_21 ?_
  refine lv_iconst (v := 0) hx hb dX2_copyFrom_24 (by decide) ?_
  refine lv_bipush (v := 10) hx hb dX2_copyFrom_25 (by decide) ?_
  refine va_copyi hx hb (by rw [hml]; exact hl.1.symm) hown (hts (.methodLink RX2 25 arraycopyName) (by decide +kernel)) (hts (.native arraycopyName) (by decide +kernel)) (hts (.static arraycopyName) (by decide +kernel)) (hts (.initialized "java/lang/System") (by decide +kernel)) hG.1 hP hD hS 6 2 0 0 rfl rfl rfl rfl rfl (by decide) (by decide) (by decide) (by decide) (by decide) (fun _ _ => rfl) (Nat.le_of_ble_eq_true rfl) (Nat.le_of_ble_eq_true rfl) dX2_copyFrom_27 (fun H locs hP hD hS => ?_)
  obtain ⟨f2, ef2⟩ : ∃ f : Nat → Int32, f = va_cpy oo_rwhose nt_rwhose (Int32.toNatClampNeg 0) (Int32.toNatClampNeg 0) (Int32.toNatClampNeg 10) := ⟨_, rfl⟩
  rw [← ef2] at hP hD
  have hP : va_P D vwCl ([(nt, .inr (1, [.ref nt_aminutes, .ref nt_awhose, .ref nt_astates, .int nt_many])), (nt_aminutes, hcI k 10 f1), (nt_awhose, hcI k 10 f2), (nt_astates, hcI k 10 nt_rstates), (oo, .inr (1, [.ref oo_aminutes, .ref oo_awhose, .ref oo_astates, .int oo_many])), (oo_aminutes, hcI k 10 oo_rminutes), (oo_awhose, hcI k 10 oo_rwhose), (oo_astates, hcI k 10 oo_rstates)]) H := hP
  have hD : va_D A ([(nt, .inr (1, [.ref nt_aminutes, .ref nt_awhose, .ref nt_astates, .int nt_many])), (nt_aminutes, hcI k 10 f1), (nt_awhose, hcI k 10 f2), (nt_astates, hcI k 10 nt_rstates), (oo, .inr (1, [.ref oo_aminutes, .ref oo_awhose, .ref oo_astates, .int oo_many])), (oo_aminutes, hcI k 10 oo_rminutes), (oo_awhose, hcI k 10 oo_rwhose), (oo_astates, hcI k 10 oo_rstates)]) := hD
  refine lv_aload_n hx hb dX2_copyFrom_30 rfl (lv_at hl 1 rfl) ?_
  refine va_get (D := D) (ci := 1) (v := .ref oo_astates) (C := RX2) (T := TX2) (N := 4) hx hb hts in2 hown hG.1 hP 4 rfl rfl 2 (by decide) (hts (.fieldLink RX2 18 "ChairCane$Notes" "states" "[I") (by decide +kernel)) (fun _ h9 => h9) rfl dX2_copyFrom_31 ?_
  refine lv_iconst (v := 0) hx hb dX2_copyFrom_34 (by decide) ?_
  refine lv_aload_n hx hb dX2_copyFrom_35 rfl (lv_at hl 0 rfl) ?_
  refine va_get (D := D) (ci := 1) (v := .ref nt_astates) (C := RX2) (T := TX2) (N := 4) hx hb hts in2 hown hG.1 hP 0 rfl rfl 2 (by decide) (hts (.fieldLink RX2 18 "ChairCane$Notes" "states" "[I") (by decide +kernel)) (fun _ h9 => h9) rfl dX2_copyFrom_36 ?_
  refine lv_iconst (v := 0) hx hb dX2_copyFrom_39 (by decide) ?_
  refine lv_bipush (v := 10) hx hb dX2_copyFrom_40 (by decide) ?_
  refine va_copyi hx hb (by rw [hml]; exact hl.1.symm) hown (hts (.methodLink RX2 25 arraycopyName) (by decide +kernel)) (hts (.native arraycopyName) (by decide +kernel)) (hts (.static arraycopyName) (by decide +kernel)) (hts (.initialized "java/lang/System") (by decide +kernel)) hG.1 hP hD hS 7 3 0 0 rfl rfl rfl rfl rfl (by decide) (by decide) (by decide) (by decide) (by decide) (fun _ _ => rfl) (Nat.le_of_ble_eq_true rfl) (Nat.le_of_ble_eq_true rfl) dX2_copyFrom_42 (fun H locs hP hD hS => ?_)
  obtain ⟨f3, ef3⟩ : ∃ f : Nat → Int32, f = va_cpy oo_rstates nt_rstates (Int32.toNatClampNeg 0) (Int32.toNatClampNeg 0) (Int32.toNatClampNeg 10) := ⟨_, rfl⟩
  rw [← ef3] at hP hD
  have hP : va_P D vwCl ([(nt, .inr (1, [.ref nt_aminutes, .ref nt_awhose, .ref nt_astates, .int nt_many])), (nt_aminutes, hcI k 10 f1), (nt_awhose, hcI k 10 f2), (nt_astates, hcI k 10 f3), (oo, .inr (1, [.ref oo_aminutes, .ref oo_awhose, .ref oo_astates, .int oo_many])), (oo_aminutes, hcI k 10 oo_rminutes), (oo_awhose, hcI k 10 oo_rwhose), (oo_astates, hcI k 10 oo_rstates)]) H := hP
  have hD : va_D A ([(nt, .inr (1, [.ref nt_aminutes, .ref nt_awhose, .ref nt_astates, .int nt_many])), (nt_aminutes, hcI k 10 f1), (nt_awhose, hcI k 10 f2), (nt_astates, hcI k 10 f3), (oo, .inr (1, [.ref oo_aminutes, .ref oo_awhose, .ref oo_astates, .int oo_many])), (oo_aminutes, hcI k 10 oo_rminutes), (oo_awhose, hcI k 10 oo_rwhose), (oo_astates, hcI k 10 oo_rstates)]) := hD
  refine lv_aload_n hx hb dX2_copyFrom_45 rfl (lv_at hl 0 rfl) ?_
  refine lv_aload_n hx hb dX2_copyFrom_46 rfl (lv_at hl 1 rfl) ?_
  refine va_get (D := D) (ci := 1) (v := .int oo_many) (C := RX2) (T := TX2) (N := 4) hx hb hts in2 hown hG.1 hP 4 rfl rfl 3 (by decide) (hts (.fieldLink RX2 21 "ChairCane$Notes" "many" "I") (by decide +kernel)) (fun _ h9 => h9) rfl dX2_copyFrom_47 ?_
  refine va_put (D := D) (ci := 1) (v := .int oo_many) (C := RX2) (T := TX2) (N := 4) hx hb hts in2 tyX2 tyX2_ok nmX2 hown hG.1 hP hD hS 0 rfl rfl 3 (by decide) (hts (.fieldLink RX2 21 "ChairCane$Notes" "many" "I") (by decide +kernel)) (fun _ h9 => h9) rfl (tyX2_ok 3 (by decide)) rfl rfl (Nat.le_of_ble_eq_true rfl) dX2_copyFrom_50 (fun H locs hP hD hS => ?_)
  have hP : va_P D vwCl ([(nt, .inr (1, [.ref nt_aminutes, .ref nt_awhose, .ref nt_astates, .int oo_many])), (nt_aminutes, hcI k 10 f1), (nt_awhose, hcI k 10 f2), (nt_astates, hcI k 10 f3), (oo, .inr (1, [.ref oo_aminutes, .ref oo_awhose, .ref oo_astates, .int oo_many])), (oo_aminutes, hcI k 10 oo_rminutes), (oo_awhose, hcI k 10 oo_rwhose), (oo_astates, hcI k 10 oo_rstates)]) H := hP
  have hD : va_D A ([(nt, .inr (1, [.ref nt_aminutes, .ref nt_awhose, .ref nt_astates, .int oo_many])), (nt_aminutes, hcI k 10 f1), (nt_awhose, hcI k 10 f2), (nt_astates, hcI k 10 f3), (oo, .inr (1, [.ref oo_aminutes, .ref oo_awhose, .ref oo_astates, .int oo_many])), (oo_aminutes, hcI k 10 oo_rminutes), (oo_awhose, hcI k 10 oo_rwhose), (oo_astates, hcI k 10 oo_rstates)]) := hD
  exact hc_endV hx hb hr hlocks (oo_many, f1, f2, f3) ((show iv (0) (10) oo_many from ⟨by omega, by omega⟩)) hP hD hS dX2_copyFrom_53
set_option maxHeartbeats 4000000 in
set_option maxRecDepth 100000 in
theorem i_X2_add (l : Launch) (D : va_G) (k : Nat → ClassId) (sz : Nat) (x1 : Int32) (x2 : Int32) (x3 : Int32) (nt : Nat) (nt_aminutes : Nat) (nt_awhose : Nat) (nt_astates : Nat) (nt_many : Int32) (nt_rminutes : Nat → Int32) (nt_rwhose : Nat → Int32) (nt_rstates : Nat → Int32) (h_nt_many : iv (0) (10) nt_many) : CtI l yX2_add wsX2_add (rmK 1 0 0) [.ref nt, .int x1, .int x2, .int x3] D k sz ([(nt, .inr (1, [.ref nt_aminutes, .ref nt_awhose, .ref nt_astates, .int nt_many])), (nt_aminutes, hcI k 10 nt_rminutes), (nt_awhose, hcI k 10 nt_rwhose), (nt_astates, hcI k 10 nt_rstates)]) (fun (r : Int32) (u : (Int32) × (Nat → Int32) × (Nat → Int32) × (Nat → Int32)) => iv (0) (1) r ∧ iv (0) (10) (u.1)) (fun u : (Int32) × (Nat → Int32) × (Nat → Int32) × (Nat → Int32) => [(nt, .inr (1, [.ref nt_aminutes, .ref nt_awhose, .ref nt_astates, .int (u.1)])), (nt_aminutes, hcI k 10 (u.2.1)), (nt_awhose, hcI k 10 (u.2.2.1)), (nt_astates, hcI k 10 (u.2.2.2))]) 0 0 := by
  have h_nt_many_l := h_nt_many.1
  have h_nt_many_u := h_nt_many.2
  refine CtI.mk (cc := cX2_add) (maxL := 4) (ret := (some .boolean)) (by decide) rfl (Nat.le_of_ble_eq_true rfl) ?_
  intro p e s m below meth c A ls E hP hD hS hl
  obtain ⟨hx, hb, hr, hml, hown, hts, hlocks, hin, hG, hA⟩ := E
  have hown : s.vm.findClass RX2 = some m.cls := hown
  have in2 : ∀ w ∈ u_ws RX2 TX2 4, w ∈ wsX2_add := fun _ h => List.mem_cons_of_mem _ (List.mem_append_right _ h)
  have hl : lv_has ls 4 [(0, .ref nt), (1, .int x1), (2, .int x2), (3, .int x3)] := hl
  refine lv_aload_n hx hb dX2_add_0 rfl (lv_at hl 0 rfl) ?_
  refine va_get (D := D) (ci := 1) (v := .int nt_many) (C := RX2) (T := TX2) (N := 4) hx hb hts in2 hown hG.1 hP 0 rfl rfl 3 (by decide) (hts (.fieldLink RX2 21 "ChairCane$Notes" "many" "I") (by decide +kernel)) (fun _ h9 => h9) rfl dX2_add_1 ?_
  refine lv_bipush (v := 10) hx hb dX2_add_4 (by decide) ?_
  refine lv_icmp_lt (tgt := 11) hx hb dX2_add_6 (by decide) (fun c1 => ?_) (fun c1 => ?_)
  · have fc1 := cx_lt_t (a := nt_many.toInt) (b := 10) rfl (by decide) c1
    refine lv_aload_n hx hb dX2_add_11 rfl (lv_at hl 0 rfl) ?_
    refine va_get (D := D) (ci := 1) (v := .ref nt_aminutes) (C := RX2) (T := TX2) (N := 4) hx hb hts in2 hown hG.1 hP 0 rfl rfl 0 (by decide) (hts (.fieldLink RX2 9 "ChairCane$Notes" "minutes" "[I") (by decide +kernel)) (fun _ h9 => h9) rfl dX2_add_12 ?_
    refine lv_aload_n hx hb dX2_add_15 rfl (lv_at hl 0 rfl) ?_
    refine va_get (D := D) (ci := 1) (v := .int nt_many) (C := RX2) (T := TX2) (N := 4) hx hb hts in2 hown hG.1 hP 0 rfl rfl 3 (by decide) (hts (.fieldLink RX2 21 "ChairCane$Notes" "many" "I") (by decide +kernel)) (fun _ h9 => h9) rfl dX2_add_16 ?_
    refine lv_iload_n hx hb dX2_add_19 rfl (lv_at hl 1 rfl) ?_
    refine va_iast hx hb hG.1 hP hD hS 1 0 rfl rfl (vp_in_iff.mpr ⟨by omega, by omega⟩) dX2_add_20 (fun H locs hP hD hS => ?_)
    obtain ⟨f2, ef2⟩ : ∃ f, f = upd nt_rminutes (Int32.toNatClampNeg nt_many) (x1) := ⟨_, rfl⟩
    rw [← ef2] at hP hD
    have hP : va_P D vwCl ([(nt, .inr (1, [.ref nt_aminutes, .ref nt_awhose, .ref nt_astates, .int nt_many])), (nt_aminutes, hcI k 10 f2), (nt_awhose, hcI k 10 nt_rwhose), (nt_astates, hcI k 10 nt_rstates)]) H := hP
    have hD : va_D A ([(nt, .inr (1, [.ref nt_aminutes, .ref nt_awhose, .ref nt_astates, .int nt_many])), (nt_aminutes, hcI k 10 f2), (nt_awhose, hcI k 10 nt_rwhose), (nt_astates, hcI k 10 nt_rstates)]) := hD
    refine lv_aload_n hx hb dX2_add_21 rfl (lv_at hl 0 rfl) ?_
    refine va_get (D := D) (ci := 1) (v := .ref nt_awhose) (C := RX2) (T := TX2) (N := 4) hx hb hts in2 hown hG.1 hP 0 rfl rfl 1 (by decide) (hts (.fieldLink RX2 15 "ChairCane$Notes" "whose" "[I") (by decide +kernel)) (fun _ h9 => h9) rfl dX2_add_22 ?_
    refine lv_aload_n hx hb dX2_add_25 rfl (lv_at hl 0 rfl) ?_
    refine va_get (D := D) (ci := 1) (v := .int nt_many) (C := RX2) (T := TX2) (N := 4) hx hb hts in2 hown hG.1 hP 0 rfl rfl 3 (by decide) (hts (.fieldLink RX2 21 "ChairCane$Notes" "many" "I") (by decide +kernel)) (fun _ h9 => h9) rfl dX2_add_26 ?_
    refine lv_iload_n hx hb dX2_add_29 rfl (lv_at hl 2 rfl) ?_
    refine va_iast hx hb hG.1 hP hD hS 2 0 rfl rfl (vp_in_iff.mpr ⟨by omega, by omega⟩) dX2_add_30 (fun H locs hP hD hS => ?_)
    obtain ⟨f3, ef3⟩ : ∃ f, f = upd nt_rwhose (Int32.toNatClampNeg nt_many) (x2) := ⟨_, rfl⟩
    rw [← ef3] at hP hD
    have hP : va_P D vwCl ([(nt, .inr (1, [.ref nt_aminutes, .ref nt_awhose, .ref nt_astates, .int nt_many])), (nt_aminutes, hcI k 10 f2), (nt_awhose, hcI k 10 f3), (nt_astates, hcI k 10 nt_rstates)]) H := hP
    have hD : va_D A ([(nt, .inr (1, [.ref nt_aminutes, .ref nt_awhose, .ref nt_astates, .int nt_many])), (nt_aminutes, hcI k 10 f2), (nt_awhose, hcI k 10 f3), (nt_astates, hcI k 10 nt_rstates)]) := hD
    refine lv_aload_n hx hb dX2_add_31 rfl (lv_at hl 0 rfl) ?_
    refine va_get (D := D) (ci := 1) (v := .ref nt_astates) (C := RX2) (T := TX2) (N := 4) hx hb hts in2 hown hG.1 hP 0 rfl rfl 2 (by decide) (hts (.fieldLink RX2 18 "ChairCane$Notes" "states" "[I") (by decide +kernel)) (fun _ h9 => h9) rfl dX2_add_32 ?_
    refine lv_aload_n hx hb dX2_add_35 rfl (lv_at hl 0 rfl) ?_
    refine va_get (D := D) (ci := 1) (v := .int nt_many) (C := RX2) (T := TX2) (N := 4) hx hb hts in2 hown hG.1 hP 0 rfl rfl 3 (by decide) (hts (.fieldLink RX2 21 "ChairCane$Notes" "many" "I") (by decide +kernel)) (fun _ h9 => h9) rfl dX2_add_36 ?_
    refine lv_iload_n hx hb dX2_add_39 rfl (lv_at hl 3 rfl) ?_
    refine va_iast hx hb hG.1 hP hD hS 3 0 rfl rfl (vp_in_iff.mpr ⟨by omega, by omega⟩) dX2_add_40 (fun H locs hP hD hS => ?_)
    obtain ⟨f4, ef4⟩ : ∃ f, f = upd nt_rstates (Int32.toNatClampNeg nt_many) (x3) := ⟨_, rfl⟩
    rw [← ef4] at hP hD
    have hP : va_P D vwCl ([(nt, .inr (1, [.ref nt_aminutes, .ref nt_awhose, .ref nt_astates, .int nt_many])), (nt_aminutes, hcI k 10 f2), (nt_awhose, hcI k 10 f3), (nt_astates, hcI k 10 f4)]) H := hP
    have hD : va_D A ([(nt, .inr (1, [.ref nt_aminutes, .ref nt_awhose, .ref nt_astates, .int nt_many])), (nt_aminutes, hcI k 10 f2), (nt_awhose, hcI k 10 f3), (nt_astates, hcI k 10 f4)]) := hD
    refine lv_aload_n hx hb dX2_add_41 rfl (lv_at hl 0 rfl) ?_
    refine lv_dup hx hb dX2_add_42 rfl ?_
    refine va_get (D := D) (ci := 1) (v := .int nt_many) (C := RX2) (T := TX2) (N := 4) hx hb hts in2 hown hG.1 hP 0 rfl rfl 3 (by decide) (hts (.fieldLink RX2 21 "ChairCane$Notes" "many" "I") (by decide +kernel)) (fun _ h9 => h9) rfl dX2_add_43 ?_
    refine lv_iconst (v := 1) hx hb dX2_add_46 (by decide) ?_
    refine lv_iadd hx hb dX2_add_47 ?_
    refine lv_topi (fun z5 ez5 => ?_)
    have tz5 : z5.toInt = nt_many.toInt + 1 := ai_add rfl (by decide) ez5 (by omega) (by omega)
    refine va_put (D := D) (ci := 1) (v := .int z5) (C := RX2) (T := TX2) (N := 4) hx hb hts in2 tyX2 tyX2_ok nmX2 hown hG.1 hP hD hS 0 rfl rfl 3 (by decide) (hts (.fieldLink RX2 21 "ChairCane$Notes" "many" "I") (by decide +kernel)) (fun _ h9 => h9) rfl (tyX2_ok 3 (by decide)) rfl rfl (Nat.le_of_ble_eq_true rfl) dX2_add_48 (fun H locs hP hD hS => ?_)
    have hP : va_P D vwCl ([(nt, .inr (1, [.ref nt_aminutes, .ref nt_awhose, .ref nt_astates, .int z5])), (nt_aminutes, hcI k 10 f2), (nt_awhose, hcI k 10 f3), (nt_astates, hcI k 10 f4)]) H := hP
    have hD : va_D A ([(nt, .inr (1, [.ref nt_aminutes, .ref nt_awhose, .ref nt_astates, .int z5])), (nt_aminutes, hcI k 10 f2), (nt_awhose, hcI k 10 f3), (nt_astates, hcI k 10 f4)]) := hD
    refine lv_iconst (v := 1) hx hb dX2_add_51 (by decide) ?_
    exact hc_endZ hx hb hr hlocks rfl (z5, f2, f3, f4) ⟨iv_lit (by decide) (by decide), (show iv (0) (10) z5 from ⟨by omega, by omega⟩)⟩ hP hD hS dX2_add_52
  · have fc1 := cx_lt_f (a := nt_many.toInt) (b := 10) rfl (by decide) c1
    refine lv_iconst (v := 0) hx hb dX2_add_9 (by decide) ?_
    exact hc_endZ hx hb hr hlocks rfl (nt_many, nt_rminutes, nt_rwhose, nt_rstates) ⟨iv_lit (by decide) (by decide), (show iv (0) (10) nt_many from ⟨by omega, by omega⟩)⟩ hP hD hS dX2_add_10
set_option maxHeartbeats 4000000 in
set_option maxRecDepth 100000 in
theorem i_X2_lastMinute (l : Launch) (D : va_G) (k : Nat → ClassId) (sz : Nat) (nt : Nat) (nt_aminutes : Nat) (nt_awhose : Nat) (nt_astates : Nat) (nt_many : Int32) (nt_rminutes : Nat → Int32) (h_nt_many : iv (0) (10) nt_many) : CtI l yX2_lastMinute wsX2_lastMinute (rmK 1 0 0) [.ref nt] D k sz ([(nt, .inr (1, [.ref nt_aminutes, .ref nt_awhose, .ref nt_astates, .int nt_many])), (nt_aminutes, hcI k 10 nt_rminutes)]) (fun (r : Int32) (u : Unit) => True) (fun u : Unit => [(nt, .inr (1, [.ref nt_aminutes, .ref nt_awhose, .ref nt_astates, .int nt_many])), (nt_aminutes, hcI k 10 nt_rminutes)]) 0 0 := by
  have h_nt_many_l := h_nt_many.1
  have h_nt_many_u := h_nt_many.2
  refine CtI.mk (cc := cX2_lastMinute) (maxL := 3) (ret := (some .int)) (by decide) rfl (Nat.le_of_ble_eq_true rfl) ?_
  intro p e s m below meth c A ls E hP hD hS hl
  obtain ⟨hx, hb, hr, hml, hown, hts, hlocks, hin, hG, hA⟩ := E
  have hown : s.vm.findClass RX2 = some m.cls := hown
  have in2 : ∀ w ∈ u_ws RX2 TX2 4, w ∈ wsX2_lastMinute := fun _ h => List.mem_cons_of_mem _ (List.mem_append_right _ h)
  have hl : lv_has ls 3 [(0, .ref nt)] := hl
  refine lv_iconst (v := (-1)) hx hb dX2_lastMinute_0 (by decide) ?_
  refine lv_istore_n (lv' := [(1, .int (-1)), (0, .ref nt)]) hx hb dX2_lastMinute_1 rfl hl (by decide) rfl (fun ls hl => ?_)
  refine lv_iconst (v := 0) hx hb dX2_lastMinute_2 (by decide) ?_
  refine lv_istore_n (lv' := [(2, .int 0), (1, .int (-1)), (0, .ref nt)]) hx hb dX2_lastMinute_3 rfl hl (by decide) rfl (fun ls hl => ?_)
  have loop1 : ∀ (fu : Nat) (L1_1 : Int32) (L2_1 : Int32), iv (0) (10) L2_1 → 10 - L2_1.toInt < (fu : Int) → ∀ (H : Heap) (locs : List Loc) (ls : Array Slot), va_P D vwCl ([(nt, .inr (1, [.ref nt_aminutes, .ref nt_awhose, .ref nt_astates, .int nt_many])), (nt_aminutes, hcI k 10 nt_rminutes)]) H → va_D A ([(nt, .inr (1, [.ref nt_aminutes, .ref nt_awhose, .ref nt_astates, .int nt_many])), (nt_aminutes, hcI k 10 nt_rminutes)]) → va_S A s.heap H locs → lv_has ls 3 [(2, .int L2_1), (1, .int L1_1), (0, .ref nt)] → W p l e (rmK 1 0 0) s m (List.toArray [.ref nt]) below meth c H locs 0 0 (MQ below (va_Qi (fun (r : Int32) (u : Unit) => True) (hcB D (fun u : Unit => [(nt, .inr (1, [.ref nt_aminutes, .ref nt_awhose, .ref nt_astates, .int nt_many])), (nt_aminutes, hcI k 10 nt_rminutes)]) A) A) (List.toArray [.ref nt]) s 0 0 A) (F0 m 4 ls []) := by
    intro fu
    induction fu with
    | zero =>
      intro L1_1 L2_1 bL2_1 hm
      have bL2_1_l := bL2_1.1
      have bL2_1_u := bL2_1.2
      exact absurd hm (by omega)
    | succ fu ih1 =>
      intro L1_1 L2_1 bL2_1 hm H locs ls hP hD hS hl
      have bL2_1_l := bL2_1.1
      have bL2_1_u := bL2_1.2
      refine lv_iload_n hx hb dX2_lastMinute_4 rfl (lv_at hl 0 rfl) ?_
      refine lv_aload_n hx hb dX2_lastMinute_5 rfl (lv_at hl 2 rfl) ?_
      refine va_get (D := D) (ci := 1) (v := .int nt_many) (C := RX2) (T := TX2) (N := 4) hx hb hts in2 hown hG.1 hP 0 rfl rfl 3 (by decide) (hts (.fieldLink RX2 21 "ChairCane$Notes" "many" "I") (by decide +kernel)) (fun _ h9 => h9) rfl dX2_lastMinute_6 ?_
      refine lv_icmp_ge (tgt := 29) hx hb dX2_lastMinute_9 (by decide) (fun c2 => ?_) (fun c2 => ?_)
      · have fc2 := cx_ge_t (a := L2_1.toInt) (b := nt_many.toInt) rfl rfl c2
        refine lv_iload_n hx hb dX2_lastMinute_29 rfl (lv_at hl 1 rfl) ?_
        exact hc_end hx hb hr hlocks () trivial hP hD hS dX2_lastMinute_30
      · have fc2 := cx_ge_f (a := L2_1.toInt) (b := nt_many.toInt) rfl rfl c2
        refine lv_iload_n hx hb dX2_lastMinute_12 rfl (lv_at hl 1 rfl) ?_
        refine lv_aload_n hx hb dX2_lastMinute_13 rfl (lv_at hl 2 rfl) ?_
        refine va_get (D := D) (ci := 1) (v := .ref nt_aminutes) (C := RX2) (T := TX2) (N := 4) hx hb hts in2 hown hG.1 hP 0 rfl rfl 0 (by decide) (hts (.fieldLink RX2 9 "ChairCane$Notes" "minutes" "[I") (by decide +kernel)) (fun _ h9 => h9) rfl dX2_lastMinute_14 ?_
        refine lv_iload_n hx hb dX2_lastMinute_17 rfl (lv_at hl 0 rfl) ?_
        refine va_iald hx hb hG.1 hP 1 0 rfl rfl (vp_in_iff.mpr ⟨by omega, by omega⟩) dX2_lastMinute_18 ?_
        refine lv_topi (fun z3 ez3 => ?_)
        refine va_mmax hx hb (by rw [hml]; exact hl.1.symm) hown (hts (.methodLink RX2 31 Lib.Math.max.name) (by decide +kernel)) (hts (.static Lib.Math.max.name) (by decide +kernel)) (hts (.initialized "java/lang/Math") (by decide +kernel)) (hts (.code Lib.Math.max.name Lib.Math.max.code 2 (some .int)) (by decide +kernel)) (Nat.le_of_ble_eq_true rfl) (Nat.le_of_ble_eq_true rfl) (Nat.le_of_ble_eq_true rfl) (Nat.le_of_ble_eq_true rfl) dX2_lastMinute_19 ?_
        refine lv_topi (fun z4 ez4 => ?_)
        have tz4 := ai_max (a := L1_1.toInt) (b := z3.toInt) rfl rfl ez4
        refine lv_istore_n (lv' := [(1, .int z4), (2, .int L2_1), (0, .ref nt)]) hx hb dX2_lastMinute_22 rfl hl (by decide) rfl (fun ls hl => ?_)
        obtain ⟨z5, ez5⟩ : ∃ z : Int32, z = L2_1 + 1 := ⟨_, rfl⟩
        have tz5 : z5.toInt = L2_1.toInt + (1) := ai_add rfl (by decide) ez5 (by omega) (by omega)
        refine lv_iinc (v := z5) (lv' := [(2, .int z5), (1, .int z4), (0, .ref nt)]) hx hb dX2_lastMinute_23 hl (k := 1) rfl (by rw [ez5]; rfl) (by decide) rfl (fun ls hl => ?_)
        refine lv_goto (tgt := 4) hx hb dX2_lastMinute_26 (by decide) ?_
        exact ih1 z4 z5 ⟨by omega, by omega⟩ (by omega) _ _ _ hP hD hS (lv_sub hl [0, 1, 2] rfl)
  exact loop1 100 (-1) 0 (iv_lit (by decide) (by decide)) (by have q0 : ((-1) : Int32).toInt = -1 := (by decide); have q1 : (0 : Int32).toInt = 0 := (by decide); omega) _ _ _ hP hD hS hl
set_option maxHeartbeats 4000000 in
set_option maxRecDepth 100000 in
theorem i_X2_agree (l : Launch) (D : va_G) (k : Nat → ClassId) (sz : Nat) (x1 : Int32) (nt : Nat) (nt_aminutes : Nat) (nt_awhose : Nat) (nt_astates : Nat) (nt_many : Int32) (nt_rminutes : Nat → Int32) (nt_rwhose : Nat → Int32) (nt_rstates : Nat → Int32) (r : Nat) (r_told : Int32) (r_strands : Int32) (r_chairs : Int32) (r_sitters : Int32) (r_atoldCane : Nat) (r_aheight : Nat) (r_astrandOf : Nat) (r_achairOf : Nat) (r_aweight : Nat) (r_acane : Nat) (r_sits : Int32) (r_dropped : Int32) (r_minute : Int32) (r_aload : Nat) (r_aheads : Nat) (r_held : Int32) (r_heldDown : Int32) (h_nt_many : iv (0) (10) nt_many) (h_r_told : iv (0) (1) r_told) (h_r_strands : iv (0) (4) r_strands) (h_r_chairs : iv (0) (8) r_chairs) (h_r_sitters : iv (0) (8) r_sitters) : CtI l yX2_agree wsX2_agree (rmK 3 0 0) [.ref nt, .int x1, .ref r] D k sz ([(nt, .inr (1, [.ref nt_aminutes, .ref nt_awhose, .ref nt_astates, .int nt_many])), (nt_aminutes, hcI k 10 nt_rminutes), (nt_awhose, hcI k 10 nt_rwhose), (nt_astates, hcI k 10 nt_rstates), (r, .inr (2, [.int r_told, .int r_strands, .int r_chairs, .int r_sitters, .ref r_atoldCane, .ref r_aheight, .ref r_astrandOf, .ref r_achairOf, .ref r_aweight, .ref r_acane, .int r_sits, .int r_dropped, .int r_minute, .ref r_aload, .ref r_aheads, .int r_held, .int r_heldDown]))]) (fun (r : Int32) (u : Unit) => iv (0) (1) r) (fun u : Unit => [(nt, .inr (1, [.ref nt_aminutes, .ref nt_awhose, .ref nt_astates, .int nt_many])), (nt_aminutes, hcI k 10 nt_rminutes), (nt_awhose, hcI k 10 nt_rwhose), (nt_astates, hcI k 10 nt_rstates), (r, .inr (2, [.int r_told, .int r_strands, .int r_chairs, .int r_sitters, .ref r_atoldCane, .ref r_aheight, .ref r_astrandOf, .ref r_achairOf, .ref r_aweight, .ref r_acane, .int r_sits, .int r_dropped, .int r_minute, .ref r_aload, .ref r_aheads, .int r_held, .int r_heldDown]))]) 0 0 := by
  have h_nt_many_l := h_nt_many.1
  have h_nt_many_u := h_nt_many.2
  have h_r_told_l := h_r_told.1
  have h_r_told_u := h_r_told.2
  have h_r_strands_l := h_r_strands.1
  have h_r_strands_u := h_r_strands.2
  have h_r_chairs_l := h_r_chairs.1
  have h_r_chairs_u := h_r_chairs.2
  have h_r_sitters_l := h_r_sitters.1
  have h_r_sitters_u := h_r_sitters.2
  refine CtI.mk (cc := cX2_agree) (maxL := 4) (ret := (some .boolean)) (by decide) rfl (Nat.le_of_ble_eq_true rfl) ?_
  intro p e s m below meth c A ls E hP hD hS hl
  obtain ⟨hx, hb, hr, hml, hown, hts, hlocks, hin, hG, hA⟩ := E
  have hown : s.vm.findClass RX2 = some m.cls := hown
  have in2 : ∀ w ∈ u_ws RX2 TX2 4, w ∈ wsX2_agree := fun _ h => List.mem_cons_of_mem _ (List.mem_append_left _ (List.mem_append_right _ h))
  have in3 : ∀ w ∈ u_ws RX3 TX3 17, w ∈ wsX2_agree := fun _ h => List.mem_cons_of_mem _ (List.mem_append_right _ h)
  have hl : lv_has ls 4 [(0, .ref nt), (1, .int x1), (2, .ref r)] := hl
  refine lv_iconst (v := 0) hx hb dX2_agree_0 (by decide) ?_
  refine lv_istore_n (lv' := [(3, .int 0), (0, .ref nt), (1, .int x1), (2, .ref r)]) hx hb dX2_agree_1 rfl hl (by decide) rfl (fun ls hl => ?_)
  have loop1 : ∀ (fu : Nat) (L3_1 : Int32), iv (0) (10) L3_1 → 10 - L3_1.toInt < (fu : Int) → ∀ (H : Heap) (locs : List Loc) (ls : Array Slot), va_P D vwCl ([(nt, .inr (1, [.ref nt_aminutes, .ref nt_awhose, .ref nt_astates, .int nt_many])), (nt_aminutes, hcI k 10 nt_rminutes), (nt_awhose, hcI k 10 nt_rwhose), (nt_astates, hcI k 10 nt_rstates), (r, .inr (2, [.int r_told, .int r_strands, .int r_chairs, .int r_sitters, .ref r_atoldCane, .ref r_aheight, .ref r_astrandOf, .ref r_achairOf, .ref r_aweight, .ref r_acane, .int r_sits, .int r_dropped, .int r_minute, .ref r_aload, .ref r_aheads, .int r_held, .int r_heldDown]))]) H → va_D A ([(nt, .inr (1, [.ref nt_aminutes, .ref nt_awhose, .ref nt_astates, .int nt_many])), (nt_aminutes, hcI k 10 nt_rminutes), (nt_awhose, hcI k 10 nt_rwhose), (nt_astates, hcI k 10 nt_rstates), (r, .inr (2, [.int r_told, .int r_strands, .int r_chairs, .int r_sitters, .ref r_atoldCane, .ref r_aheight, .ref r_astrandOf, .ref r_achairOf, .ref r_aweight, .ref r_acane, .int r_sits, .int r_dropped, .int r_minute, .ref r_aload, .ref r_aheads, .int r_held, .int r_heldDown]))]) → va_S A s.heap H locs → lv_has ls 4 [(3, .int L3_1), (0, .ref nt), (1, .int x1), (2, .ref r)] → W p l e (rmK 3 0 0) s m (List.toArray [.ref nt, .int x1, .ref r]) below meth c H locs 0 0 (MQ below (va_Qi (fun (r : Int32) (u : Unit) => iv (0) (1) r) (hcB D (fun u : Unit => [(nt, .inr (1, [.ref nt_aminutes, .ref nt_awhose, .ref nt_astates, .int nt_many])), (nt_aminutes, hcI k 10 nt_rminutes), (nt_awhose, hcI k 10 nt_rwhose), (nt_astates, hcI k 10 nt_rstates), (r, .inr (2, [.int r_told, .int r_strands, .int r_chairs, .int r_sitters, .ref r_atoldCane, .ref r_aheight, .ref r_astrandOf, .ref r_achairOf, .ref r_aweight, .ref r_acane, .int r_sits, .int r_dropped, .int r_minute, .ref r_aload, .ref r_aheads, .int r_held, .int r_heldDown]))]) A) A) (List.toArray [.ref nt, .int x1, .ref r]) s 0 0 A) (F0 m 2 ls []) := by
    intro fu
    induction fu with
    | zero =>
      intro L3_1 bL3_1 hm
      have bL3_1_l := bL3_1.1
      have bL3_1_u := bL3_1.2
      exact absurd hm (by omega)
    | succ fu ih1 =>
      intro L3_1 bL3_1 hm H locs ls hP hD hS hl
      have bL3_1_l := bL3_1.1
      have bL3_1_u := bL3_1.2
      refine lv_iload_n hx hb dX2_agree_2 rfl (lv_at hl 0 rfl) ?_
      refine lv_aload_n hx hb dX2_agree_3 rfl (lv_at hl 1 rfl) ?_
      refine va_get (D := D) (ci := 1) (v := .int nt_many) (C := RX2) (T := TX2) (N := 4) hx hb hts in2 hown hG.1 hP 0 rfl rfl 3 (by decide) (hts (.fieldLink RX2 21 "ChairCane$Notes" "many" "I") (by decide +kernel)) (fun _ h9 => h9) rfl dX2_agree_4 ?_
      refine lv_icmp_ge (tgt := 47) hx hb dX2_agree_7 (by decide) (fun c2 => ?_) (fun c2 => ?_)
      · have fc2 := cx_ge_t (a := L3_1.toInt) (b := nt_many.toInt) rfl rfl c2
        refine lv_iconst (v := 1) hx hb dX2_agree_47 (by decide) ?_
        exact hc_endZ hx hb hr hlocks rfl () (iv_lit (by decide) (by decide)) hP hD hS dX2_agree_48
      · have fc2 := cx_ge_f (a := L3_1.toInt) (b := nt_many.toInt) rfl rfl c2
        refine lv_aload_n hx hb dX2_agree_10 rfl (lv_at hl 1 rfl) ?_
        refine va_get (D := D) (ci := 1) (v := .ref nt_aminutes) (C := RX2) (T := TX2) (N := 4) hx hb hts in2 hown hG.1 hP 0 rfl rfl 0 (by decide) (hts (.fieldLink RX2 9 "ChairCane$Notes" "minutes" "[I") (by decide +kernel)) (fun _ h9 => h9) rfl dX2_agree_11 ?_
        refine lv_iload_n hx hb dX2_agree_14 rfl (lv_at hl 0 rfl) ?_
        refine va_iald hx hb hG.1 hP 1 0 rfl rfl (vp_in_iff.mpr ⟨by omega, by omega⟩) dX2_agree_15 ?_
        refine lv_topi (fun z3 ez3 => ?_)
        refine lv_iload_n hx hb dX2_agree_16 rfl (lv_at hl 2 rfl) ?_
        refine lv_icmp_ne (tgt := 41) hx hb dX2_agree_17 (by decide) (fun c4 => ?_) (fun c4 => ?_)
        · have fc4 := cx_ne_t (a := z3.toInt) (b := x1.toInt) rfl rfl c4
          obtain ⟨z5, ez5⟩ : ∃ z : Int32, z = L3_1 + 1 := ⟨_, rfl⟩
          have tz5 : z5.toInt = L3_1.toInt + (1) := ai_add rfl (by decide) ez5 (by omega) (by omega)
          refine lv_iinc (v := z5) (lv' := [(3, .int z5), (0, .ref nt), (1, .int x1), (2, .ref r)]) hx hb dX2_agree_41 hl (k := 0) rfl (by rw [ez5]; rfl) (by decide) rfl (fun ls hl => ?_)
          refine lv_goto (tgt := 2) hx hb dX2_agree_44 (by decide) ?_
          exact ih1 z5 ⟨by omega, by omega⟩ (by omega) _ _ _ hP hD hS (lv_sub hl [0, 1, 2, 3] rfl)
        · have fc4 := cx_ne_f (a := z3.toInt) (b := x1.toInt) rfl rfl c4
          refine lv_aload_n hx hb dX2_agree_20 rfl (lv_at hl 3 rfl) ?_
          refine lv_aload_n hx hb dX2_agree_21 rfl (lv_at hl 1 rfl) ?_
          refine va_get (D := D) (ci := 1) (v := .ref nt_awhose) (C := RX2) (T := TX2) (N := 4) hx hb hts in2 hown hG.1 hP 0 rfl rfl 1 (by decide) (hts (.fieldLink RX2 15 "ChairCane$Notes" "whose" "[I") (by decide +kernel)) (fun _ h9 => h9) rfl dX2_agree_22 ?_
          refine lv_iload_n hx hb dX2_agree_25 rfl (lv_at hl 0 rfl) ?_
          refine va_iald hx hb hG.1 hP 2 0 rfl rfl (vp_in_iff.mpr ⟨by omega, by omega⟩) dX2_agree_26 ?_
          refine lv_topi (fun z6 ez6 => ?_)
          refine hc_Vi (As := [.int z6]) (rest := []) (n := 1) (wr := [(nt, .inr (1, [.ref nt_aminutes, .ref nt_awhose, .ref nt_astates, .int nt_many])), (nt_aminutes, hcI k 10 nt_rminutes), (nt_awhose, hcI k 10 nt_rwhose), (nt_astates, hcI k 10 nt_rstates)]) hx hb hml hown hts hG hA hP hD hS hl.1 [4] [0, 1, 2, 3] (i_X3_stateOf l D k _ z6 r r_told r_strands r_chairs r_sitters r_atoldCane r_aheight r_astrandOf r_achairOf r_aweight r_acane r_sits r_dropped r_minute r_aload r_aheads r_held r_heldDown ⟨by omega, by omega⟩ ⟨by omega, by omega⟩ ⟨by omega, by omega⟩ ⟨by omega, by omega⟩) (ci := 2) (q0 := 4) rfl rfl gX2_agree_X3_stateOf rfl ⟨rfl, rfl, Nat.le_of_ble_eq_true rfl, Nat.le_of_ble_eq_true rfl⟩ (by decide +kernel) rfl rfl ⟨by decide, by decide, by decide⟩ ⟨rfl, rfl, Nat.le_of_ble_eq_true rfl, Nat.le_of_ble_eq_true rfl, Nat.le_of_ble_eq_true rfl⟩ dX2_agree_27 (fun r8 u7 H locs hw hP hD hS => ?_)
          have hP : va_P D vwCl ([(nt, .inr (1, [.ref nt_aminutes, .ref nt_awhose, .ref nt_astates, .int nt_many])), (nt_aminutes, hcI k 10 nt_rminutes), (nt_awhose, hcI k 10 nt_rwhose), (nt_astates, hcI k 10 nt_rstates), (r, .inr (2, [.int r_told, .int r_strands, .int r_chairs, .int r_sitters, .ref r_atoldCane, .ref r_aheight, .ref r_astrandOf, .ref r_achairOf, .ref r_aweight, .ref r_acane, .int r_sits, .int r_dropped, .int r_minute, .ref r_aload, .ref r_aheads, .int r_held, .int r_heldDown]))]) H := hP
          have hD : va_D A ([(nt, .inr (1, [.ref nt_aminutes, .ref nt_awhose, .ref nt_astates, .int nt_many])), (nt_aminutes, hcI k 10 nt_rminutes), (nt_awhose, hcI k 10 nt_rwhose), (nt_astates, hcI k 10 nt_rstates), (r, .inr (2, [.int r_told, .int r_strands, .int r_chairs, .int r_sitters, .ref r_atoldCane, .ref r_aheight, .ref r_astrandOf, .ref r_achairOf, .ref r_aweight, .ref r_acane, .int r_sits, .int r_dropped, .int r_minute, .ref r_aload, .ref r_aheads, .int r_held, .int r_heldDown]))]) := hD
          have br8 := hw
          have br8 : iv (-1) (2) r8 := br8
          have br8_l := br8.1
          have br8_u := br8.2
          refine lv_aload_n hx hb dX2_agree_30 rfl (lv_at hl 1 rfl) ?_
          refine va_get (D := D) (ci := 1) (v := .ref nt_astates) (C := RX2) (T := TX2) (N := 4) hx hb hts in2 hown hG.1 hP 0 rfl rfl 2 (by decide) (hts (.fieldLink RX2 18 "ChairCane$Notes" "states" "[I") (by decide +kernel)) (fun _ h9 => h9) rfl dX2_agree_31 ?_
          refine lv_iload_n hx hb dX2_agree_34 rfl (lv_at hl 0 rfl) ?_
          refine va_iald hx hb hG.1 hP 3 0 rfl rfl (vp_in_iff.mpr ⟨by omega, by omega⟩) dX2_agree_35 ?_
          refine lv_topi (fun z9 ez9 => ?_)
          refine lv_icmp_eq (tgt := 41) hx hb dX2_agree_36 (by decide) (fun c10 => ?_) (fun c10 => ?_)
          · have fc10 := cx_eq_t (a := r8.toInt) (b := z9.toInt) rfl rfl c10
            obtain ⟨z11, ez11⟩ : ∃ z : Int32, z = L3_1 + 1 := ⟨_, rfl⟩
            have tz11 : z11.toInt = L3_1.toInt + (1) := ai_add rfl (by decide) ez11 (by omega) (by omega)
            refine lv_iinc (v := z11) (lv' := [(3, .int z11), (0, .ref nt), (1, .int x1), (2, .ref r)]) hx hb dX2_agree_41 hl (k := 0) rfl (by rw [ez11]; rfl) (by decide) rfl (fun ls hl => ?_)
            refine lv_goto (tgt := 2) hx hb dX2_agree_44 (by decide) ?_
            exact ih1 z11 ⟨by omega, by omega⟩ (by omega) _ _ _ hP hD hS (lv_sub hl [0, 1, 2, 3] rfl)
          · have fc10 := cx_eq_f (a := r8.toInt) (b := z9.toInt) rfl rfl c10
            refine lv_iconst (v := 0) hx hb dX2_agree_39 (by decide) ?_
            exact hc_endZ hx hb hr hlocks rfl () (iv_lit (by decide) (by decide)) hP hD hS dX2_agree_40
  exact loop1 100 0 (iv_lit (by decide) (by decide)) (by have q0 : (0 : Int32).toInt = 0 := (by decide); omega) _ _ _ hP hD hS hl
set_option maxHeartbeats 4000000 in
set_option maxRecDepth 100000 in
theorem i_X4_clear (l : Launch) (D : va_G) (k : Nat → ClassId) (sz : Nat) (ru : Nat) (ru_asteps : Nat) (ru_asumFrom : Nat) (ru_asumTo : Nat) (ru_atestTo : Nat) (ru_astack : Nat) (ru_length : Int32) (ru_clauses : Int32) (ru_units : Int32) (h_ru_length : iv (0) (400) ru_length) (h_ru_clauses : iv (0) (12) ru_clauses) : CtV l yX4_clear wsX4_clear (rmK 1 0 0) [.ref ru] D k sz ([(ru, .inr (3, [.ref ru_asteps, .ref ru_asumFrom, .ref ru_asumTo, .ref ru_atestTo, .ref ru_astack, .int ru_length, .int ru_clauses, .int ru_units]))]) (fun u : (Int32) × (Int32) × (Int32) => iv (0) (400) (u.1) ∧ iv (0) (12) (u.2.1)) (fun u : (Int32) × (Int32) × (Int32) => [(ru, .inr (3, [.ref ru_asteps, .ref ru_asumFrom, .ref ru_asumTo, .ref ru_atestTo, .ref ru_astack, .int (u.1), .int (u.2.1), .int (u.2.2)]))]) 0 0 := by
  have h_ru_length_l := h_ru_length.1
  have h_ru_length_u := h_ru_length.2
  have h_ru_clauses_l := h_ru_clauses.1
  have h_ru_clauses_u := h_ru_clauses.2
  refine CtV.mk (cc := cX4_clear) (maxL := 1) (ret := none) (by decide) rfl (Nat.le_of_ble_eq_true rfl) ?_
  intro p e s m below meth c A ls E hP hD hS hl
  obtain ⟨hx, hb, hr, hml, hown, hts, hlocks, hin, hG, hA⟩ := E
  have hown : s.vm.findClass RX4 = some m.cls := hown
  have in4 : ∀ w ∈ u_ws RX4 TX4 8, w ∈ wsX4_clear := fun _ h => List.mem_cons_of_mem _ (List.mem_append_right _ h)
  have hl : lv_has ls 1 [(0, .ref ru)] := hl
  refine lv_aload_n hx hb dX4_clear_0 rfl (lv_at hl 0 rfl) ?_
  refine lv_iconst (v := 0) hx hb dX4_clear_1 (by decide) ?_
  refine va_put (D := D) (ci := 3) (v := .int 0) (C := RX4) (T := TX4) (N := 8) hx hb hts in4 tyX4 tyX4_ok nmX4 hown hG.1 hP hD hS 0 rfl rfl 5 (by decide) (hts (.fieldLink RX4 28 "ChairCane$Rule" "length" "I") (by decide +kernel)) (fun _ h9 => h9) rfl (tyX4_ok 5 (by decide)) rfl rfl (Nat.le_of_ble_eq_true rfl) dX4_clear_2 (fun H locs hP hD hS => ?_)
  have hP : va_P D vwCl ([(ru, .inr (3, [.ref ru_asteps, .ref ru_asumFrom, .ref ru_asumTo, .ref ru_atestTo, .ref ru_astack, .int 0, .int ru_clauses, .int ru_units]))]) H := hP
  have hD : va_D A ([(ru, .inr (3, [.ref ru_asteps, .ref ru_asumFrom, .ref ru_asumTo, .ref ru_atestTo, .ref ru_astack, .int 0, .int ru_clauses, .int ru_units]))]) := hD
  refine lv_aload_n hx hb dX4_clear_5 rfl (lv_at hl 0 rfl) ?_
  refine lv_iconst (v := 0) hx hb dX4_clear_6 (by decide) ?_
  refine va_put (D := D) (ci := 3) (v := .int 0) (C := RX4) (T := TX4) (N := 8) hx hb hts in4 tyX4 tyX4_ok nmX4 hown hG.1 hP hD hS 0 rfl rfl 6 (by decide) (hts (.fieldLink RX4 32 "ChairCane$Rule" "clauses" "I") (by decide +kernel)) (fun _ h9 => h9) rfl (tyX4_ok 6 (by decide)) rfl rfl (Nat.le_of_ble_eq_true rfl) dX4_clear_7 (fun H locs hP hD hS => ?_)
  have hP : va_P D vwCl ([(ru, .inr (3, [.ref ru_asteps, .ref ru_asumFrom, .ref ru_asumTo, .ref ru_atestTo, .ref ru_astack, .int 0, .int 0, .int ru_units]))]) H := hP
  have hD : va_D A ([(ru, .inr (3, [.ref ru_asteps, .ref ru_asumFrom, .ref ru_asumTo, .ref ru_atestTo, .ref ru_astack, .int 0, .int 0, .int ru_units]))]) := hD
  refine lv_aload_n hx hb dX4_clear_10 rfl (lv_at hl 0 rfl) ?_
  refine lv_iconst (v := 0) hx hb dX4_clear_11 (by decide) ?_
  refine va_put (D := D) (ci := 3) (v := .int 0) (C := RX4) (T := TX4) (N := 8) hx hb hts in4 tyX4 tyX4_ok nmX4 hown hG.1 hP hD hS 0 rfl rfl 7 (by decide) (hts (.fieldLink RX4 35 "ChairCane$Rule" "units" "I") (by decide +kernel)) (fun _ h9 => h9) rfl (tyX4_ok 7 (by decide)) rfl rfl (Nat.le_of_ble_eq_true rfl) dX4_clear_12 (fun H locs hP hD hS => ?_)
  have hP : va_P D vwCl ([(ru, .inr (3, [.ref ru_asteps, .ref ru_asumFrom, .ref ru_asumTo, .ref ru_atestTo, .ref ru_astack, .int 0, .int 0, .int 0]))]) H := hP
  have hD : va_D A ([(ru, .inr (3, [.ref ru_asteps, .ref ru_asumFrom, .ref ru_asumTo, .ref ru_atestTo, .ref ru_astack, .int 0, .int 0, .int 0]))]) := hD
  exact hc_endV hx hb hr hlocks (0, 0, 0) ⟨(show iv (0) (400) 0 from iv_lit (by decide) (by decide)), (show iv (0) (12) 0 from iv_lit (by decide) (by decide))⟩ hP hD hS dX4_clear_15
set_option maxHeartbeats 4000000 in
set_option maxRecDepth 100000 in
theorem i_X4_add (l : Launch) (D : va_G) (k : Nat → ClassId) (sz : Nat) (x1 : Int32) (ru : Nat) (ru_asteps : Nat) (ru_asumFrom : Nat) (ru_asumTo : Nat) (ru_atestTo : Nat) (ru_astack : Nat) (ru_length : Int32) (ru_clauses : Int32) (ru_units : Int32) (ru_rsteps : Nat → Int32) (h_ru_length : iv (0) (400) ru_length) (h_ru_clauses : iv (0) (12) ru_clauses) : CtV l yX4_add wsX4_add (rmK 1 0 0) [.ref ru, .int x1] D k sz ([(ru, .inr (3, [.ref ru_asteps, .ref ru_asumFrom, .ref ru_asumTo, .ref ru_atestTo, .ref ru_astack, .int ru_length, .int ru_clauses, .int ru_units])), (ru_asteps, hcI k 400 ru_rsteps)]) (fun u : (Int32) × (Nat → Int32) => iv (0) (400) (u.1)) (fun u : (Int32) × (Nat → Int32) => [(ru, .inr (3, [.ref ru_asteps, .ref ru_asumFrom, .ref ru_asumTo, .ref ru_atestTo, .ref ru_astack, .int (u.1), .int ru_clauses, .int ru_units])), (ru_asteps, hcI k 400 (u.2))]) 0 0 := by
  have h_ru_length_l := h_ru_length.1
  have h_ru_length_u := h_ru_length.2
  have h_ru_clauses_l := h_ru_clauses.1
  have h_ru_clauses_u := h_ru_clauses.2
  refine CtV.mk (cc := cX4_add) (maxL := 2) (ret := none) (by decide) rfl (Nat.le_of_ble_eq_true rfl) ?_
  intro p e s m below meth c A ls E hP hD hS hl
  obtain ⟨hx, hb, hr, hml, hown, hts, hlocks, hin, hG, hA⟩ := E
  have hown : s.vm.findClass RX4 = some m.cls := hown
  have in4 : ∀ w ∈ u_ws RX4 TX4 8, w ∈ wsX4_add := fun _ h => List.mem_cons_of_mem _ (List.mem_append_right _ h)
  have hl : lv_has ls 2 [(0, .ref ru), (1, .int x1)] := hl
  refine lv_aload_n hx hb dX4_add_0 rfl (lv_at hl 0 rfl) ?_
  refine va_get (D := D) (ci := 3) (v := .int ru_length) (C := RX4) (T := TX4) (N := 8) hx hb hts in4 hown hG.1 hP 0 rfl rfl 5 (by decide) (hts (.fieldLink RX4 28 "ChairCane$Rule" "length" "I") (by decide +kernel)) (fun _ h9 => h9) rfl dX4_add_1 ?_
  refine lv_sipush (v := 400) hx hb dX4_add_4 (by decide) ?_
  refine lv_icmp_ge (tgt := 30) hx hb dX4_add_7 (by decide) (fun c1 => ?_) (fun c1 => ?_)
  · have fc1 := cx_ge_t (a := ru_length.toInt) (b := 400) rfl (by decide) c1
    exact hc_endV hx hb hr hlocks (ru_length, ru_rsteps) ((show iv (0) (400) ru_length from ⟨by omega, by omega⟩)) hP hD hS dX4_add_30
  · have fc1 := cx_ge_f (a := ru_length.toInt) (b := 400) rfl (by decide) c1
    refine lv_aload_n hx hb dX4_add_10 rfl (lv_at hl 0 rfl) ?_
    refine va_get (D := D) (ci := 3) (v := .ref ru_asteps) (C := RX4) (T := TX4) (N := 8) hx hb hts in4 hown hG.1 hP 0 rfl rfl 0 (by decide) (hts (.fieldLink RX4 9 "ChairCane$Rule" "steps" "[I") (by decide +kernel)) (fun _ h9 => h9) rfl dX4_add_11 ?_
    refine lv_aload_n hx hb dX4_add_14 rfl (lv_at hl 0 rfl) ?_
    refine va_get (D := D) (ci := 3) (v := .int ru_length) (C := RX4) (T := TX4) (N := 8) hx hb hts in4 hown hG.1 hP 0 rfl rfl 5 (by decide) (hts (.fieldLink RX4 28 "ChairCane$Rule" "length" "I") (by decide +kernel)) (fun _ h9 => h9) rfl dX4_add_15 ?_
    refine lv_iload_n hx hb dX4_add_18 rfl (lv_at hl 1 rfl) ?_
    refine va_iast hx hb hG.1 hP hD hS 1 0 rfl rfl (vp_in_iff.mpr ⟨by omega, by omega⟩) dX4_add_19 (fun H locs hP hD hS => ?_)
    obtain ⟨f2, ef2⟩ : ∃ f, f = upd ru_rsteps (Int32.toNatClampNeg ru_length) (x1) := ⟨_, rfl⟩
    rw [← ef2] at hP hD
    have hP : va_P D vwCl ([(ru, .inr (3, [.ref ru_asteps, .ref ru_asumFrom, .ref ru_asumTo, .ref ru_atestTo, .ref ru_astack, .int ru_length, .int ru_clauses, .int ru_units])), (ru_asteps, hcI k 400 f2)]) H := hP
    have hD : va_D A ([(ru, .inr (3, [.ref ru_asteps, .ref ru_asumFrom, .ref ru_asumTo, .ref ru_atestTo, .ref ru_astack, .int ru_length, .int ru_clauses, .int ru_units])), (ru_asteps, hcI k 400 f2)]) := hD
    refine lv_aload_n hx hb dX4_add_20 rfl (lv_at hl 0 rfl) ?_
    refine lv_dup hx hb dX4_add_21 rfl ?_
    refine va_get (D := D) (ci := 3) (v := .int ru_length) (C := RX4) (T := TX4) (N := 8) hx hb hts in4 hown hG.1 hP 0 rfl rfl 5 (by decide) (hts (.fieldLink RX4 28 "ChairCane$Rule" "length" "I") (by decide +kernel)) (fun _ h9 => h9) rfl dX4_add_22 ?_
    refine lv_iconst (v := 1) hx hb dX4_add_25 (by decide) ?_
    refine lv_iadd hx hb dX4_add_26 ?_
    refine lv_topi (fun z3 ez3 => ?_)
    have tz3 : z3.toInt = ru_length.toInt + 1 := ai_add rfl (by decide) ez3 (by omega) (by omega)
    refine va_put (D := D) (ci := 3) (v := .int z3) (C := RX4) (T := TX4) (N := 8) hx hb hts in4 tyX4 tyX4_ok nmX4 hown hG.1 hP hD hS 0 rfl rfl 5 (by decide) (hts (.fieldLink RX4 28 "ChairCane$Rule" "length" "I") (by decide +kernel)) (fun _ h9 => h9) rfl (tyX4_ok 5 (by decide)) rfl rfl (Nat.le_of_ble_eq_true rfl) dX4_add_27 (fun H locs hP hD hS => ?_)
    have hP : va_P D vwCl ([(ru, .inr (3, [.ref ru_asteps, .ref ru_asumFrom, .ref ru_asumTo, .ref ru_atestTo, .ref ru_astack, .int z3, .int ru_clauses, .int ru_units])), (ru_asteps, hcI k 400 f2)]) H := hP
    have hD : va_D A ([(ru, .inr (3, [.ref ru_asteps, .ref ru_asumFrom, .ref ru_asumTo, .ref ru_atestTo, .ref ru_astack, .int z3, .int ru_clauses, .int ru_units])), (ru_asteps, hcI k 400 f2)]) := hD
    exact hc_endV hx hb hr hlocks (z3, f2) ((show iv (0) (400) z3 from ⟨by omega, by omega⟩)) hP hD hS dX4_add_30
set_option maxHeartbeats 4000000 in
set_option maxRecDepth 100000 in
theorem i_X4_closeClause (l : Launch) (D : va_G) (k : Nat → ClassId) (sz : Nat) (x1 : Int32) (x2 : Int32) (ru : Nat) (ru_asteps : Nat) (ru_asumFrom : Nat) (ru_asumTo : Nat) (ru_atestTo : Nat) (ru_astack : Nat) (ru_length : Int32) (ru_clauses : Int32) (ru_units : Int32) (ru_rsumFrom : Nat → Int32) (ru_rsumTo : Nat → Int32) (ru_rtestTo : Nat → Int32) (h_x1 : iv (0) (400) x1) (h_x2 : iv (0) (400) x2) (h_ru_length : iv (0) (400) ru_length) (h_ru_clauses : iv (0) (12) ru_clauses) (h_ru_rsumFrom : rowIn (0) (400) ru_rsumFrom) (h_ru_rsumTo : rowIn (0) (400) ru_rsumTo) (h_ru_rtestTo : rowIn (0) (400) ru_rtestTo) : CtV l yX4_closeClause wsX4_closeClause (rmK 1 0 0) [.ref ru, .int x1, .int x2] D k sz ([(ru, .inr (3, [.ref ru_asteps, .ref ru_asumFrom, .ref ru_asumTo, .ref ru_atestTo, .ref ru_astack, .int ru_length, .int ru_clauses, .int ru_units])), (ru_asumFrom, hcI k 12 ru_rsumFrom), (ru_asumTo, hcI k 12 ru_rsumTo), (ru_atestTo, hcI k 12 ru_rtestTo)]) (fun u : (Int32) × (Nat → Int32) × (Nat → Int32) × (Nat → Int32) => iv (0) (12) (u.1) ∧ rowIn (0) (400) (u.2.1) ∧ rowIn (0) (400) (u.2.2.1) ∧ rowIn (0) (400) (u.2.2.2)) (fun u : (Int32) × (Nat → Int32) × (Nat → Int32) × (Nat → Int32) => [(ru, .inr (3, [.ref ru_asteps, .ref ru_asumFrom, .ref ru_asumTo, .ref ru_atestTo, .ref ru_astack, .int ru_length, .int (u.1), .int ru_units])), (ru_asumFrom, hcI k 12 (u.2.1)), (ru_asumTo, hcI k 12 (u.2.2.1)), (ru_atestTo, hcI k 12 (u.2.2.2))]) 0 0 := by
  have h_x1_l := h_x1.1
  have h_x1_u := h_x1.2
  have h_x2_l := h_x2.1
  have h_x2_u := h_x2.2
  have h_ru_length_l := h_ru_length.1
  have h_ru_length_u := h_ru_length.2
  have h_ru_clauses_l := h_ru_clauses.1
  have h_ru_clauses_u := h_ru_clauses.2
  refine CtV.mk (cc := cX4_closeClause) (maxL := 3) (ret := none) (by decide) rfl (Nat.le_of_ble_eq_true rfl) ?_
  intro p e s m below meth c A ls E hP hD hS hl
  obtain ⟨hx, hb, hr, hml, hown, hts, hlocks, hin, hG, hA⟩ := E
  have hown : s.vm.findClass RX4 = some m.cls := hown
  have in4 : ∀ w ∈ u_ws RX4 TX4 8, w ∈ wsX4_closeClause := fun _ h => List.mem_cons_of_mem _ (List.mem_append_right _ h)
  have hl : lv_has ls 3 [(0, .ref ru), (1, .int x1), (2, .int x2)] := hl
  refine lv_aload_n hx hb dX4_closeClause_0 rfl (lv_at hl 0 rfl) ?_
  refine va_get (D := D) (ci := 3) (v := .int ru_clauses) (C := RX4) (T := TX4) (N := 8) hx hb hts in4 hown hG.1 hP 0 rfl rfl 6 (by decide) (hts (.fieldLink RX4 32 "ChairCane$Rule" "clauses" "I") (by decide +kernel)) (fun _ h9 => h9) rfl dX4_closeClause_1 ?_
  refine lv_bipush (v := 12) hx hb dX4_closeClause_4 (by decide) ?_
  refine lv_icmp_ge (tgt := 52) hx hb dX4_closeClause_6 (by decide) (fun c1 => ?_) (fun c1 => ?_)
  · have fc1 := cx_ge_t (a := ru_clauses.toInt) (b := 12) rfl (by decide) c1
    exact hc_endV hx hb hr hlocks (ru_clauses, ru_rsumFrom, ru_rsumTo, ru_rtestTo) ⟨(show iv (0) (12) ru_clauses from ⟨by omega, by omega⟩), h_ru_rsumFrom, h_ru_rsumTo, h_ru_rtestTo⟩ hP hD hS dX4_closeClause_52
  · have fc1 := cx_ge_f (a := ru_clauses.toInt) (b := 12) rfl (by decide) c1
    refine lv_aload_n hx hb dX4_closeClause_9 rfl (lv_at hl 0 rfl) ?_
    refine va_get (D := D) (ci := 3) (v := .ref ru_asumFrom) (C := RX4) (T := TX4) (N := 8) hx hb hts in4 hown hG.1 hP 0 rfl rfl 1 (by decide) (hts (.fieldLink RX4 15 "ChairCane$Rule" "sumFrom" "[I") (by decide +kernel)) (fun _ h9 => h9) rfl dX4_closeClause_10 ?_
    refine lv_aload_n hx hb dX4_closeClause_13 rfl (lv_at hl 0 rfl) ?_
    refine va_get (D := D) (ci := 3) (v := .int ru_clauses) (C := RX4) (T := TX4) (N := 8) hx hb hts in4 hown hG.1 hP 0 rfl rfl 6 (by decide) (hts (.fieldLink RX4 32 "ChairCane$Rule" "clauses" "I") (by decide +kernel)) (fun _ h9 => h9) rfl dX4_closeClause_14 ?_
    refine lv_iload_n hx hb dX4_closeClause_17 rfl (lv_at hl 1 rfl) ?_
    refine va_iast hx hb hG.1 hP hD hS 1 0 rfl rfl (vp_in_iff.mpr ⟨by omega, by omega⟩) dX4_closeClause_18 (fun H locs hP hD hS => ?_)
    obtain ⟨f2, ef2⟩ : ∃ f, f = upd ru_rsumFrom (Int32.toNatClampNeg ru_clauses) (x1) := ⟨_, rfl⟩
    rw [← ef2] at hP hD
    have h_f2 : rowIn (0) (400) f2 := by rw [ef2]; exact row_upd h_ru_rsumFrom ⟨by omega, by omega⟩
    have hP : va_P D vwCl ([(ru, .inr (3, [.ref ru_asteps, .ref ru_asumFrom, .ref ru_asumTo, .ref ru_atestTo, .ref ru_astack, .int ru_length, .int ru_clauses, .int ru_units])), (ru_asumFrom, hcI k 12 f2), (ru_asumTo, hcI k 12 ru_rsumTo), (ru_atestTo, hcI k 12 ru_rtestTo)]) H := hP
    have hD : va_D A ([(ru, .inr (3, [.ref ru_asteps, .ref ru_asumFrom, .ref ru_asumTo, .ref ru_atestTo, .ref ru_astack, .int ru_length, .int ru_clauses, .int ru_units])), (ru_asumFrom, hcI k 12 f2), (ru_asumTo, hcI k 12 ru_rsumTo), (ru_atestTo, hcI k 12 ru_rtestTo)]) := hD
    refine lv_aload_n hx hb dX4_closeClause_19 rfl (lv_at hl 0 rfl) ?_
    refine va_get (D := D) (ci := 3) (v := .ref ru_asumTo) (C := RX4) (T := TX4) (N := 8) hx hb hts in4 hown hG.1 hP 0 rfl rfl 2 (by decide) (hts (.fieldLink RX4 18 "ChairCane$Rule" "sumTo" "[I") (by decide +kernel)) (fun _ h9 => h9) rfl dX4_closeClause_20 ?_
    refine lv_aload_n hx hb dX4_closeClause_23 rfl (lv_at hl 0 rfl) ?_
    refine va_get (D := D) (ci := 3) (v := .int ru_clauses) (C := RX4) (T := TX4) (N := 8) hx hb hts in4 hown hG.1 hP 0 rfl rfl 6 (by decide) (hts (.fieldLink RX4 32 "ChairCane$Rule" "clauses" "I") (by decide +kernel)) (fun _ h9 => h9) rfl dX4_closeClause_24 ?_
    refine lv_iload_n hx hb dX4_closeClause_27 rfl (lv_at hl 2 rfl) ?_
    refine va_iast hx hb hG.1 hP hD hS 2 0 rfl rfl (vp_in_iff.mpr ⟨by omega, by omega⟩) dX4_closeClause_28 (fun H locs hP hD hS => ?_)
    obtain ⟨f3, ef3⟩ : ∃ f, f = upd ru_rsumTo (Int32.toNatClampNeg ru_clauses) (x2) := ⟨_, rfl⟩
    rw [← ef3] at hP hD
    have h_f3 : rowIn (0) (400) f3 := by rw [ef3]; exact row_upd h_ru_rsumTo ⟨by omega, by omega⟩
    have hP : va_P D vwCl ([(ru, .inr (3, [.ref ru_asteps, .ref ru_asumFrom, .ref ru_asumTo, .ref ru_atestTo, .ref ru_astack, .int ru_length, .int ru_clauses, .int ru_units])), (ru_asumFrom, hcI k 12 f2), (ru_asumTo, hcI k 12 f3), (ru_atestTo, hcI k 12 ru_rtestTo)]) H := hP
    have hD : va_D A ([(ru, .inr (3, [.ref ru_asteps, .ref ru_asumFrom, .ref ru_asumTo, .ref ru_atestTo, .ref ru_astack, .int ru_length, .int ru_clauses, .int ru_units])), (ru_asumFrom, hcI k 12 f2), (ru_asumTo, hcI k 12 f3), (ru_atestTo, hcI k 12 ru_rtestTo)]) := hD
    refine lv_aload_n hx hb dX4_closeClause_29 rfl (lv_at hl 0 rfl) ?_
    refine va_get (D := D) (ci := 3) (v := .ref ru_atestTo) (C := RX4) (T := TX4) (N := 8) hx hb hts in4 hown hG.1 hP 0 rfl rfl 3 (by decide) (hts (.fieldLink RX4 21 "ChairCane$Rule" "testTo" "[I") (by decide +kernel)) (fun _ h9 => h9) rfl dX4_closeClause_30 ?_
    refine lv_aload_n hx hb dX4_closeClause_33 rfl (lv_at hl 0 rfl) ?_
    refine va_get (D := D) (ci := 3) (v := .int ru_clauses) (C := RX4) (T := TX4) (N := 8) hx hb hts in4 hown hG.1 hP 0 rfl rfl 6 (by decide) (hts (.fieldLink RX4 32 "ChairCane$Rule" "clauses" "I") (by decide +kernel)) (fun _ h9 => h9) rfl dX4_closeClause_34 ?_
    refine lv_aload_n hx hb dX4_closeClause_37 rfl (lv_at hl 0 rfl) ?_
    refine va_get (D := D) (ci := 3) (v := .int ru_length) (C := RX4) (T := TX4) (N := 8) hx hb hts in4 hown hG.1 hP 0 rfl rfl 5 (by decide) (hts (.fieldLink RX4 28 "ChairCane$Rule" "length" "I") (by decide +kernel)) (fun _ h9 => h9) rfl dX4_closeClause_38 ?_
    refine va_iast hx hb hG.1 hP hD hS 3 0 rfl rfl (vp_in_iff.mpr ⟨by omega, by omega⟩) dX4_closeClause_41 (fun H locs hP hD hS => ?_)
    obtain ⟨f4, ef4⟩ : ∃ f, f = upd ru_rtestTo (Int32.toNatClampNeg ru_clauses) (ru_length) := ⟨_, rfl⟩
    rw [← ef4] at hP hD
    have h_f4 : rowIn (0) (400) f4 := by rw [ef4]; exact row_upd h_ru_rtestTo ⟨by omega, by omega⟩
    have hP : va_P D vwCl ([(ru, .inr (3, [.ref ru_asteps, .ref ru_asumFrom, .ref ru_asumTo, .ref ru_atestTo, .ref ru_astack, .int ru_length, .int ru_clauses, .int ru_units])), (ru_asumFrom, hcI k 12 f2), (ru_asumTo, hcI k 12 f3), (ru_atestTo, hcI k 12 f4)]) H := hP
    have hD : va_D A ([(ru, .inr (3, [.ref ru_asteps, .ref ru_asumFrom, .ref ru_asumTo, .ref ru_atestTo, .ref ru_astack, .int ru_length, .int ru_clauses, .int ru_units])), (ru_asumFrom, hcI k 12 f2), (ru_asumTo, hcI k 12 f3), (ru_atestTo, hcI k 12 f4)]) := hD
    refine lv_aload_n hx hb dX4_closeClause_42 rfl (lv_at hl 0 rfl) ?_
    refine lv_dup hx hb dX4_closeClause_43 rfl ?_
    refine va_get (D := D) (ci := 3) (v := .int ru_clauses) (C := RX4) (T := TX4) (N := 8) hx hb hts in4 hown hG.1 hP 0 rfl rfl 6 (by decide) (hts (.fieldLink RX4 32 "ChairCane$Rule" "clauses" "I") (by decide +kernel)) (fun _ h9 => h9) rfl dX4_closeClause_44 ?_
    refine lv_iconst (v := 1) hx hb dX4_closeClause_47 (by decide) ?_
    refine lv_iadd hx hb dX4_closeClause_48 ?_
    refine lv_topi (fun z5 ez5 => ?_)
    have tz5 : z5.toInt = ru_clauses.toInt + 1 := ai_add rfl (by decide) ez5 (by omega) (by omega)
    refine va_put (D := D) (ci := 3) (v := .int z5) (C := RX4) (T := TX4) (N := 8) hx hb hts in4 tyX4 tyX4_ok nmX4 hown hG.1 hP hD hS 0 rfl rfl 6 (by decide) (hts (.fieldLink RX4 32 "ChairCane$Rule" "clauses" "I") (by decide +kernel)) (fun _ h9 => h9) rfl (tyX4_ok 6 (by decide)) rfl rfl (Nat.le_of_ble_eq_true rfl) dX4_closeClause_49 (fun H locs hP hD hS => ?_)
    have hP : va_P D vwCl ([(ru, .inr (3, [.ref ru_asteps, .ref ru_asumFrom, .ref ru_asumTo, .ref ru_atestTo, .ref ru_astack, .int ru_length, .int z5, .int ru_units])), (ru_asumFrom, hcI k 12 f2), (ru_asumTo, hcI k 12 f3), (ru_atestTo, hcI k 12 f4)]) H := hP
    have hD : va_D A ([(ru, .inr (3, [.ref ru_asteps, .ref ru_asumFrom, .ref ru_asumTo, .ref ru_atestTo, .ref ru_astack, .int ru_length, .int z5, .int ru_units])), (ru_asumFrom, hcI k 12 f2), (ru_asumTo, hcI k 12 f3), (ru_atestTo, hcI k 12 f4)]) := hD
    exact hc_endV hx hb hr hlocks (z5, f2, f3, f4) ⟨(show iv (0) (12) z5 from ⟨by omega, by omega⟩), h_f2, h_f3, h_f4⟩ hP hD hS dX4_closeClause_52
