/-! the hall's reader: what never breaks -/
set_option maxHeartbeats 4000000 in
set_option maxRecDepth 100000 in
theorem i_X1_readStrand (l : Launch) (D : va_G) (k : Nat → ClassId) (sz : Nat) (t : Nat) (t_abytes : Nat) (t_length : Int32) (t_akinds : Nat) (t_aplaces : Nat) (t_avalues : Nat) (t_pieces : Int32) (t_at : Int32) (t_fault : Int32) (t_rkinds : Nat → Int32) (t_rplaces : Nat → Int32) (t_rvalues : Nat → Int32) (r : Nat) (r_told : Int32) (r_strands : Int32) (r_chairs : Int32) (r_sitters : Int32) (r_atoldCane : Nat) (r_aheight : Nat) (r_astrandOf : Nat) (r_achairOf : Nat) (r_aweight : Nat) (r_acane : Nat) (r_sits : Int32) (r_dropped : Int32) (r_minute : Int32) (r_aload : Nat) (r_aheads : Nat) (r_held : Int32) (r_heldDown : Int32) (r_rtoldCane : Nat → Int32) (h_t_length : iv (0) (400) t_length) (h_t_pieces : iv (0) (401) t_pieces) (h_t_at : iv (0) (400) t_at) (h_r_told : iv (0) (1) r_told) (h_r_strands : iv (0) (4) r_strands) (h_r_chairs : iv (0) (8) r_chairs) (h_r_sitters : iv (0) (8) r_sitters) : CtI l yX1_readStrand wsX1_readStrand (rmK 3 0 0) [.ref t, .ref r] D k sz ([(t, .inr (5, [.ref t_abytes, .int t_length, .ref t_akinds, .ref t_aplaces, .ref t_avalues, .int t_pieces, .int t_at, .int t_fault])), (t_akinds, hcI k 401 t_rkinds), (t_aplaces, hcI k 401 t_rplaces), (t_avalues, hcI k 401 t_rvalues), (r, .inr (2, [.int r_told, .int r_strands, .int r_chairs, .int r_sitters, .ref r_atoldCane, .ref r_aheight, .ref r_astrandOf, .ref r_achairOf, .ref r_aweight, .ref r_acane, .int r_sits, .int r_dropped, .int r_minute, .ref r_aload, .ref r_aheads, .int r_held, .int r_heldDown])), (r_atoldCane, hcI k 4 r_rtoldCane)]) (fun (r : Int32) (u : (Int32) × (Int32) × (Int32) × (Nat → Int32)) => iv (0) (1) r ∧ iv (0) (400) (u.1) ∧ iv (0) (4) (u.2.2.1)) (fun u : (Int32) × (Int32) × (Int32) × (Nat → Int32) => [(t, .inr (5, [.ref t_abytes, .int t_length, .ref t_akinds, .ref t_aplaces, .ref t_avalues, .int t_pieces, .int (u.1), .int (u.2.1)])), (t_akinds, hcI k 401 t_rkinds), (t_aplaces, hcI k 401 t_rplaces), (t_avalues, hcI k 401 t_rvalues), (r, .inr (2, [.int r_told, .int (u.2.2.1), .int r_chairs, .int r_sitters, .ref r_atoldCane, .ref r_aheight, .ref r_astrandOf, .ref r_achairOf, .ref r_aweight, .ref r_acane, .int r_sits, .int r_dropped, .int r_minute, .ref r_aload, .ref r_aheads, .int r_held, .int r_heldDown])), (r_atoldCane, hcI k 4 (u.2.2.2))]) 0 0 := by
  have h_t_length_l := h_t_length.1
  have h_t_length_u := h_t_length.2
  have h_t_pieces_l := h_t_pieces.1
  have h_t_pieces_u := h_t_pieces.2
  have h_t_at_l := h_t_at.1
  have h_t_at_u := h_t_at.2
  have h_r_told_l := h_r_told.1
  have h_r_told_u := h_r_told.2
  have h_r_strands_l := h_r_strands.1
  have h_r_strands_u := h_r_strands.2
  have h_r_chairs_l := h_r_chairs.1
  have h_r_chairs_u := h_r_chairs.2
  have h_r_sitters_l := h_r_sitters.1
  have h_r_sitters_u := h_r_sitters.2
  refine CtI.mk (cc := cX1_readStrand) (maxL := 3) (ret := (some .boolean)) (by decide) rfl (Nat.le_of_ble_eq_true rfl) ?_
  intro p e s m below meth c A ls E hP hD hS hl
  obtain ⟨hx, hb, hr, hml, hown, hts, hlocks, hin, hG, hA⟩ := E
  have hown : s.vm.findClass RX1 = some m.cls := hown
  have in3 : ∀ w ∈ u_ws RX3 TX3 17, w ∈ wsX1_readStrand := fun _ h => List.mem_cons_of_mem _ (List.mem_append_left _ (List.mem_append_right _ h))
  have in7 : ∀ w ∈ u_ws RX7 TX7 8, w ∈ wsX1_readStrand := fun _ h => List.mem_cons_of_mem _ (List.mem_append_right _ h)
  have hl : lv_has ls 3 [(0, .ref t), (1, .ref r)] := hl
  refine lv_aload_n hx hb dX1_readStrand_0 rfl (lv_at hl 0 rfl) ?_
  refine lv_iconst (v := 0) hx hb dX1_readStrand_1 (by decide) ?_
  refine lv_bipush (v := 99) hx hb dX1_readStrand_2 (by decide) ?_
  refine hc_Vi (As := [.int 0, .int 99]) (rest := []) (n := 2) (wr := [(r, .inr (2, [.int r_told, .int r_strands, .int r_chairs, .int r_sitters, .ref r_atoldCane, .ref r_aheight, .ref r_astrandOf, .ref r_achairOf, .ref r_aweight, .ref r_acane, .int r_sits, .int r_dropped, .int r_minute, .ref r_aload, .ref r_aheads, .int r_held, .int r_heldDown])), (r_atoldCane, hcI k 4 r_rtoldCane)]) hx hb hml hown hts hG hA hP hD hS hl.1 [0, 1, 2, 3] [4, 5] (i_X7_takeNumber l D k _ 0 99 t t_abytes t_length t_akinds t_aplaces t_avalues t_pieces t_at t_fault t_rkinds t_rplaces t_rvalues ⟨by omega, by omega⟩ ⟨by omega, by omega⟩ ⟨by omega, by omega⟩) (ci := 5) (q0 := 0) rfl rfl gX1_readStrand_X7_takeNumber rfl ⟨rfl, rfl, Nat.le_of_ble_eq_true rfl, Nat.le_of_ble_eq_true rfl⟩ (by decide +kernel) rfl rfl ⟨by decide, by decide, by decide⟩ ⟨rfl, rfl, Nat.le_of_ble_eq_true rfl, Nat.le_of_ble_eq_true rfl, Nat.le_of_ble_eq_true rfl⟩ dX1_readStrand_4 (fun r2 u1 H locs hw hP hD hS => ?_)
  obtain ⟨w3, w4⟩ := u1
  have hP : va_P D vwCl ([(r, .inr (2, [.int r_told, .int r_strands, .int r_chairs, .int r_sitters, .ref r_atoldCane, .ref r_aheight, .ref r_astrandOf, .ref r_achairOf, .ref r_aweight, .ref r_acane, .int r_sits, .int r_dropped, .int r_minute, .ref r_aload, .ref r_aheads, .int r_held, .int r_heldDown])), (r_atoldCane, hcI k 4 r_rtoldCane), (t, .inr (5, [.ref t_abytes, .int t_length, .ref t_akinds, .ref t_aplaces, .ref t_avalues, .int t_pieces, .int w4, .int w3])), (t_akinds, hcI k 401 t_rkinds), (t_aplaces, hcI k 401 t_rplaces), (t_avalues, hcI k 401 t_rvalues)]) H := hP
  have hD : va_D A ([(r, .inr (2, [.int r_told, .int r_strands, .int r_chairs, .int r_sitters, .ref r_atoldCane, .ref r_aheight, .ref r_astrandOf, .ref r_achairOf, .ref r_aweight, .ref r_acane, .int r_sits, .int r_dropped, .int r_minute, .ref r_aload, .ref r_aheads, .int r_held, .int r_heldDown])), (r_atoldCane, hcI k 4 r_rtoldCane), (t, .inr (5, [.ref t_abytes, .int t_length, .ref t_akinds, .ref t_aplaces, .ref t_avalues, .int t_pieces, .int w4, .int w3])), (t_akinds, hcI k 401 t_rkinds), (t_aplaces, hcI k 401 t_rplaces), (t_avalues, hcI k 401 t_rvalues)]) := hD
  have ql6 : (0 : Int32).toInt = 0 := by decide
  have ql7 : (99 : Int32).toInt = 99 := by decide
  obtain ⟨bw4, rel5⟩ := hw
  have bw4 : iv (0) (400) w4 := bw4
  have bw4_l := bw4.1
  have bw4_u := bw4.2
  refine lv_istore_n (lv' := [(2, .int r2), (0, .ref t), (1, .ref r)]) hx hb dX1_readStrand_7 rfl hl (by decide) rfl (fun ls hl => ?_)
  refine lv_iload_n hx hb dX1_readStrand_8 rfl (lv_at hl 0 rfl) ?_
  refine lv_iconst (v := (-1)) hx hb dX1_readStrand_9 (by decide) ?_
  refine lv_icmp_eq (tgt := 21) hx hb dX1_readStrand_10 (by decide) (fun c8 => ?_) (fun c8 => ?_)
  · have fc8 := cx_eq_t (a := r2.toInt) (b := (-1)) rfl (by decide) c8
    refine lv_iconst (v := 0) hx hb dX1_readStrand_21 (by decide) ?_
    exact hc_endZ hx hb hr hlocks rfl (w4, w3, r_strands, r_rtoldCane) ⟨iv_lit (by decide) (by decide), (show iv (0) (400) w4 from ⟨by omega, by omega⟩), (show iv (0) (4) r_strands from ⟨by omega, by omega⟩)⟩ (hP.sub [2, 3, 4, 5, 0, 1] rfl) (hD.sub [2, 3, 4, 5, 0, 1] (by decide) rfl) hS dX1_readStrand_22
  · have fc8 := cx_eq_f (a := r2.toInt) (b := (-1)) rfl (by decide) c8
    refine lv_aload_n hx hb dX1_readStrand_13 rfl (lv_at hl 2 rfl) ?_
    refine va_get (D := D) (ci := 2) (v := .int r_strands) (C := RX3) (T := TX3) (N := 17) hx hb hts in3 hown hG.1 hP 0 rfl rfl 1 (by decide) (hts (.fieldLink RX1 43 "ChairCane$Room" "strands" "I") (by decide +kernel)) (fun _ h9 => h9) rfl dX1_readStrand_14 ?_
    refine lv_iconst (v := 4) hx hb dX1_readStrand_17 (by decide) ?_
    refine lv_icmp_lt (tgt := 23) hx hb dX1_readStrand_18 (by decide) (fun c9 => ?_) (fun c9 => ?_)
    · have fc9 := cx_lt_t (a := r_strands.toInt) (b := 4) rfl (by decide) c9
      refine lv_aload_n hx hb dX1_readStrand_23 rfl (lv_at hl 2 rfl) ?_
      refine va_get (D := D) (ci := 2) (v := .ref r_atoldCane) (C := RX3) (T := TX3) (N := 17) hx hb hts in3 hown hG.1 hP 0 rfl rfl 4 (by decide) (hts (.fieldLink RX1 67 "ChairCane$Room" "toldCane" "[I") (by decide +kernel)) (fun _ h9 => h9) rfl dX1_readStrand_24 ?_
      refine lv_aload_n hx hb dX1_readStrand_27 rfl (lv_at hl 2 rfl) ?_
      refine va_get (D := D) (ci := 2) (v := .int r_strands) (C := RX3) (T := TX3) (N := 17) hx hb hts in3 hown hG.1 hP 0 rfl rfl 1 (by decide) (hts (.fieldLink RX1 43 "ChairCane$Room" "strands" "I") (by decide +kernel)) (fun _ h9 => h9) rfl dX1_readStrand_28 ?_
      refine lv_iload_n hx hb dX1_readStrand_31 rfl (lv_at hl 0 rfl) ?_
      refine va_iast hx hb hG.1 hP hD hS 1 0 rfl rfl (vp_in_iff.mpr ⟨by omega, by omega⟩) dX1_readStrand_32 (fun H locs hP hD hS => ?_)
      obtain ⟨f10, ef10⟩ : ∃ f, f = upd r_rtoldCane (Int32.toNatClampNeg r_strands) (r2) := ⟨_, rfl⟩
      rw [← ef10] at hP hD
      have hP : va_P D vwCl ([(r, .inr (2, [.int r_told, .int r_strands, .int r_chairs, .int r_sitters, .ref r_atoldCane, .ref r_aheight, .ref r_astrandOf, .ref r_achairOf, .ref r_aweight, .ref r_acane, .int r_sits, .int r_dropped, .int r_minute, .ref r_aload, .ref r_aheads, .int r_held, .int r_heldDown])), (r_atoldCane, hcI k 4 f10), (t, .inr (5, [.ref t_abytes, .int t_length, .ref t_akinds, .ref t_aplaces, .ref t_avalues, .int t_pieces, .int w4, .int w3])), (t_akinds, hcI k 401 t_rkinds), (t_aplaces, hcI k 401 t_rplaces), (t_avalues, hcI k 401 t_rvalues)]) H := hP
      have hD : va_D A ([(r, .inr (2, [.int r_told, .int r_strands, .int r_chairs, .int r_sitters, .ref r_atoldCane, .ref r_aheight, .ref r_astrandOf, .ref r_achairOf, .ref r_aweight, .ref r_acane, .int r_sits, .int r_dropped, .int r_minute, .ref r_aload, .ref r_aheads, .int r_held, .int r_heldDown])), (r_atoldCane, hcI k 4 f10), (t, .inr (5, [.ref t_abytes, .int t_length, .ref t_akinds, .ref t_aplaces, .ref t_avalues, .int t_pieces, .int w4, .int w3])), (t_akinds, hcI k 401 t_rkinds), (t_aplaces, hcI k 401 t_rplaces), (t_avalues, hcI k 401 t_rvalues)]) := hD
      refine lv_aload_n hx hb dX1_readStrand_33 rfl (lv_at hl 2 rfl) ?_
      refine lv_dup hx hb dX1_readStrand_34 rfl ?_
      refine va_get (D := D) (ci := 2) (v := .int r_strands) (C := RX3) (T := TX3) (N := 17) hx hb hts in3 hown hG.1 hP 0 rfl rfl 1 (by decide) (hts (.fieldLink RX1 43 "ChairCane$Room" "strands" "I") (by decide +kernel)) (fun _ h9 => h9) rfl dX1_readStrand_35 ?_
      refine lv_iconst (v := 1) hx hb dX1_readStrand_38 (by decide) ?_
      refine lv_iadd hx hb dX1_readStrand_39 ?_
      refine lv_topi (fun z11 ez11 => ?_)
      have tz11 : z11.toInt = r_strands.toInt + 1 := ai_add rfl (by decide) ez11 (by omega) (by omega)
      refine va_put (D := D) (ci := 2) (v := .int z11) (C := RX3) (T := TX3) (N := 17) hx hb hts in3 tyX3 tyX3_ok nmX3 hown hG.1 hP hD hS 0 rfl rfl 1 (by decide) (hts (.fieldLink RX1 43 "ChairCane$Room" "strands" "I") (by decide +kernel)) (fun _ h9 => h9) rfl (tyX3_ok 1 (by decide)) rfl rfl (Nat.le_of_ble_eq_true rfl) dX1_readStrand_40 (fun H locs hP hD hS => ?_)
      have hP : va_P D vwCl ([(r, .inr (2, [.int r_told, .int z11, .int r_chairs, .int r_sitters, .ref r_atoldCane, .ref r_aheight, .ref r_astrandOf, .ref r_achairOf, .ref r_aweight, .ref r_acane, .int r_sits, .int r_dropped, .int r_minute, .ref r_aload, .ref r_aheads, .int r_held, .int r_heldDown])), (r_atoldCane, hcI k 4 f10), (t, .inr (5, [.ref t_abytes, .int t_length, .ref t_akinds, .ref t_aplaces, .ref t_avalues, .int t_pieces, .int w4, .int w3])), (t_akinds, hcI k 401 t_rkinds), (t_aplaces, hcI k 401 t_rplaces), (t_avalues, hcI k 401 t_rvalues)]) H := hP
      have hD : va_D A ([(r, .inr (2, [.int r_told, .int z11, .int r_chairs, .int r_sitters, .ref r_atoldCane, .ref r_aheight, .ref r_astrandOf, .ref r_achairOf, .ref r_aweight, .ref r_acane, .int r_sits, .int r_dropped, .int r_minute, .ref r_aload, .ref r_aheads, .int r_held, .int r_heldDown])), (r_atoldCane, hcI k 4 f10), (t, .inr (5, [.ref t_abytes, .int t_length, .ref t_akinds, .ref t_aplaces, .ref t_avalues, .int t_pieces, .int w4, .int w3])), (t_akinds, hcI k 401 t_rkinds), (t_aplaces, hcI k 401 t_rplaces), (t_avalues, hcI k 401 t_rvalues)]) := hD
      refine lv_iconst (v := 1) hx hb dX1_readStrand_43 (by decide) ?_
      exact hc_endZ hx hb hr hlocks rfl (w4, w3, z11, f10) ⟨iv_lit (by decide) (by decide), (show iv (0) (400) w4 from ⟨by omega, by omega⟩), (show iv (0) (4) z11 from ⟨by omega, by omega⟩)⟩ (hP.sub [2, 3, 4, 5, 0, 1] rfl) (hD.sub [2, 3, 4, 5, 0, 1] (by decide) rfl) hS dX1_readStrand_44
    · have fc9 := cx_lt_f (a := r_strands.toInt) (b := 4) rfl (by decide) c9
      refine lv_iconst (v := 0) hx hb dX1_readStrand_21 (by decide) ?_
      exact hc_endZ hx hb hr hlocks rfl (w4, w3, r_strands, r_rtoldCane) ⟨iv_lit (by decide) (by decide), (show iv (0) (400) w4 from ⟨by omega, by omega⟩), (show iv (0) (4) r_strands from ⟨by omega, by omega⟩)⟩ (hP.sub [2, 3, 4, 5, 0, 1] rfl) (hD.sub [2, 3, 4, 5, 0, 1] (by decide) rfl) hS dX1_readStrand_22
set_option maxHeartbeats 4000000 in
set_option maxRecDepth 100000 in
theorem i_X1_readChair (l : Launch) (D : va_G) (k : Nat → ClassId) (sz : Nat) (t : Nat) (t_abytes : Nat) (t_length : Int32) (t_akinds : Nat) (t_aplaces : Nat) (t_avalues : Nat) (t_pieces : Int32) (t_at : Int32) (t_fault : Int32) (t_rkinds : Nat → Int32) (t_rplaces : Nat → Int32) (t_rvalues : Nat → Int32) (r : Nat) (r_told : Int32) (r_strands : Int32) (r_chairs : Int32) (r_sitters : Int32) (r_atoldCane : Nat) (r_aheight : Nat) (r_astrandOf : Nat) (r_achairOf : Nat) (r_aweight : Nat) (r_acane : Nat) (r_sits : Int32) (r_dropped : Int32) (r_minute : Int32) (r_aload : Nat) (r_aheads : Nat) (r_held : Int32) (r_heldDown : Int32) (r_rheight : Nat → Int32) (r_rstrandOf : Nat → Int32) (h_t_length : iv (0) (400) t_length) (h_t_pieces : iv (0) (401) t_pieces) (h_t_at : iv (0) (400) t_at) (h_r_told : iv (0) (1) r_told) (h_r_strands : iv (0) (4) r_strands) (h_r_chairs : iv (0) (8) r_chairs) (h_r_sitters : iv (0) (8) r_sitters) (h_r_rstrandOf : rowIn (0) (3) r_rstrandOf) : CtI l yX1_readChair wsX1_readChair (rmK 3 0 0) [.ref t, .ref r] D k sz ([(t, .inr (5, [.ref t_abytes, .int t_length, .ref t_akinds, .ref t_aplaces, .ref t_avalues, .int t_pieces, .int t_at, .int t_fault])), (t_akinds, hcI k 401 t_rkinds), (t_aplaces, hcI k 401 t_rplaces), (t_avalues, hcI k 401 t_rvalues), (r, .inr (2, [.int r_told, .int r_strands, .int r_chairs, .int r_sitters, .ref r_atoldCane, .ref r_aheight, .ref r_astrandOf, .ref r_achairOf, .ref r_aweight, .ref r_acane, .int r_sits, .int r_dropped, .int r_minute, .ref r_aload, .ref r_aheads, .int r_held, .int r_heldDown])), (r_aheight, hcI k 8 r_rheight), (r_astrandOf, hcI k 8 r_rstrandOf)]) (fun (r : Int32) (u : (Int32) × (Int32) × (Int32) × (Nat → Int32) × (Nat → Int32)) => iv (0) (1) r ∧ iv (0) (400) (u.1) ∧ iv (0) (8) (u.2.2.1) ∧ rowIn (0) (3) (u.2.2.2.2)) (fun u : (Int32) × (Int32) × (Int32) × (Nat → Int32) × (Nat → Int32) => [(t, .inr (5, [.ref t_abytes, .int t_length, .ref t_akinds, .ref t_aplaces, .ref t_avalues, .int t_pieces, .int (u.1), .int (u.2.1)])), (t_akinds, hcI k 401 t_rkinds), (t_aplaces, hcI k 401 t_rplaces), (t_avalues, hcI k 401 t_rvalues), (r, .inr (2, [.int r_told, .int r_strands, .int (u.2.2.1), .int r_sitters, .ref r_atoldCane, .ref r_aheight, .ref r_astrandOf, .ref r_achairOf, .ref r_aweight, .ref r_acane, .int r_sits, .int r_dropped, .int r_minute, .ref r_aload, .ref r_aheads, .int r_held, .int r_heldDown])), (r_aheight, hcI k 8 (u.2.2.2.1)), (r_astrandOf, hcI k 8 (u.2.2.2.2))]) 0 0 := by
  have h_t_length_l := h_t_length.1
  have h_t_length_u := h_t_length.2
  have h_t_pieces_l := h_t_pieces.1
  have h_t_pieces_u := h_t_pieces.2
  have h_t_at_l := h_t_at.1
  have h_t_at_u := h_t_at.2
  have h_r_told_l := h_r_told.1
  have h_r_told_u := h_r_told.2
  have h_r_strands_l := h_r_strands.1
  have h_r_strands_u := h_r_strands.2
  have h_r_chairs_l := h_r_chairs.1
  have h_r_chairs_u := h_r_chairs.2
  have h_r_sitters_l := h_r_sitters.1
  have h_r_sitters_u := h_r_sitters.2
  refine CtI.mk (cc := cX1_readChair) (maxL := 4) (ret := (some .boolean)) (by decide) rfl (Nat.le_of_ble_eq_true rfl) ?_
  intro p e s m below meth c A ls E hP hD hS hl
  obtain ⟨hx, hb, hr, hml, hown, hts, hlocks, hin, hG, hA⟩ := E
  have hown : s.vm.findClass RX1 = some m.cls := hown
  have in3 : ∀ w ∈ u_ws RX3 TX3 17, w ∈ wsX1_readChair := fun _ h => List.mem_cons_of_mem _ (List.mem_append_left _ (List.mem_append_right _ h))
  have in7 : ∀ w ∈ u_ws RX7 TX7 8, w ∈ wsX1_readChair := fun _ h => List.mem_cons_of_mem _ (List.mem_append_right _ h)
  have hl : lv_has ls 4 [(0, .ref t), (1, .ref r)] := hl
  refine lv_aload_n hx hb dX1_readChair_0 rfl (lv_at hl 0 rfl) ?_
  refine lv_iconst (v := 1) hx hb dX1_readChair_1 (by decide) ?_
  refine lv_bipush (v := 60) hx hb dX1_readChair_2 (by decide) ?_
  refine hc_Vi (As := [.int 1, .int 60]) (rest := []) (n := 2) (wr := [(r, .inr (2, [.int r_told, .int r_strands, .int r_chairs, .int r_sitters, .ref r_atoldCane, .ref r_aheight, .ref r_astrandOf, .ref r_achairOf, .ref r_aweight, .ref r_acane, .int r_sits, .int r_dropped, .int r_minute, .ref r_aload, .ref r_aheads, .int r_held, .int r_heldDown])), (r_aheight, hcI k 8 r_rheight), (r_astrandOf, hcI k 8 r_rstrandOf)]) hx hb hml hown hts hG hA hP hD hS hl.1 [0, 1, 2, 3] [4, 5, 6] (i_X7_takeNumber l D k _ 1 60 t t_abytes t_length t_akinds t_aplaces t_avalues t_pieces t_at t_fault t_rkinds t_rplaces t_rvalues ⟨by omega, by omega⟩ ⟨by omega, by omega⟩ ⟨by omega, by omega⟩) (ci := 5) (q0 := 0) rfl rfl gX1_readChair_X7_takeNumber rfl ⟨rfl, rfl, Nat.le_of_ble_eq_true rfl, Nat.le_of_ble_eq_true rfl⟩ (by decide +kernel) rfl rfl ⟨by decide, by decide, by decide⟩ ⟨rfl, rfl, Nat.le_of_ble_eq_true rfl, Nat.le_of_ble_eq_true rfl, Nat.le_of_ble_eq_true rfl⟩ dX1_readChair_4 (fun r2 u1 H locs hw hP hD hS => ?_)
  obtain ⟨w3, w4⟩ := u1
  have hP : va_P D vwCl ([(r, .inr (2, [.int r_told, .int r_strands, .int r_chairs, .int r_sitters, .ref r_atoldCane, .ref r_aheight, .ref r_astrandOf, .ref r_achairOf, .ref r_aweight, .ref r_acane, .int r_sits, .int r_dropped, .int r_minute, .ref r_aload, .ref r_aheads, .int r_held, .int r_heldDown])), (r_aheight, hcI k 8 r_rheight), (r_astrandOf, hcI k 8 r_rstrandOf), (t, .inr (5, [.ref t_abytes, .int t_length, .ref t_akinds, .ref t_aplaces, .ref t_avalues, .int t_pieces, .int w4, .int w3])), (t_akinds, hcI k 401 t_rkinds), (t_aplaces, hcI k 401 t_rplaces), (t_avalues, hcI k 401 t_rvalues)]) H := hP
  have hD : va_D A ([(r, .inr (2, [.int r_told, .int r_strands, .int r_chairs, .int r_sitters, .ref r_atoldCane, .ref r_aheight, .ref r_astrandOf, .ref r_achairOf, .ref r_aweight, .ref r_acane, .int r_sits, .int r_dropped, .int r_minute, .ref r_aload, .ref r_aheads, .int r_held, .int r_heldDown])), (r_aheight, hcI k 8 r_rheight), (r_astrandOf, hcI k 8 r_rstrandOf), (t, .inr (5, [.ref t_abytes, .int t_length, .ref t_akinds, .ref t_aplaces, .ref t_avalues, .int t_pieces, .int w4, .int w3])), (t_akinds, hcI k 401 t_rkinds), (t_aplaces, hcI k 401 t_rplaces), (t_avalues, hcI k 401 t_rvalues)]) := hD
  have ql6 : (1 : Int32).toInt = 1 := by decide
  have ql7 : (60 : Int32).toInt = 60 := by decide
  obtain ⟨bw4, rel5⟩ := hw
  have bw4 : iv (0) (400) w4 := bw4
  have bw4_l := bw4.1
  have bw4_u := bw4.2
  refine lv_istore_n (lv' := [(2, .int r2), (0, .ref t), (1, .ref r)]) hx hb dX1_readChair_7 rfl hl (by decide) rfl (fun ls hl => ?_)
  refine lv_iload_n hx hb dX1_readChair_8 rfl (lv_at hl 0 rfl) ?_
  refine lv_iconst (v := (-1)) hx hb dX1_readChair_9 (by decide) ?_
  refine lv_icmp_ne (tgt := 15) hx hb dX1_readChair_10 (by decide) (fun c8 => ?_) (fun c8 => ?_)
  · have fc8 := cx_ne_t (a := r2.toInt) (b := (-1)) rfl (by decide) c8
    refine lv_aload_n hx hb dX1_readChair_15 rfl (lv_at hl 1 rfl) ?_
    refine lv_iconst (v := 0) hx hb dX1_readChair_16 (by decide) ?_
    refine lv_aload_n hx hb dX1_readChair_17 rfl (lv_at hl 2 rfl) ?_
    refine va_get (D := D) (ci := 2) (v := .int r_strands) (C := RX3) (T := TX3) (N := 17) hx hb hts in3 hown hG.1 hP 0 rfl rfl 1 (by decide) (hts (.fieldLink RX1 43 "ChairCane$Room" "strands" "I") (by decide +kernel)) (fun _ h9 => h9) rfl dX1_readChair_18 ?_
    refine lv_iconst (v := 1) hx hb dX1_readChair_21 (by decide) ?_
    refine lv_isub hx hb dX1_readChair_22 ?_
    refine lv_topi (fun z9 ez9 => ?_)
    have tz9 : z9.toInt = r_strands.toInt - 1 := ai_sub rfl (by decide) ez9 (by omega) (by omega)
    refine hc_Vi (As := [.int 0, .int z9]) (rest := []) (n := 2) (wr := [(r, .inr (2, [.int r_told, .int r_strands, .int r_chairs, .int r_sitters, .ref r_atoldCane, .ref r_aheight, .ref r_astrandOf, .ref r_achairOf, .ref r_aweight, .ref r_acane, .int r_sits, .int r_dropped, .int r_minute, .ref r_aload, .ref r_aheads, .int r_held, .int r_heldDown])), (r_aheight, hcI k 8 r_rheight), (r_astrandOf, hcI k 8 r_rstrandOf)]) hx hb hml hown hts hG hA hP hD hS hl.1 [3, 4, 5, 6] [0, 1, 2] (i_X7_takeNumber l D k _ 0 z9 t t_abytes t_length t_akinds t_aplaces t_avalues t_pieces w4 w3 t_rkinds t_rplaces t_rvalues ⟨by omega, by omega⟩ ⟨by omega, by omega⟩ ⟨by omega, by omega⟩) (ci := 5) (q0 := 3) rfl rfl gX1_readChair_X7_takeNumber rfl ⟨rfl, rfl, Nat.le_of_ble_eq_true rfl, Nat.le_of_ble_eq_true rfl⟩ (by decide +kernel) rfl rfl ⟨by decide, by decide, by decide⟩ ⟨rfl, rfl, Nat.le_of_ble_eq_true rfl, Nat.le_of_ble_eq_true rfl, Nat.le_of_ble_eq_true rfl⟩ dX1_readChair_23 (fun r11 u10 H locs hw hP hD hS => ?_)
    obtain ⟨w12, w13⟩ := u10
    have hP : va_P D vwCl ([(r, .inr (2, [.int r_told, .int r_strands, .int r_chairs, .int r_sitters, .ref r_atoldCane, .ref r_aheight, .ref r_astrandOf, .ref r_achairOf, .ref r_aweight, .ref r_acane, .int r_sits, .int r_dropped, .int r_minute, .ref r_aload, .ref r_aheads, .int r_held, .int r_heldDown])), (r_aheight, hcI k 8 r_rheight), (r_astrandOf, hcI k 8 r_rstrandOf), (t, .inr (5, [.ref t_abytes, .int t_length, .ref t_akinds, .ref t_aplaces, .ref t_avalues, .int t_pieces, .int w13, .int w12])), (t_akinds, hcI k 401 t_rkinds), (t_aplaces, hcI k 401 t_rplaces), (t_avalues, hcI k 401 t_rvalues)]) H := hP
    have hD : va_D A ([(r, .inr (2, [.int r_told, .int r_strands, .int r_chairs, .int r_sitters, .ref r_atoldCane, .ref r_aheight, .ref r_astrandOf, .ref r_achairOf, .ref r_aweight, .ref r_acane, .int r_sits, .int r_dropped, .int r_minute, .ref r_aload, .ref r_aheads, .int r_held, .int r_heldDown])), (r_aheight, hcI k 8 r_rheight), (r_astrandOf, hcI k 8 r_rstrandOf), (t, .inr (5, [.ref t_abytes, .int t_length, .ref t_akinds, .ref t_aplaces, .ref t_avalues, .int t_pieces, .int w13, .int w12])), (t_akinds, hcI k 401 t_rkinds), (t_aplaces, hcI k 401 t_rplaces), (t_avalues, hcI k 401 t_rvalues)]) := hD
    have ql15 : (0 : Int32).toInt = 0 := by decide
    obtain ⟨bw13, rel14⟩ := hw
    have bw13 : iv (0) (400) w13 := bw13
    have bw13_l := bw13.1
    have bw13_u := bw13.2
    refine lv_istore_n (lv' := [(3, .int r11), (2, .int r2), (0, .ref t), (1, .ref r)]) hx hb dX1_readChair_26 rfl hl (by decide) rfl (fun ls hl => ?_)
    refine lv_iload_n hx hb dX1_readChair_27 rfl (lv_at hl 0 rfl) ?_
    refine lv_iconst (v := (-1)) hx hb dX1_readChair_28 (by decide) ?_
    refine lv_icmp_eq (tgt := 41) hx hb dX1_readChair_29 (by decide) (fun c16 => ?_) (fun c16 => ?_)
    · have fc16 := cx_eq_t (a := r11.toInt) (b := (-1)) rfl (by decide) c16
      refine lv_iconst (v := 0) hx hb dX1_readChair_41 (by decide) ?_
      exact hc_endZ hx hb hr hlocks rfl (w13, w12, r_chairs, r_rheight, r_rstrandOf) ⟨iv_lit (by decide) (by decide), (show iv (0) (400) w13 from ⟨by omega, by omega⟩), (show iv (0) (8) r_chairs from ⟨by omega, by omega⟩), h_r_rstrandOf⟩ (hP.sub [3, 4, 5, 6, 0, 1, 2] rfl) (hD.sub [3, 4, 5, 6, 0, 1, 2] (by decide) rfl) hS dX1_readChair_42
    · have fc16 := cx_eq_f (a := r11.toInt) (b := (-1)) rfl (by decide) c16
      refine lv_aload_n hx hb dX1_readChair_32 rfl (lv_at hl 3 rfl) ?_
      refine va_get (D := D) (ci := 2) (v := .int r_chairs) (C := RX3) (T := TX3) (N := 17) hx hb hts in3 hown hG.1 hP 0 rfl rfl 2 (by decide) (hts (.fieldLink RX1 47 "ChairCane$Room" "chairs" "I") (by decide +kernel)) (fun _ h9 => h9) rfl dX1_readChair_33 ?_
      refine lv_bipush (v := 8) hx hb dX1_readChair_36 (by decide) ?_
      refine lv_icmp_lt (tgt := 43) hx hb dX1_readChair_38 (by decide) (fun c17 => ?_) (fun c17 => ?_)
      · have fc17 := cx_lt_t (a := r_chairs.toInt) (b := 8) rfl (by decide) c17
        refine lv_aload_n hx hb dX1_readChair_43 rfl (lv_at hl 3 rfl) ?_
        refine va_get (D := D) (ci := 2) (v := .ref r_aheight) (C := RX3) (T := TX3) (N := 17) hx hb hts in3 hown hG.1 hP 0 rfl rfl 5 (by decide) (hts (.fieldLink RX1 71 "ChairCane$Room" "height" "[I") (by decide +kernel)) (fun _ h9 => h9) rfl dX1_readChair_44 ?_
        refine lv_aload_n hx hb dX1_readChair_47 rfl (lv_at hl 3 rfl) ?_
        refine va_get (D := D) (ci := 2) (v := .int r_chairs) (C := RX3) (T := TX3) (N := 17) hx hb hts in3 hown hG.1 hP 0 rfl rfl 2 (by decide) (hts (.fieldLink RX1 47 "ChairCane$Room" "chairs" "I") (by decide +kernel)) (fun _ h9 => h9) rfl dX1_readChair_48 ?_
        refine lv_iload_n hx hb dX1_readChair_51 rfl (lv_at hl 1 rfl) ?_
        refine va_iast hx hb hG.1 hP hD hS 1 0 rfl rfl (vp_in_iff.mpr ⟨by omega, by omega⟩) dX1_readChair_52 (fun H locs hP hD hS => ?_)
        obtain ⟨f18, ef18⟩ : ∃ f, f = upd r_rheight (Int32.toNatClampNeg r_chairs) (r2) := ⟨_, rfl⟩
        rw [← ef18] at hP hD
        have hP : va_P D vwCl ([(r, .inr (2, [.int r_told, .int r_strands, .int r_chairs, .int r_sitters, .ref r_atoldCane, .ref r_aheight, .ref r_astrandOf, .ref r_achairOf, .ref r_aweight, .ref r_acane, .int r_sits, .int r_dropped, .int r_minute, .ref r_aload, .ref r_aheads, .int r_held, .int r_heldDown])), (r_aheight, hcI k 8 f18), (r_astrandOf, hcI k 8 r_rstrandOf), (t, .inr (5, [.ref t_abytes, .int t_length, .ref t_akinds, .ref t_aplaces, .ref t_avalues, .int t_pieces, .int w13, .int w12])), (t_akinds, hcI k 401 t_rkinds), (t_aplaces, hcI k 401 t_rplaces), (t_avalues, hcI k 401 t_rvalues)]) H := hP
        have hD : va_D A ([(r, .inr (2, [.int r_told, .int r_strands, .int r_chairs, .int r_sitters, .ref r_atoldCane, .ref r_aheight, .ref r_astrandOf, .ref r_achairOf, .ref r_aweight, .ref r_acane, .int r_sits, .int r_dropped, .int r_minute, .ref r_aload, .ref r_aheads, .int r_held, .int r_heldDown])), (r_aheight, hcI k 8 f18), (r_astrandOf, hcI k 8 r_rstrandOf), (t, .inr (5, [.ref t_abytes, .int t_length, .ref t_akinds, .ref t_aplaces, .ref t_avalues, .int t_pieces, .int w13, .int w12])), (t_akinds, hcI k 401 t_rkinds), (t_aplaces, hcI k 401 t_rplaces), (t_avalues, hcI k 401 t_rvalues)]) := hD
        refine lv_aload_n hx hb dX1_readChair_53 rfl (lv_at hl 3 rfl) ?_
        refine va_get (D := D) (ci := 2) (v := .ref r_astrandOf) (C := RX3) (T := TX3) (N := 17) hx hb hts in3 hown hG.1 hP 0 rfl rfl 6 (by decide) (hts (.fieldLink RX1 74 "ChairCane$Room" "strandOf" "[I") (by decide +kernel)) (fun _ h9 => h9) rfl dX1_readChair_54 ?_
        refine lv_aload_n hx hb dX1_readChair_57 rfl (lv_at hl 3 rfl) ?_
        refine va_get (D := D) (ci := 2) (v := .int r_chairs) (C := RX3) (T := TX3) (N := 17) hx hb hts in3 hown hG.1 hP 0 rfl rfl 2 (by decide) (hts (.fieldLink RX1 47 "ChairCane$Room" "chairs" "I") (by decide +kernel)) (fun _ h9 => h9) rfl dX1_readChair_58 ?_
        refine lv_iload_n hx hb dX1_readChair_61 rfl (lv_at hl 0 rfl) ?_
        refine va_iast hx hb hG.1 hP hD hS 2 0 rfl rfl (vp_in_iff.mpr ⟨by omega, by omega⟩) dX1_readChair_62 (fun H locs hP hD hS => ?_)
        obtain ⟨f19, ef19⟩ : ∃ f, f = upd r_rstrandOf (Int32.toNatClampNeg r_chairs) (r11) := ⟨_, rfl⟩
        rw [← ef19] at hP hD
        have h_f19 : rowIn (0) (3) f19 := by rw [ef19]; exact row_upd h_r_rstrandOf ⟨by omega, by omega⟩
        have hP : va_P D vwCl ([(r, .inr (2, [.int r_told, .int r_strands, .int r_chairs, .int r_sitters, .ref r_atoldCane, .ref r_aheight, .ref r_astrandOf, .ref r_achairOf, .ref r_aweight, .ref r_acane, .int r_sits, .int r_dropped, .int r_minute, .ref r_aload, .ref r_aheads, .int r_held, .int r_heldDown])), (r_aheight, hcI k 8 f18), (r_astrandOf, hcI k 8 f19), (t, .inr (5, [.ref t_abytes, .int t_length, .ref t_akinds, .ref t_aplaces, .ref t_avalues, .int t_pieces, .int w13, .int w12])), (t_akinds, hcI k 401 t_rkinds), (t_aplaces, hcI k 401 t_rplaces), (t_avalues, hcI k 401 t_rvalues)]) H := hP
        have hD : va_D A ([(r, .inr (2, [.int r_told, .int r_strands, .int r_chairs, .int r_sitters, .ref r_atoldCane, .ref r_aheight, .ref r_astrandOf, .ref r_achairOf, .ref r_aweight, .ref r_acane, .int r_sits, .int r_dropped, .int r_minute, .ref r_aload, .ref r_aheads, .int r_held, .int r_heldDown])), (r_aheight, hcI k 8 f18), (r_astrandOf, hcI k 8 f19), (t, .inr (5, [.ref t_abytes, .int t_length, .ref t_akinds, .ref t_aplaces, .ref t_avalues, .int t_pieces, .int w13, .int w12])), (t_akinds, hcI k 401 t_rkinds), (t_aplaces, hcI k 401 t_rplaces), (t_avalues, hcI k 401 t_rvalues)]) := hD
        refine lv_aload_n hx hb dX1_readChair_63 rfl (lv_at hl 3 rfl) ?_
        refine lv_dup hx hb dX1_readChair_64 rfl ?_
        refine va_get (D := D) (ci := 2) (v := .int r_chairs) (C := RX3) (T := TX3) (N := 17) hx hb hts in3 hown hG.1 hP 0 rfl rfl 2 (by decide) (hts (.fieldLink RX1 47 "ChairCane$Room" "chairs" "I") (by decide +kernel)) (fun _ h9 => h9) rfl dX1_readChair_65 ?_
        refine lv_iconst (v := 1) hx hb dX1_readChair_68 (by decide) ?_
        refine lv_iadd hx hb dX1_readChair_69 ?_
        refine lv_topi (fun z20 ez20 => ?_)
        have tz20 : z20.toInt = r_chairs.toInt + 1 := ai_add rfl (by decide) ez20 (by omega) (by omega)
        refine va_put (D := D) (ci := 2) (v := .int z20) (C := RX3) (T := TX3) (N := 17) hx hb hts in3 tyX3 tyX3_ok nmX3 hown hG.1 hP hD hS 0 rfl rfl 2 (by decide) (hts (.fieldLink RX1 47 "ChairCane$Room" "chairs" "I") (by decide +kernel)) (fun _ h9 => h9) rfl (tyX3_ok 2 (by decide)) rfl rfl (Nat.le_of_ble_eq_true rfl) dX1_readChair_70 (fun H locs hP hD hS => ?_)
        have hP : va_P D vwCl ([(r, .inr (2, [.int r_told, .int r_strands, .int z20, .int r_sitters, .ref r_atoldCane, .ref r_aheight, .ref r_astrandOf, .ref r_achairOf, .ref r_aweight, .ref r_acane, .int r_sits, .int r_dropped, .int r_minute, .ref r_aload, .ref r_aheads, .int r_held, .int r_heldDown])), (r_aheight, hcI k 8 f18), (r_astrandOf, hcI k 8 f19), (t, .inr (5, [.ref t_abytes, .int t_length, .ref t_akinds, .ref t_aplaces, .ref t_avalues, .int t_pieces, .int w13, .int w12])), (t_akinds, hcI k 401 t_rkinds), (t_aplaces, hcI k 401 t_rplaces), (t_avalues, hcI k 401 t_rvalues)]) H := hP
        have hD : va_D A ([(r, .inr (2, [.int r_told, .int r_strands, .int z20, .int r_sitters, .ref r_atoldCane, .ref r_aheight, .ref r_astrandOf, .ref r_achairOf, .ref r_aweight, .ref r_acane, .int r_sits, .int r_dropped, .int r_minute, .ref r_aload, .ref r_aheads, .int r_held, .int r_heldDown])), (r_aheight, hcI k 8 f18), (r_astrandOf, hcI k 8 f19), (t, .inr (5, [.ref t_abytes, .int t_length, .ref t_akinds, .ref t_aplaces, .ref t_avalues, .int t_pieces, .int w13, .int w12])), (t_akinds, hcI k 401 t_rkinds), (t_aplaces, hcI k 401 t_rplaces), (t_avalues, hcI k 401 t_rvalues)]) := hD
        refine lv_iconst (v := 1) hx hb dX1_readChair_73 (by decide) ?_
        exact hc_endZ hx hb hr hlocks rfl (w13, w12, z20, f18, f19) ⟨iv_lit (by decide) (by decide), (show iv (0) (400) w13 from ⟨by omega, by omega⟩), (show iv (0) (8) z20 from ⟨by omega, by omega⟩), h_f19⟩ (hP.sub [3, 4, 5, 6, 0, 1, 2] rfl) (hD.sub [3, 4, 5, 6, 0, 1, 2] (by decide) rfl) hS dX1_readChair_74
      · have fc17 := cx_lt_f (a := r_chairs.toInt) (b := 8) rfl (by decide) c17
        refine lv_iconst (v := 0) hx hb dX1_readChair_41 (by decide) ?_
        exact hc_endZ hx hb hr hlocks rfl (w13, w12, r_chairs, r_rheight, r_rstrandOf) ⟨iv_lit (by decide) (by decide), (show iv (0) (400) w13 from ⟨by omega, by omega⟩), (show iv (0) (8) r_chairs from ⟨by omega, by omega⟩), h_r_rstrandOf⟩ (hP.sub [3, 4, 5, 6, 0, 1, 2] rfl) (hD.sub [3, 4, 5, 6, 0, 1, 2] (by decide) rfl) hS dX1_readChair_42
  · have fc8 := cx_ne_f (a := r2.toInt) (b := (-1)) rfl (by decide) c8
    refine lv_iconst (v := 0) hx hb dX1_readChair_13 (by decide) ?_
    exact hc_endZ hx hb hr hlocks rfl (w4, w3, r_chairs, r_rheight, r_rstrandOf) ⟨iv_lit (by decide) (by decide), (show iv (0) (400) w4 from ⟨by omega, by omega⟩), (show iv (0) (8) r_chairs from ⟨by omega, by omega⟩), h_r_rstrandOf⟩ (hP.sub [3, 4, 5, 6, 0, 1, 2] rfl) (hD.sub [3, 4, 5, 6, 0, 1, 2] (by decide) rfl) hS dX1_readChair_14
set_option maxHeartbeats 4000000 in
set_option maxRecDepth 100000 in
theorem i_X1_readSitter (l : Launch) (D : va_G) (k : Nat → ClassId) (sz : Nat) (t : Nat) (t_abytes : Nat) (t_length : Int32) (t_akinds : Nat) (t_aplaces : Nat) (t_avalues : Nat) (t_pieces : Int32) (t_at : Int32) (t_fault : Int32) (t_rkinds : Nat → Int32) (t_rplaces : Nat → Int32) (t_rvalues : Nat → Int32) (r : Nat) (r_told : Int32) (r_strands : Int32) (r_chairs : Int32) (r_sitters : Int32) (r_atoldCane : Nat) (r_aheight : Nat) (r_astrandOf : Nat) (r_achairOf : Nat) (r_aweight : Nat) (r_acane : Nat) (r_sits : Int32) (r_dropped : Int32) (r_minute : Int32) (r_aload : Nat) (r_aheads : Nat) (r_held : Int32) (r_heldDown : Int32) (r_rchairOf : Nat → Int32) (r_rweight : Nat → Int32) (h_t_length : iv (0) (400) t_length) (h_t_pieces : iv (0) (401) t_pieces) (h_t_at : iv (0) (400) t_at) (h_r_told : iv (0) (1) r_told) (h_r_strands : iv (0) (4) r_strands) (h_r_chairs : iv (0) (8) r_chairs) (h_r_sitters : iv (0) (8) r_sitters) (h_r_rchairOf : rowIn (0) (7) r_rchairOf) : CtI l yX1_readSitter wsX1_readSitter (rmK 3 0 0) [.ref t, .ref r] D k sz ([(t, .inr (5, [.ref t_abytes, .int t_length, .ref t_akinds, .ref t_aplaces, .ref t_avalues, .int t_pieces, .int t_at, .int t_fault])), (t_akinds, hcI k 401 t_rkinds), (t_aplaces, hcI k 401 t_rplaces), (t_avalues, hcI k 401 t_rvalues), (r, .inr (2, [.int r_told, .int r_strands, .int r_chairs, .int r_sitters, .ref r_atoldCane, .ref r_aheight, .ref r_astrandOf, .ref r_achairOf, .ref r_aweight, .ref r_acane, .int r_sits, .int r_dropped, .int r_minute, .ref r_aload, .ref r_aheads, .int r_held, .int r_heldDown])), (r_achairOf, hcI k 8 r_rchairOf), (r_aweight, hcI k 8 r_rweight)]) (fun (r : Int32) (u : (Int32) × (Int32) × (Int32) × (Nat → Int32) × (Nat → Int32)) => iv (0) (1) r ∧ iv (0) (400) (u.1) ∧ iv (0) (8) (u.2.2.1) ∧ rowIn (0) (7) (u.2.2.2.1)) (fun u : (Int32) × (Int32) × (Int32) × (Nat → Int32) × (Nat → Int32) => [(t, .inr (5, [.ref t_abytes, .int t_length, .ref t_akinds, .ref t_aplaces, .ref t_avalues, .int t_pieces, .int (u.1), .int (u.2.1)])), (t_akinds, hcI k 401 t_rkinds), (t_aplaces, hcI k 401 t_rplaces), (t_avalues, hcI k 401 t_rvalues), (r, .inr (2, [.int r_told, .int r_strands, .int r_chairs, .int (u.2.2.1), .ref r_atoldCane, .ref r_aheight, .ref r_astrandOf, .ref r_achairOf, .ref r_aweight, .ref r_acane, .int r_sits, .int r_dropped, .int r_minute, .ref r_aload, .ref r_aheads, .int r_held, .int r_heldDown])), (r_achairOf, hcI k 8 (u.2.2.2.1)), (r_aweight, hcI k 8 (u.2.2.2.2))]) 0 0 := by
  have h_t_length_l := h_t_length.1
  have h_t_length_u := h_t_length.2
  have h_t_pieces_l := h_t_pieces.1
  have h_t_pieces_u := h_t_pieces.2
  have h_t_at_l := h_t_at.1
  have h_t_at_u := h_t_at.2
  have h_r_told_l := h_r_told.1
  have h_r_told_u := h_r_told.2
  have h_r_strands_l := h_r_strands.1
  have h_r_strands_u := h_r_strands.2
  have h_r_chairs_l := h_r_chairs.1
  have h_r_chairs_u := h_r_chairs.2
  have h_r_sitters_l := h_r_sitters.1
  have h_r_sitters_u := h_r_sitters.2
  refine CtI.mk (cc := cX1_readSitter) (maxL := 4) (ret := (some .boolean)) (by decide) rfl (Nat.le_of_ble_eq_true rfl) ?_
  intro p e s m below meth c A ls E hP hD hS hl
  obtain ⟨hx, hb, hr, hml, hown, hts, hlocks, hin, hG, hA⟩ := E
  have hown : s.vm.findClass RX1 = some m.cls := hown
  have in3 : ∀ w ∈ u_ws RX3 TX3 17, w ∈ wsX1_readSitter := fun _ h => List.mem_cons_of_mem _ (List.mem_append_left _ (List.mem_append_right _ h))
  have in7 : ∀ w ∈ u_ws RX7 TX7 8, w ∈ wsX1_readSitter := fun _ h => List.mem_cons_of_mem _ (List.mem_append_right _ h)
  have hl : lv_has ls 4 [(0, .ref t), (1, .ref r)] := hl
  refine lv_aload_n hx hb dX1_readSitter_0 rfl (lv_at hl 0 rfl) ?_
  refine hc_Vi (As := []) (rest := []) (n := 0) (wr := [(t_aplaces, hcI k 401 t_rplaces), (t_avalues, hcI k 401 t_rvalues), (r, .inr (2, [.int r_told, .int r_strands, .int r_chairs, .int r_sitters, .ref r_atoldCane, .ref r_aheight, .ref r_astrandOf, .ref r_achairOf, .ref r_aweight, .ref r_acane, .int r_sits, .int r_dropped, .int r_minute, .ref r_aload, .ref r_aheads, .int r_held, .int r_heldDown])), (r_achairOf, hcI k 8 r_rchairOf), (r_aweight, hcI k 8 r_rweight)]) hx hb hml hown hts hG hA hP hD hS hl.1 [0, 1] [2, 3, 4, 5, 6] (i_X7_kind l D k _ t t_abytes t_length t_akinds t_aplaces t_avalues t_pieces t_at t_fault t_rkinds ⟨by omega, by omega⟩ ⟨by omega, by omega⟩ ⟨by omega, by omega⟩) (ci := 5) (q0 := 0) rfl rfl gX1_readSitter_X7_kind rfl ⟨rfl, rfl, Nat.le_of_ble_eq_true rfl, Nat.le_of_ble_eq_true rfl⟩ (by decide +kernel) rfl rfl ⟨by decide, by decide, by decide⟩ ⟨rfl, rfl, Nat.le_of_ble_eq_true rfl, Nat.le_of_ble_eq_true rfl, Nat.le_of_ble_eq_true rfl⟩ dX1_readSitter_1 (fun r2 u1 H locs hw hP hD hS => ?_)
  have hP : va_P D vwCl ([(t_aplaces, hcI k 401 t_rplaces), (t_avalues, hcI k 401 t_rvalues), (r, .inr (2, [.int r_told, .int r_strands, .int r_chairs, .int r_sitters, .ref r_atoldCane, .ref r_aheight, .ref r_astrandOf, .ref r_achairOf, .ref r_aweight, .ref r_acane, .int r_sits, .int r_dropped, .int r_minute, .ref r_aload, .ref r_aheads, .int r_held, .int r_heldDown])), (r_achairOf, hcI k 8 r_rchairOf), (r_aweight, hcI k 8 r_rweight), (t, .inr (5, [.ref t_abytes, .int t_length, .ref t_akinds, .ref t_aplaces, .ref t_avalues, .int t_pieces, .int t_at, .int t_fault])), (t_akinds, hcI k 401 t_rkinds)]) H := hP
  have hD : va_D A ([(t_aplaces, hcI k 401 t_rplaces), (t_avalues, hcI k 401 t_rvalues), (r, .inr (2, [.int r_told, .int r_strands, .int r_chairs, .int r_sitters, .ref r_atoldCane, .ref r_aheight, .ref r_astrandOf, .ref r_achairOf, .ref r_aweight, .ref r_acane, .int r_sits, .int r_dropped, .int r_minute, .ref r_aload, .ref r_aheads, .int r_held, .int r_heldDown])), (r_achairOf, hcI k 8 r_rchairOf), (r_aweight, hcI k 8 r_rweight), (t, .inr (5, [.ref t_abytes, .int t_length, .ref t_akinds, .ref t_aplaces, .ref t_avalues, .int t_pieces, .int t_at, .int t_fault])), (t_akinds, hcI k 401 t_rkinds)]) := hD
  refine lv_sipush (v := 259) hx hb dX1_readSitter_4 (by decide) ?_
  refine lv_icmp_ne (tgt := 28) hx hb dX1_readSitter_7 (by decide) (fun c3 => ?_) (fun c3 => ?_)
  · have fc3 := cx_ne_t (a := r2.toInt) (b := 259) rfl (by decide) c3
    refine lv_aload_n hx hb dX1_readSitter_28 rfl (lv_at hl 0 rfl) ?_
    refine lv_iconst (v := 0) hx hb dX1_readSitter_29 (by decide) ?_
    refine lv_aload_n hx hb dX1_readSitter_30 rfl (lv_at hl 1 rfl) ?_
    refine va_get (D := D) (ci := 2) (v := .int r_chairs) (C := RX3) (T := TX3) (N := 17) hx hb hts in3 hown hG.1 hP 2 rfl rfl 2 (by decide) (hts (.fieldLink RX1 47 "ChairCane$Room" "chairs" "I") (by decide +kernel)) (fun _ h9 => h9) rfl dX1_readSitter_31 ?_
    refine lv_iconst (v := 1) hx hb dX1_readSitter_34 (by decide) ?_
    refine lv_isub hx hb dX1_readSitter_35 ?_
    refine lv_topi (fun z4 ez4 => ?_)
    have tz4 : z4.toInt = r_chairs.toInt - 1 := ai_sub rfl (by decide) ez4 (by omega) (by omega)
    refine hc_Vi (As := [.int 0, .int z4]) (rest := []) (n := 2) (wr := [(r, .inr (2, [.int r_told, .int r_strands, .int r_chairs, .int r_sitters, .ref r_atoldCane, .ref r_aheight, .ref r_astrandOf, .ref r_achairOf, .ref r_aweight, .ref r_acane, .int r_sits, .int r_dropped, .int r_minute, .ref r_aload, .ref r_aheads, .int r_held, .int r_heldDown])), (r_achairOf, hcI k 8 r_rchairOf), (r_aweight, hcI k 8 r_rweight)]) hx hb hml hown hts hG hA hP hD hS hl.1 [5, 6, 0, 1] [2, 3, 4] (i_X7_takeNumber l D k _ 0 z4 t t_abytes t_length t_akinds t_aplaces t_avalues t_pieces t_at t_fault t_rkinds t_rplaces t_rvalues ⟨by omega, by omega⟩ ⟨by omega, by omega⟩ ⟨by omega, by omega⟩) (ci := 5) (q0 := 5) rfl rfl gX1_readSitter_X7_takeNumber rfl ⟨rfl, rfl, Nat.le_of_ble_eq_true rfl, Nat.le_of_ble_eq_true rfl⟩ (by decide +kernel) rfl rfl ⟨by decide, by decide, by decide⟩ ⟨rfl, rfl, Nat.le_of_ble_eq_true rfl, Nat.le_of_ble_eq_true rfl, Nat.le_of_ble_eq_true rfl⟩ dX1_readSitter_36 (fun r6 u5 H locs hw hP hD hS => ?_)
    obtain ⟨w7, w8⟩ := u5
    have hP : va_P D vwCl ([(r, .inr (2, [.int r_told, .int r_strands, .int r_chairs, .int r_sitters, .ref r_atoldCane, .ref r_aheight, .ref r_astrandOf, .ref r_achairOf, .ref r_aweight, .ref r_acane, .int r_sits, .int r_dropped, .int r_minute, .ref r_aload, .ref r_aheads, .int r_held, .int r_heldDown])), (r_achairOf, hcI k 8 r_rchairOf), (r_aweight, hcI k 8 r_rweight), (t, .inr (5, [.ref t_abytes, .int t_length, .ref t_akinds, .ref t_aplaces, .ref t_avalues, .int t_pieces, .int w8, .int w7])), (t_akinds, hcI k 401 t_rkinds), (t_aplaces, hcI k 401 t_rplaces), (t_avalues, hcI k 401 t_rvalues)]) H := hP
    have hD : va_D A ([(r, .inr (2, [.int r_told, .int r_strands, .int r_chairs, .int r_sitters, .ref r_atoldCane, .ref r_aheight, .ref r_astrandOf, .ref r_achairOf, .ref r_aweight, .ref r_acane, .int r_sits, .int r_dropped, .int r_minute, .ref r_aload, .ref r_aheads, .int r_held, .int r_heldDown])), (r_achairOf, hcI k 8 r_rchairOf), (r_aweight, hcI k 8 r_rweight), (t, .inr (5, [.ref t_abytes, .int t_length, .ref t_akinds, .ref t_aplaces, .ref t_avalues, .int t_pieces, .int w8, .int w7])), (t_akinds, hcI k 401 t_rkinds), (t_aplaces, hcI k 401 t_rplaces), (t_avalues, hcI k 401 t_rvalues)]) := hD
    have ql10 : (0 : Int32).toInt = 0 := by decide
    obtain ⟨bw8, rel9⟩ := hw
    have bw8 : iv (0) (400) w8 := bw8
    have bw8_l := bw8.1
    have bw8_u := bw8.2
    refine lv_istore_n (lv' := [(2, .int r6), (0, .ref t), (1, .ref r)]) hx hb dX1_readSitter_39 rfl hl (by decide) rfl (fun ls hl => ?_)
    refine lv_iload_n hx hb dX1_readSitter_40 rfl (lv_at hl 0 rfl) ?_
    refine lv_iconst (v := (-1)) hx hb dX1_readSitter_41 (by decide) ?_
    refine lv_icmp_ne (tgt := 47) hx hb dX1_readSitter_42 (by decide) (fun c11 => ?_) (fun c11 => ?_)
    · have fc11 := cx_ne_t (a := r6.toInt) (b := (-1)) rfl (by decide) c11
      refine lv_aload_n hx hb dX1_readSitter_47 rfl (lv_at hl 1 rfl) ?_
      refine lv_iconst (v := 1) hx hb dX1_readSitter_48 (by decide) ?_
      refine lv_bipush (v := 20) hx hb dX1_readSitter_49 (by decide) ?_
      refine hc_Vi (As := [.int 1, .int 20]) (rest := []) (n := 2) (wr := [(r, .inr (2, [.int r_told, .int r_strands, .int r_chairs, .int r_sitters, .ref r_atoldCane, .ref r_aheight, .ref r_astrandOf, .ref r_achairOf, .ref r_aweight, .ref r_acane, .int r_sits, .int r_dropped, .int r_minute, .ref r_aload, .ref r_aheads, .int r_held, .int r_heldDown])), (r_achairOf, hcI k 8 r_rchairOf), (r_aweight, hcI k 8 r_rweight)]) hx hb hml hown hts hG hA hP hD hS hl.1 [3, 4, 5, 6] [0, 1, 2] (i_X7_takeNumber l D k _ 1 20 t t_abytes t_length t_akinds t_aplaces t_avalues t_pieces w8 w7 t_rkinds t_rplaces t_rvalues ⟨by omega, by omega⟩ ⟨by omega, by omega⟩ ⟨by omega, by omega⟩) (ci := 5) (q0 := 3) rfl rfl gX1_readSitter_X7_takeNumber rfl ⟨rfl, rfl, Nat.le_of_ble_eq_true rfl, Nat.le_of_ble_eq_true rfl⟩ (by decide +kernel) rfl rfl ⟨by decide, by decide, by decide⟩ ⟨rfl, rfl, Nat.le_of_ble_eq_true rfl, Nat.le_of_ble_eq_true rfl, Nat.le_of_ble_eq_true rfl⟩ dX1_readSitter_51 (fun r13 u12 H locs hw hP hD hS => ?_)
      obtain ⟨w14, w15⟩ := u12
      have hP : va_P D vwCl ([(r, .inr (2, [.int r_told, .int r_strands, .int r_chairs, .int r_sitters, .ref r_atoldCane, .ref r_aheight, .ref r_astrandOf, .ref r_achairOf, .ref r_aweight, .ref r_acane, .int r_sits, .int r_dropped, .int r_minute, .ref r_aload, .ref r_aheads, .int r_held, .int r_heldDown])), (r_achairOf, hcI k 8 r_rchairOf), (r_aweight, hcI k 8 r_rweight), (t, .inr (5, [.ref t_abytes, .int t_length, .ref t_akinds, .ref t_aplaces, .ref t_avalues, .int t_pieces, .int w15, .int w14])), (t_akinds, hcI k 401 t_rkinds), (t_aplaces, hcI k 401 t_rplaces), (t_avalues, hcI k 401 t_rvalues)]) H := hP
      have hD : va_D A ([(r, .inr (2, [.int r_told, .int r_strands, .int r_chairs, .int r_sitters, .ref r_atoldCane, .ref r_aheight, .ref r_astrandOf, .ref r_achairOf, .ref r_aweight, .ref r_acane, .int r_sits, .int r_dropped, .int r_minute, .ref r_aload, .ref r_aheads, .int r_held, .int r_heldDown])), (r_achairOf, hcI k 8 r_rchairOf), (r_aweight, hcI k 8 r_rweight), (t, .inr (5, [.ref t_abytes, .int t_length, .ref t_akinds, .ref t_aplaces, .ref t_avalues, .int t_pieces, .int w15, .int w14])), (t_akinds, hcI k 401 t_rkinds), (t_aplaces, hcI k 401 t_rplaces), (t_avalues, hcI k 401 t_rvalues)]) := hD
      have ql17 : (1 : Int32).toInt = 1 := by decide
      have ql18 : (20 : Int32).toInt = 20 := by decide
      obtain ⟨bw15, rel16⟩ := hw
      have bw15 : iv (0) (400) w15 := bw15
      have bw15_l := bw15.1
      have bw15_u := bw15.2
      refine lv_istore_n (lv' := [(3, .int r13), (2, .int r6), (0, .ref t), (1, .ref r)]) hx hb dX1_readSitter_54 rfl hl (by decide) rfl (fun ls hl => ?_)
      refine lv_iload_n hx hb dX1_readSitter_55 rfl (lv_at hl 0 rfl) ?_
      refine lv_iconst (v := (-1)) hx hb dX1_readSitter_56 (by decide) ?_
      refine lv_icmp_eq (tgt := 69) hx hb dX1_readSitter_57 (by decide) (fun c19 => ?_) (fun c19 => ?_)
      · have fc19 := cx_eq_t (a := r13.toInt) (b := (-1)) rfl (by decide) c19
        refine lv_iconst (v := 0) hx hb dX1_readSitter_69 (by decide) ?_
        exact hc_endZ hx hb hr hlocks rfl (w15, w14, r_sitters, r_rchairOf, r_rweight) ⟨iv_lit (by decide) (by decide), (show iv (0) (400) w15 from ⟨by omega, by omega⟩), (show iv (0) (8) r_sitters from ⟨by omega, by omega⟩), h_r_rchairOf⟩ (hP.sub [3, 4, 5, 6, 0, 1, 2] rfl) (hD.sub [3, 4, 5, 6, 0, 1, 2] (by decide) rfl) hS dX1_readSitter_70
      · have fc19 := cx_eq_f (a := r13.toInt) (b := (-1)) rfl (by decide) c19
        refine lv_aload_n hx hb dX1_readSitter_60 rfl (lv_at hl 3 rfl) ?_
        refine va_get (D := D) (ci := 2) (v := .int r_sitters) (C := RX3) (T := TX3) (N := 17) hx hb hts in3 hown hG.1 hP 0 rfl rfl 3 (by decide) (hts (.fieldLink RX1 84 "ChairCane$Room" "sitters" "I") (by decide +kernel)) (fun _ h9 => h9) rfl dX1_readSitter_61 ?_
        refine lv_bipush (v := 8) hx hb dX1_readSitter_64 (by decide) ?_
        refine lv_icmp_lt (tgt := 71) hx hb dX1_readSitter_66 (by decide) (fun c20 => ?_) (fun c20 => ?_)
        · have fc20 := cx_lt_t (a := r_sitters.toInt) (b := 8) rfl (by decide) c20
          refine lv_aload_n hx hb dX1_readSitter_71 rfl (lv_at hl 3 rfl) ?_
          refine va_get (D := D) (ci := 2) (v := .ref r_achairOf) (C := RX3) (T := TX3) (N := 17) hx hb hts in3 hown hG.1 hP 0 rfl rfl 7 (by decide) (hts (.fieldLink RX1 87 "ChairCane$Room" "chairOf" "[I") (by decide +kernel)) (fun _ h9 => h9) rfl dX1_readSitter_72 ?_
          refine lv_aload_n hx hb dX1_readSitter_75 rfl (lv_at hl 3 rfl) ?_
          refine va_get (D := D) (ci := 2) (v := .int r_sitters) (C := RX3) (T := TX3) (N := 17) hx hb hts in3 hown hG.1 hP 0 rfl rfl 3 (by decide) (hts (.fieldLink RX1 84 "ChairCane$Room" "sitters" "I") (by decide +kernel)) (fun _ h9 => h9) rfl dX1_readSitter_76 ?_
          refine lv_iload_n hx hb dX1_readSitter_79 rfl (lv_at hl 1 rfl) ?_
          refine va_iast hx hb hG.1 hP hD hS 1 0 rfl rfl (vp_in_iff.mpr ⟨by omega, by omega⟩) dX1_readSitter_80 (fun H locs hP hD hS => ?_)
          obtain ⟨f21, ef21⟩ : ∃ f, f = upd r_rchairOf (Int32.toNatClampNeg r_sitters) (r6) := ⟨_, rfl⟩
          rw [← ef21] at hP hD
          have h_f21 : rowIn (0) (7) f21 := by rw [ef21]; exact row_upd h_r_rchairOf ⟨by omega, by omega⟩
          have hP : va_P D vwCl ([(r, .inr (2, [.int r_told, .int r_strands, .int r_chairs, .int r_sitters, .ref r_atoldCane, .ref r_aheight, .ref r_astrandOf, .ref r_achairOf, .ref r_aweight, .ref r_acane, .int r_sits, .int r_dropped, .int r_minute, .ref r_aload, .ref r_aheads, .int r_held, .int r_heldDown])), (r_achairOf, hcI k 8 f21), (r_aweight, hcI k 8 r_rweight), (t, .inr (5, [.ref t_abytes, .int t_length, .ref t_akinds, .ref t_aplaces, .ref t_avalues, .int t_pieces, .int w15, .int w14])), (t_akinds, hcI k 401 t_rkinds), (t_aplaces, hcI k 401 t_rplaces), (t_avalues, hcI k 401 t_rvalues)]) H := hP
          have hD : va_D A ([(r, .inr (2, [.int r_told, .int r_strands, .int r_chairs, .int r_sitters, .ref r_atoldCane, .ref r_aheight, .ref r_astrandOf, .ref r_achairOf, .ref r_aweight, .ref r_acane, .int r_sits, .int r_dropped, .int r_minute, .ref r_aload, .ref r_aheads, .int r_held, .int r_heldDown])), (r_achairOf, hcI k 8 f21), (r_aweight, hcI k 8 r_rweight), (t, .inr (5, [.ref t_abytes, .int t_length, .ref t_akinds, .ref t_aplaces, .ref t_avalues, .int t_pieces, .int w15, .int w14])), (t_akinds, hcI k 401 t_rkinds), (t_aplaces, hcI k 401 t_rplaces), (t_avalues, hcI k 401 t_rvalues)]) := hD
          refine lv_aload_n hx hb dX1_readSitter_81 rfl (lv_at hl 3 rfl) ?_
          refine va_get (D := D) (ci := 2) (v := .ref r_aweight) (C := RX3) (T := TX3) (N := 17) hx hb hts in3 hown hG.1 hP 0 rfl rfl 8 (by decide) (hts (.fieldLink RX1 90 "ChairCane$Room" "weight" "[I") (by decide +kernel)) (fun _ h9 => h9) rfl dX1_readSitter_82 ?_
          refine lv_aload_n hx hb dX1_readSitter_85 rfl (lv_at hl 3 rfl) ?_
          refine va_get (D := D) (ci := 2) (v := .int r_sitters) (C := RX3) (T := TX3) (N := 17) hx hb hts in3 hown hG.1 hP 0 rfl rfl 3 (by decide) (hts (.fieldLink RX1 84 "ChairCane$Room" "sitters" "I") (by decide +kernel)) (fun _ h9 => h9) rfl dX1_readSitter_86 ?_
          refine lv_iload_n hx hb dX1_readSitter_89 rfl (lv_at hl 0 rfl) ?_
          refine va_iast hx hb hG.1 hP hD hS 2 0 rfl rfl (vp_in_iff.mpr ⟨by omega, by omega⟩) dX1_readSitter_90 (fun H locs hP hD hS => ?_)
          obtain ⟨f22, ef22⟩ : ∃ f, f = upd r_rweight (Int32.toNatClampNeg r_sitters) (r13) := ⟨_, rfl⟩
          rw [← ef22] at hP hD
          have hP : va_P D vwCl ([(r, .inr (2, [.int r_told, .int r_strands, .int r_chairs, .int r_sitters, .ref r_atoldCane, .ref r_aheight, .ref r_astrandOf, .ref r_achairOf, .ref r_aweight, .ref r_acane, .int r_sits, .int r_dropped, .int r_minute, .ref r_aload, .ref r_aheads, .int r_held, .int r_heldDown])), (r_achairOf, hcI k 8 f21), (r_aweight, hcI k 8 f22), (t, .inr (5, [.ref t_abytes, .int t_length, .ref t_akinds, .ref t_aplaces, .ref t_avalues, .int t_pieces, .int w15, .int w14])), (t_akinds, hcI k 401 t_rkinds), (t_aplaces, hcI k 401 t_rplaces), (t_avalues, hcI k 401 t_rvalues)]) H := hP
          have hD : va_D A ([(r, .inr (2, [.int r_told, .int r_strands, .int r_chairs, .int r_sitters, .ref r_atoldCane, .ref r_aheight, .ref r_astrandOf, .ref r_achairOf, .ref r_aweight, .ref r_acane, .int r_sits, .int r_dropped, .int r_minute, .ref r_aload, .ref r_aheads, .int r_held, .int r_heldDown])), (r_achairOf, hcI k 8 f21), (r_aweight, hcI k 8 f22), (t, .inr (5, [.ref t_abytes, .int t_length, .ref t_akinds, .ref t_aplaces, .ref t_avalues, .int t_pieces, .int w15, .int w14])), (t_akinds, hcI k 401 t_rkinds), (t_aplaces, hcI k 401 t_rplaces), (t_avalues, hcI k 401 t_rvalues)]) := hD
          refine lv_aload_n hx hb dX1_readSitter_91 rfl (lv_at hl 3 rfl) ?_
          refine lv_dup hx hb dX1_readSitter_92 rfl ?_
          refine va_get (D := D) (ci := 2) (v := .int r_sitters) (C := RX3) (T := TX3) (N := 17) hx hb hts in3 hown hG.1 hP 0 rfl rfl 3 (by decide) (hts (.fieldLink RX1 84 "ChairCane$Room" "sitters" "I") (by decide +kernel)) (fun _ h9 => h9) rfl dX1_readSitter_93 ?_
          refine lv_iconst (v := 1) hx hb dX1_readSitter_96 (by decide) ?_
          refine lv_iadd hx hb dX1_readSitter_97 ?_
          refine lv_topi (fun z23 ez23 => ?_)
          have tz23 : z23.toInt = r_sitters.toInt + 1 := ai_add rfl (by decide) ez23 (by omega) (by omega)
          refine va_put (D := D) (ci := 2) (v := .int z23) (C := RX3) (T := TX3) (N := 17) hx hb hts in3 tyX3 tyX3_ok nmX3 hown hG.1 hP hD hS 0 rfl rfl 3 (by decide) (hts (.fieldLink RX1 84 "ChairCane$Room" "sitters" "I") (by decide +kernel)) (fun _ h9 => h9) rfl (tyX3_ok 3 (by decide)) rfl rfl (Nat.le_of_ble_eq_true rfl) dX1_readSitter_98 (fun H locs hP hD hS => ?_)
          have hP : va_P D vwCl ([(r, .inr (2, [.int r_told, .int r_strands, .int r_chairs, .int z23, .ref r_atoldCane, .ref r_aheight, .ref r_astrandOf, .ref r_achairOf, .ref r_aweight, .ref r_acane, .int r_sits, .int r_dropped, .int r_minute, .ref r_aload, .ref r_aheads, .int r_held, .int r_heldDown])), (r_achairOf, hcI k 8 f21), (r_aweight, hcI k 8 f22), (t, .inr (5, [.ref t_abytes, .int t_length, .ref t_akinds, .ref t_aplaces, .ref t_avalues, .int t_pieces, .int w15, .int w14])), (t_akinds, hcI k 401 t_rkinds), (t_aplaces, hcI k 401 t_rplaces), (t_avalues, hcI k 401 t_rvalues)]) H := hP
          have hD : va_D A ([(r, .inr (2, [.int r_told, .int r_strands, .int r_chairs, .int z23, .ref r_atoldCane, .ref r_aheight, .ref r_astrandOf, .ref r_achairOf, .ref r_aweight, .ref r_acane, .int r_sits, .int r_dropped, .int r_minute, .ref r_aload, .ref r_aheads, .int r_held, .int r_heldDown])), (r_achairOf, hcI k 8 f21), (r_aweight, hcI k 8 f22), (t, .inr (5, [.ref t_abytes, .int t_length, .ref t_akinds, .ref t_aplaces, .ref t_avalues, .int t_pieces, .int w15, .int w14])), (t_akinds, hcI k 401 t_rkinds), (t_aplaces, hcI k 401 t_rplaces), (t_avalues, hcI k 401 t_rvalues)]) := hD
          refine lv_iconst (v := 1) hx hb dX1_readSitter_101 (by decide) ?_
          exact hc_endZ hx hb hr hlocks rfl (w15, w14, z23, f21, f22) ⟨iv_lit (by decide) (by decide), (show iv (0) (400) w15 from ⟨by omega, by omega⟩), (show iv (0) (8) z23 from ⟨by omega, by omega⟩), h_f21⟩ (hP.sub [3, 4, 5, 6, 0, 1, 2] rfl) (hD.sub [3, 4, 5, 6, 0, 1, 2] (by decide) rfl) hS dX1_readSitter_102
        · have fc20 := cx_lt_f (a := r_sitters.toInt) (b := 8) rfl (by decide) c20
          refine lv_iconst (v := 0) hx hb dX1_readSitter_69 (by decide) ?_
          exact hc_endZ hx hb hr hlocks rfl (w15, w14, r_sitters, r_rchairOf, r_rweight) ⟨iv_lit (by decide) (by decide), (show iv (0) (400) w15 from ⟨by omega, by omega⟩), (show iv (0) (8) r_sitters from ⟨by omega, by omega⟩), h_r_rchairOf⟩ (hP.sub [3, 4, 5, 6, 0, 1, 2] rfl) (hD.sub [3, 4, 5, 6, 0, 1, 2] (by decide) rfl) hS dX1_readSitter_70
    · have fc11 := cx_ne_f (a := r6.toInt) (b := (-1)) rfl (by decide) c11
      refine lv_iconst (v := 0) hx hb dX1_readSitter_45 (by decide) ?_
      exact hc_endZ hx hb hr hlocks rfl (w8, w7, r_sitters, r_rchairOf, r_rweight) ⟨iv_lit (by decide) (by decide), (show iv (0) (400) w8 from ⟨by omega, by omega⟩), (show iv (0) (8) r_sitters from ⟨by omega, by omega⟩), h_r_rchairOf⟩ (hP.sub [3, 4, 5, 6, 0, 1, 2] rfl) (hD.sub [3, 4, 5, 6, 0, 1, 2] (by decide) rfl) hS dX1_readSitter_46
  · have fc3 := cx_ne_f (a := r2.toInt) (b := 259) rfl (by decide) c3
    refine lv_aload_n hx hb dX1_readSitter_10 rfl (lv_at hl 1 rfl) ?_
    refine lv_aload_n hx hb dX1_readSitter_11 rfl (lv_at hl 0 rfl) ?_
    refine hc_Vi (As := []) (rest := [.ref r]) (n := 0) (wr := [(t_aplaces, hcI k 401 t_rplaces), (r, .inr (2, [.int r_told, .int r_strands, .int r_chairs, .int r_sitters, .ref r_atoldCane, .ref r_aheight, .ref r_astrandOf, .ref r_achairOf, .ref r_aweight, .ref r_acane, .int r_sits, .int r_dropped, .int r_minute, .ref r_aload, .ref r_aheads, .int r_held, .int r_heldDown])), (r_achairOf, hcI k 8 r_rchairOf), (r_aweight, hcI k 8 r_rweight), (t_akinds, hcI k 401 t_rkinds)]) hx hb hml hown hts hG hA hP hD hS hl.1 [5, 1] [0, 2, 3, 4, 6] (i_X7_value l D k _ t t_abytes t_length t_akinds t_aplaces t_avalues t_pieces t_at t_fault t_rvalues ⟨by omega, by omega⟩ ⟨by omega, by omega⟩ ⟨by omega, by omega⟩) (ci := 5) (q0 := 5) rfl rfl gX1_readSitter_X7_value rfl ⟨rfl, rfl, Nat.le_of_ble_eq_true rfl, Nat.le_of_ble_eq_true rfl⟩ (by decide +kernel) rfl rfl ⟨by decide, by decide, by decide⟩ ⟨rfl, rfl, Nat.le_of_ble_eq_true rfl, Nat.le_of_ble_eq_true rfl, Nat.le_of_ble_eq_true rfl⟩ dX1_readSitter_12 (fun r25 u24 H locs hw hP hD hS => ?_)
    have hP : va_P D vwCl ([(t_aplaces, hcI k 401 t_rplaces), (r, .inr (2, [.int r_told, .int r_strands, .int r_chairs, .int r_sitters, .ref r_atoldCane, .ref r_aheight, .ref r_astrandOf, .ref r_achairOf, .ref r_aweight, .ref r_acane, .int r_sits, .int r_dropped, .int r_minute, .ref r_aload, .ref r_aheads, .int r_held, .int r_heldDown])), (r_achairOf, hcI k 8 r_rchairOf), (r_aweight, hcI k 8 r_rweight), (t_akinds, hcI k 401 t_rkinds), (t, .inr (5, [.ref t_abytes, .int t_length, .ref t_akinds, .ref t_aplaces, .ref t_avalues, .int t_pieces, .int t_at, .int t_fault])), (t_avalues, hcI k 401 t_rvalues)]) H := hP
    have hD : va_D A ([(t_aplaces, hcI k 401 t_rplaces), (r, .inr (2, [.int r_told, .int r_strands, .int r_chairs, .int r_sitters, .ref r_atoldCane, .ref r_aheight, .ref r_astrandOf, .ref r_achairOf, .ref r_aweight, .ref r_acane, .int r_sits, .int r_dropped, .int r_minute, .ref r_aload, .ref r_aheads, .int r_held, .int r_heldDown])), (r_achairOf, hcI k 8 r_rchairOf), (r_aweight, hcI k 8 r_rweight), (t_akinds, hcI k 401 t_rkinds), (t, .inr (5, [.ref t_abytes, .int t_length, .ref t_akinds, .ref t_aplaces, .ref t_avalues, .int t_pieces, .int t_at, .int t_fault])), (t_avalues, hcI k 401 t_rvalues)]) := hD
    refine hc_Vi (As := [.int r25]) (rest := []) (n := 1) (wr := [(t_aplaces, hcI k 401 t_rplaces), (r_aweight, hcI k 8 r_rweight), (t_akinds, hcI k 401 t_rkinds), (t, .inr (5, [.ref t_abytes, .int t_length, .ref t_akinds, .ref t_aplaces, .ref t_avalues, .int t_pieces, .int t_at, .int t_fault])), (t_avalues, hcI k 401 t_rvalues)]) hx hb hml hown hts hG hA hP hD hS hl.1 [1, 2] [0, 3, 4, 5, 6] (i_X3_sitterOn l D k _ r25 r r_told r_strands r_chairs r_sitters r_atoldCane r_aheight r_astrandOf r_achairOf r_aweight r_acane r_sits r_dropped r_minute r_aload r_aheads r_held r_heldDown r_rchairOf ⟨by omega, by omega⟩ ⟨by omega, by omega⟩ ⟨by omega, by omega⟩ ⟨by omega, by omega⟩ h_r_rchairOf) (ci := 2) (q0 := 1) rfl rfl gX1_readSitter_X3_sitterOn rfl ⟨rfl, rfl, Nat.le_of_ble_eq_true rfl, Nat.le_of_ble_eq_true rfl⟩ (by decide +kernel) rfl rfl ⟨by decide, by decide, by decide⟩ ⟨rfl, rfl, Nat.le_of_ble_eq_true rfl, Nat.le_of_ble_eq_true rfl, Nat.le_of_ble_eq_true rfl⟩ dX1_readSitter_15 (fun r27 u26 H locs hw hP hD hS => ?_)
    have hP : va_P D vwCl ([(t_aplaces, hcI k 401 t_rplaces), (r_aweight, hcI k 8 r_rweight), (t_akinds, hcI k 401 t_rkinds), (t, .inr (5, [.ref t_abytes, .int t_length, .ref t_akinds, .ref t_aplaces, .ref t_avalues, .int t_pieces, .int t_at, .int t_fault])), (t_avalues, hcI k 401 t_rvalues), (r, .inr (2, [.int r_told, .int r_strands, .int r_chairs, .int r_sitters, .ref r_atoldCane, .ref r_aheight, .ref r_astrandOf, .ref r_achairOf, .ref r_aweight, .ref r_acane, .int r_sits, .int r_dropped, .int r_minute, .ref r_aload, .ref r_aheads, .int r_held, .int r_heldDown])), (r_achairOf, hcI k 8 r_rchairOf)]) H := hP
    have hD : va_D A ([(t_aplaces, hcI k 401 t_rplaces), (r_aweight, hcI k 8 r_rweight), (t_akinds, hcI k 401 t_rkinds), (t, .inr (5, [.ref t_abytes, .int t_length, .ref t_akinds, .ref t_aplaces, .ref t_avalues, .int t_pieces, .int t_at, .int t_fault])), (t_avalues, hcI k 401 t_rvalues), (r, .inr (2, [.int r_told, .int r_strands, .int r_chairs, .int r_sitters, .ref r_atoldCane, .ref r_aheight, .ref r_astrandOf, .ref r_achairOf, .ref r_aweight, .ref r_acane, .int r_sits, .int r_dropped, .int r_minute, .ref r_aload, .ref r_aheads, .int r_held, .int r_heldDown])), (r_achairOf, hcI k 8 r_rchairOf)]) := hD
    have br27 := hw
    have br27 : iv (-1) (7) r27 := br27
    have br27_l := br27.1
    have br27_u := br27.2
    refine lv_iconst (v := (-1)) hx hb dX1_readSitter_18 (by decide) ?_
    refine lv_icmp_eq (tgt := 28) hx hb dX1_readSitter_19 (by decide) (fun c28 => ?_) (fun c28 => ?_)
    · have fc28 := cx_eq_t (a := r27.toInt) (b := (-1)) rfl (by decide) c28
      refine lv_aload_n hx hb dX1_readSitter_28 rfl (lv_at hl 0 rfl) ?_
      refine lv_iconst (v := 0) hx hb dX1_readSitter_29 (by decide) ?_
      refine lv_aload_n hx hb dX1_readSitter_30 rfl (lv_at hl 1 rfl) ?_
      refine va_get (D := D) (ci := 2) (v := .int r_chairs) (C := RX3) (T := TX3) (N := 17) hx hb hts in3 hown hG.1 hP 5 rfl rfl 2 (by decide) (hts (.fieldLink RX1 47 "ChairCane$Room" "chairs" "I") (by decide +kernel)) (fun _ h9 => h9) rfl dX1_readSitter_31 ?_
      refine lv_iconst (v := 1) hx hb dX1_readSitter_34 (by decide) ?_
      refine lv_isub hx hb dX1_readSitter_35 ?_
      refine lv_topi (fun z29 ez29 => ?_)
      have tz29 : z29.toInt = r_chairs.toInt - 1 := ai_sub rfl (by decide) ez29 (by omega) (by omega)
      refine hc_Vi (As := [.int 0, .int z29]) (rest := []) (n := 2) (wr := [(r_aweight, hcI k 8 r_rweight), (r, .inr (2, [.int r_told, .int r_strands, .int r_chairs, .int r_sitters, .ref r_atoldCane, .ref r_aheight, .ref r_astrandOf, .ref r_achairOf, .ref r_aweight, .ref r_acane, .int r_sits, .int r_dropped, .int r_minute, .ref r_aload, .ref r_aheads, .int r_held, .int r_heldDown])), (r_achairOf, hcI k 8 r_rchairOf)]) hx hb hml hown hts hG hA hP hD hS hl.1 [3, 2, 0, 4] [1, 5, 6] (i_X7_takeNumber l D k _ 0 z29 t t_abytes t_length t_akinds t_aplaces t_avalues t_pieces t_at t_fault t_rkinds t_rplaces t_rvalues ⟨by omega, by omega⟩ ⟨by omega, by omega⟩ ⟨by omega, by omega⟩) (ci := 5) (q0 := 3) rfl rfl gX1_readSitter_X7_takeNumber rfl ⟨rfl, rfl, Nat.le_of_ble_eq_true rfl, Nat.le_of_ble_eq_true rfl⟩ (by decide +kernel) rfl rfl ⟨by decide, by decide, by decide⟩ ⟨rfl, rfl, Nat.le_of_ble_eq_true rfl, Nat.le_of_ble_eq_true rfl, Nat.le_of_ble_eq_true rfl⟩ dX1_readSitter_36 (fun r31 u30 H locs hw hP hD hS => ?_)
      obtain ⟨w32, w33⟩ := u30
      have hP : va_P D vwCl ([(r_aweight, hcI k 8 r_rweight), (r, .inr (2, [.int r_told, .int r_strands, .int r_chairs, .int r_sitters, .ref r_atoldCane, .ref r_aheight, .ref r_astrandOf, .ref r_achairOf, .ref r_aweight, .ref r_acane, .int r_sits, .int r_dropped, .int r_minute, .ref r_aload, .ref r_aheads, .int r_held, .int r_heldDown])), (r_achairOf, hcI k 8 r_rchairOf), (t, .inr (5, [.ref t_abytes, .int t_length, .ref t_akinds, .ref t_aplaces, .ref t_avalues, .int t_pieces, .int w33, .int w32])), (t_akinds, hcI k 401 t_rkinds), (t_aplaces, hcI k 401 t_rplaces), (t_avalues, hcI k 401 t_rvalues)]) H := hP
      have hD : va_D A ([(r_aweight, hcI k 8 r_rweight), (r, .inr (2, [.int r_told, .int r_strands, .int r_chairs, .int r_sitters, .ref r_atoldCane, .ref r_aheight, .ref r_astrandOf, .ref r_achairOf, .ref r_aweight, .ref r_acane, .int r_sits, .int r_dropped, .int r_minute, .ref r_aload, .ref r_aheads, .int r_held, .int r_heldDown])), (r_achairOf, hcI k 8 r_rchairOf), (t, .inr (5, [.ref t_abytes, .int t_length, .ref t_akinds, .ref t_aplaces, .ref t_avalues, .int t_pieces, .int w33, .int w32])), (t_akinds, hcI k 401 t_rkinds), (t_aplaces, hcI k 401 t_rplaces), (t_avalues, hcI k 401 t_rvalues)]) := hD
      have ql35 : (0 : Int32).toInt = 0 := by decide
      obtain ⟨bw33, rel34⟩ := hw
      have bw33 : iv (0) (400) w33 := bw33
      have bw33_l := bw33.1
      have bw33_u := bw33.2
      refine lv_istore_n (lv' := [(2, .int r31), (0, .ref t), (1, .ref r)]) hx hb dX1_readSitter_39 rfl hl (by decide) rfl (fun ls hl => ?_)
      refine lv_iload_n hx hb dX1_readSitter_40 rfl (lv_at hl 0 rfl) ?_
      refine lv_iconst (v := (-1)) hx hb dX1_readSitter_41 (by decide) ?_
      refine lv_icmp_ne (tgt := 47) hx hb dX1_readSitter_42 (by decide) (fun c36 => ?_) (fun c36 => ?_)
      · have fc36 := cx_ne_t (a := r31.toInt) (b := (-1)) rfl (by decide) c36
        refine lv_aload_n hx hb dX1_readSitter_47 rfl (lv_at hl 1 rfl) ?_
        refine lv_iconst (v := 1) hx hb dX1_readSitter_48 (by decide) ?_
        refine lv_bipush (v := 20) hx hb dX1_readSitter_49 (by decide) ?_
        refine hc_Vi (As := [.int 1, .int 20]) (rest := []) (n := 2) (wr := [(r_aweight, hcI k 8 r_rweight), (r, .inr (2, [.int r_told, .int r_strands, .int r_chairs, .int r_sitters, .ref r_atoldCane, .ref r_aheight, .ref r_astrandOf, .ref r_achairOf, .ref r_aweight, .ref r_acane, .int r_sits, .int r_dropped, .int r_minute, .ref r_aload, .ref r_aheads, .int r_held, .int r_heldDown])), (r_achairOf, hcI k 8 r_rchairOf)]) hx hb hml hown hts hG hA hP hD hS hl.1 [3, 4, 5, 6] [0, 1, 2] (i_X7_takeNumber l D k _ 1 20 t t_abytes t_length t_akinds t_aplaces t_avalues t_pieces w33 w32 t_rkinds t_rplaces t_rvalues ⟨by omega, by omega⟩ ⟨by omega, by omega⟩ ⟨by omega, by omega⟩) (ci := 5) (q0 := 3) rfl rfl gX1_readSitter_X7_takeNumber rfl ⟨rfl, rfl, Nat.le_of_ble_eq_true rfl, Nat.le_of_ble_eq_true rfl⟩ (by decide +kernel) rfl rfl ⟨by decide, by decide, by decide⟩ ⟨rfl, rfl, Nat.le_of_ble_eq_true rfl, Nat.le_of_ble_eq_true rfl, Nat.le_of_ble_eq_true rfl⟩ dX1_readSitter_51 (fun r38 u37 H locs hw hP hD hS => ?_)
        obtain ⟨w39, w40⟩ := u37
        have hP : va_P D vwCl ([(r_aweight, hcI k 8 r_rweight), (r, .inr (2, [.int r_told, .int r_strands, .int r_chairs, .int r_sitters, .ref r_atoldCane, .ref r_aheight, .ref r_astrandOf, .ref r_achairOf, .ref r_aweight, .ref r_acane, .int r_sits, .int r_dropped, .int r_minute, .ref r_aload, .ref r_aheads, .int r_held, .int r_heldDown])), (r_achairOf, hcI k 8 r_rchairOf), (t, .inr (5, [.ref t_abytes, .int t_length, .ref t_akinds, .ref t_aplaces, .ref t_avalues, .int t_pieces, .int w40, .int w39])), (t_akinds, hcI k 401 t_rkinds), (t_aplaces, hcI k 401 t_rplaces), (t_avalues, hcI k 401 t_rvalues)]) H := hP
        have hD : va_D A ([(r_aweight, hcI k 8 r_rweight), (r, .inr (2, [.int r_told, .int r_strands, .int r_chairs, .int r_sitters, .ref r_atoldCane, .ref r_aheight, .ref r_astrandOf, .ref r_achairOf, .ref r_aweight, .ref r_acane, .int r_sits, .int r_dropped, .int r_minute, .ref r_aload, .ref r_aheads, .int r_held, .int r_heldDown])), (r_achairOf, hcI k 8 r_rchairOf), (t, .inr (5, [.ref t_abytes, .int t_length, .ref t_akinds, .ref t_aplaces, .ref t_avalues, .int t_pieces, .int w40, .int w39])), (t_akinds, hcI k 401 t_rkinds), (t_aplaces, hcI k 401 t_rplaces), (t_avalues, hcI k 401 t_rvalues)]) := hD
        have ql42 : (1 : Int32).toInt = 1 := by decide
        have ql43 : (20 : Int32).toInt = 20 := by decide
        obtain ⟨bw40, rel41⟩ := hw
        have bw40 : iv (0) (400) w40 := bw40
        have bw40_l := bw40.1
        have bw40_u := bw40.2
        refine lv_istore_n (lv' := [(3, .int r38), (2, .int r31), (0, .ref t), (1, .ref r)]) hx hb dX1_readSitter_54 rfl hl (by decide) rfl (fun ls hl => ?_)
        refine lv_iload_n hx hb dX1_readSitter_55 rfl (lv_at hl 0 rfl) ?_
        refine lv_iconst (v := (-1)) hx hb dX1_readSitter_56 (by decide) ?_
        refine lv_icmp_eq (tgt := 69) hx hb dX1_readSitter_57 (by decide) (fun c44 => ?_) (fun c44 => ?_)
        · have fc44 := cx_eq_t (a := r38.toInt) (b := (-1)) rfl (by decide) c44
          refine lv_iconst (v := 0) hx hb dX1_readSitter_69 (by decide) ?_
          exact hc_endZ hx hb hr hlocks rfl (w40, w39, r_sitters, r_rchairOf, r_rweight) ⟨iv_lit (by decide) (by decide), (show iv (0) (400) w40 from ⟨by omega, by omega⟩), (show iv (0) (8) r_sitters from ⟨by omega, by omega⟩), h_r_rchairOf⟩ (hP.sub [3, 4, 5, 6, 1, 2, 0] rfl) (hD.sub [3, 4, 5, 6, 1, 2, 0] (by decide) rfl) hS dX1_readSitter_70
        · have fc44 := cx_eq_f (a := r38.toInt) (b := (-1)) rfl (by decide) c44
          refine lv_aload_n hx hb dX1_readSitter_60 rfl (lv_at hl 3 rfl) ?_
          refine va_get (D := D) (ci := 2) (v := .int r_sitters) (C := RX3) (T := TX3) (N := 17) hx hb hts in3 hown hG.1 hP 1 rfl rfl 3 (by decide) (hts (.fieldLink RX1 84 "ChairCane$Room" "sitters" "I") (by decide +kernel)) (fun _ h9 => h9) rfl dX1_readSitter_61 ?_
          refine lv_bipush (v := 8) hx hb dX1_readSitter_64 (by decide) ?_
          refine lv_icmp_lt (tgt := 71) hx hb dX1_readSitter_66 (by decide) (fun c45 => ?_) (fun c45 => ?_)
          · have fc45 := cx_lt_t (a := r_sitters.toInt) (b := 8) rfl (by decide) c45
            refine lv_aload_n hx hb dX1_readSitter_71 rfl (lv_at hl 3 rfl) ?_
            refine va_get (D := D) (ci := 2) (v := .ref r_achairOf) (C := RX3) (T := TX3) (N := 17) hx hb hts in3 hown hG.1 hP 1 rfl rfl 7 (by decide) (hts (.fieldLink RX1 87 "ChairCane$Room" "chairOf" "[I") (by decide +kernel)) (fun _ h9 => h9) rfl dX1_readSitter_72 ?_
            refine lv_aload_n hx hb dX1_readSitter_75 rfl (lv_at hl 3 rfl) ?_
            refine va_get (D := D) (ci := 2) (v := .int r_sitters) (C := RX3) (T := TX3) (N := 17) hx hb hts in3 hown hG.1 hP 1 rfl rfl 3 (by decide) (hts (.fieldLink RX1 84 "ChairCane$Room" "sitters" "I") (by decide +kernel)) (fun _ h9 => h9) rfl dX1_readSitter_76 ?_
            refine lv_iload_n hx hb dX1_readSitter_79 rfl (lv_at hl 1 rfl) ?_
            refine va_iast hx hb hG.1 hP hD hS 2 0 rfl rfl (vp_in_iff.mpr ⟨by omega, by omega⟩) dX1_readSitter_80 (fun H locs hP hD hS => ?_)
            obtain ⟨f46, ef46⟩ : ∃ f, f = upd r_rchairOf (Int32.toNatClampNeg r_sitters) (r31) := ⟨_, rfl⟩
            rw [← ef46] at hP hD
            have h_f46 : rowIn (0) (7) f46 := by rw [ef46]; exact row_upd h_r_rchairOf ⟨by omega, by omega⟩
            have hP : va_P D vwCl ([(r_aweight, hcI k 8 r_rweight), (r, .inr (2, [.int r_told, .int r_strands, .int r_chairs, .int r_sitters, .ref r_atoldCane, .ref r_aheight, .ref r_astrandOf, .ref r_achairOf, .ref r_aweight, .ref r_acane, .int r_sits, .int r_dropped, .int r_minute, .ref r_aload, .ref r_aheads, .int r_held, .int r_heldDown])), (r_achairOf, hcI k 8 f46), (t, .inr (5, [.ref t_abytes, .int t_length, .ref t_akinds, .ref t_aplaces, .ref t_avalues, .int t_pieces, .int w40, .int w39])), (t_akinds, hcI k 401 t_rkinds), (t_aplaces, hcI k 401 t_rplaces), (t_avalues, hcI k 401 t_rvalues)]) H := hP
            have hD : va_D A ([(r_aweight, hcI k 8 r_rweight), (r, .inr (2, [.int r_told, .int r_strands, .int r_chairs, .int r_sitters, .ref r_atoldCane, .ref r_aheight, .ref r_astrandOf, .ref r_achairOf, .ref r_aweight, .ref r_acane, .int r_sits, .int r_dropped, .int r_minute, .ref r_aload, .ref r_aheads, .int r_held, .int r_heldDown])), (r_achairOf, hcI k 8 f46), (t, .inr (5, [.ref t_abytes, .int t_length, .ref t_akinds, .ref t_aplaces, .ref t_avalues, .int t_pieces, .int w40, .int w39])), (t_akinds, hcI k 401 t_rkinds), (t_aplaces, hcI k 401 t_rplaces), (t_avalues, hcI k 401 t_rvalues)]) := hD
            refine lv_aload_n hx hb dX1_readSitter_81 rfl (lv_at hl 3 rfl) ?_
            refine va_get (D := D) (ci := 2) (v := .ref r_aweight) (C := RX3) (T := TX3) (N := 17) hx hb hts in3 hown hG.1 hP 1 rfl rfl 8 (by decide) (hts (.fieldLink RX1 90 "ChairCane$Room" "weight" "[I") (by decide +kernel)) (fun _ h9 => h9) rfl dX1_readSitter_82 ?_
            refine lv_aload_n hx hb dX1_readSitter_85 rfl (lv_at hl 3 rfl) ?_
            refine va_get (D := D) (ci := 2) (v := .int r_sitters) (C := RX3) (T := TX3) (N := 17) hx hb hts in3 hown hG.1 hP 1 rfl rfl 3 (by decide) (hts (.fieldLink RX1 84 "ChairCane$Room" "sitters" "I") (by decide +kernel)) (fun _ h9 => h9) rfl dX1_readSitter_86 ?_
            refine lv_iload_n hx hb dX1_readSitter_89 rfl (lv_at hl 0 rfl) ?_
            refine va_iast hx hb hG.1 hP hD hS 0 0 rfl rfl (vp_in_iff.mpr ⟨by omega, by omega⟩) dX1_readSitter_90 (fun H locs hP hD hS => ?_)
            obtain ⟨f47, ef47⟩ : ∃ f, f = upd r_rweight (Int32.toNatClampNeg r_sitters) (r38) := ⟨_, rfl⟩
            rw [← ef47] at hP hD
            have hP : va_P D vwCl ([(r_aweight, hcI k 8 f47), (r, .inr (2, [.int r_told, .int r_strands, .int r_chairs, .int r_sitters, .ref r_atoldCane, .ref r_aheight, .ref r_astrandOf, .ref r_achairOf, .ref r_aweight, .ref r_acane, .int r_sits, .int r_dropped, .int r_minute, .ref r_aload, .ref r_aheads, .int r_held, .int r_heldDown])), (r_achairOf, hcI k 8 f46), (t, .inr (5, [.ref t_abytes, .int t_length, .ref t_akinds, .ref t_aplaces, .ref t_avalues, .int t_pieces, .int w40, .int w39])), (t_akinds, hcI k 401 t_rkinds), (t_aplaces, hcI k 401 t_rplaces), (t_avalues, hcI k 401 t_rvalues)]) H := hP
            have hD : va_D A ([(r_aweight, hcI k 8 f47), (r, .inr (2, [.int r_told, .int r_strands, .int r_chairs, .int r_sitters, .ref r_atoldCane, .ref r_aheight, .ref r_astrandOf, .ref r_achairOf, .ref r_aweight, .ref r_acane, .int r_sits, .int r_dropped, .int r_minute, .ref r_aload, .ref r_aheads, .int r_held, .int r_heldDown])), (r_achairOf, hcI k 8 f46), (t, .inr (5, [.ref t_abytes, .int t_length, .ref t_akinds, .ref t_aplaces, .ref t_avalues, .int t_pieces, .int w40, .int w39])), (t_akinds, hcI k 401 t_rkinds), (t_aplaces, hcI k 401 t_rplaces), (t_avalues, hcI k 401 t_rvalues)]) := hD
            refine lv_aload_n hx hb dX1_readSitter_91 rfl (lv_at hl 3 rfl) ?_
            refine lv_dup hx hb dX1_readSitter_92 rfl ?_
            refine va_get (D := D) (ci := 2) (v := .int r_sitters) (C := RX3) (T := TX3) (N := 17) hx hb hts in3 hown hG.1 hP 1 rfl rfl 3 (by decide) (hts (.fieldLink RX1 84 "ChairCane$Room" "sitters" "I") (by decide +kernel)) (fun _ h9 => h9) rfl dX1_readSitter_93 ?_
            refine lv_iconst (v := 1) hx hb dX1_readSitter_96 (by decide) ?_
            refine lv_iadd hx hb dX1_readSitter_97 ?_
            refine lv_topi (fun z48 ez48 => ?_)
            have tz48 : z48.toInt = r_sitters.toInt + 1 := ai_add rfl (by decide) ez48 (by omega) (by omega)
            refine va_put (D := D) (ci := 2) (v := .int z48) (C := RX3) (T := TX3) (N := 17) hx hb hts in3 tyX3 tyX3_ok nmX3 hown hG.1 hP hD hS 1 rfl rfl 3 (by decide) (hts (.fieldLink RX1 84 "ChairCane$Room" "sitters" "I") (by decide +kernel)) (fun _ h9 => h9) rfl (tyX3_ok 3 (by decide)) rfl rfl (Nat.le_of_ble_eq_true rfl) dX1_readSitter_98 (fun H locs hP hD hS => ?_)
            have hP : va_P D vwCl ([(r_aweight, hcI k 8 f47), (r, .inr (2, [.int r_told, .int r_strands, .int r_chairs, .int z48, .ref r_atoldCane, .ref r_aheight, .ref r_astrandOf, .ref r_achairOf, .ref r_aweight, .ref r_acane, .int r_sits, .int r_dropped, .int r_minute, .ref r_aload, .ref r_aheads, .int r_held, .int r_heldDown])), (r_achairOf, hcI k 8 f46), (t, .inr (5, [.ref t_abytes, .int t_length, .ref t_akinds, .ref t_aplaces, .ref t_avalues, .int t_pieces, .int w40, .int w39])), (t_akinds, hcI k 401 t_rkinds), (t_aplaces, hcI k 401 t_rplaces), (t_avalues, hcI k 401 t_rvalues)]) H := hP
            have hD : va_D A ([(r_aweight, hcI k 8 f47), (r, .inr (2, [.int r_told, .int r_strands, .int r_chairs, .int z48, .ref r_atoldCane, .ref r_aheight, .ref r_astrandOf, .ref r_achairOf, .ref r_aweight, .ref r_acane, .int r_sits, .int r_dropped, .int r_minute, .ref r_aload, .ref r_aheads, .int r_held, .int r_heldDown])), (r_achairOf, hcI k 8 f46), (t, .inr (5, [.ref t_abytes, .int t_length, .ref t_akinds, .ref t_aplaces, .ref t_avalues, .int t_pieces, .int w40, .int w39])), (t_akinds, hcI k 401 t_rkinds), (t_aplaces, hcI k 401 t_rplaces), (t_avalues, hcI k 401 t_rvalues)]) := hD
            refine lv_iconst (v := 1) hx hb dX1_readSitter_101 (by decide) ?_
            exact hc_endZ hx hb hr hlocks rfl (w40, w39, z48, f46, f47) ⟨iv_lit (by decide) (by decide), (show iv (0) (400) w40 from ⟨by omega, by omega⟩), (show iv (0) (8) z48 from ⟨by omega, by omega⟩), h_f46⟩ (hP.sub [3, 4, 5, 6, 1, 2, 0] rfl) (hD.sub [3, 4, 5, 6, 1, 2, 0] (by decide) rfl) hS dX1_readSitter_102
          · have fc45 := cx_lt_f (a := r_sitters.toInt) (b := 8) rfl (by decide) c45
            refine lv_iconst (v := 0) hx hb dX1_readSitter_69 (by decide) ?_
            exact hc_endZ hx hb hr hlocks rfl (w40, w39, r_sitters, r_rchairOf, r_rweight) ⟨iv_lit (by decide) (by decide), (show iv (0) (400) w40 from ⟨by omega, by omega⟩), (show iv (0) (8) r_sitters from ⟨by omega, by omega⟩), h_r_rchairOf⟩ (hP.sub [3, 4, 5, 6, 1, 2, 0] rfl) (hD.sub [3, 4, 5, 6, 1, 2, 0] (by decide) rfl) hS dX1_readSitter_70
      · have fc36 := cx_ne_f (a := r31.toInt) (b := (-1)) rfl (by decide) c36
        refine lv_iconst (v := 0) hx hb dX1_readSitter_45 (by decide) ?_
        exact hc_endZ hx hb hr hlocks rfl (w33, w32, r_sitters, r_rchairOf, r_rweight) ⟨iv_lit (by decide) (by decide), (show iv (0) (400) w33 from ⟨by omega, by omega⟩), (show iv (0) (8) r_sitters from ⟨by omega, by omega⟩), h_r_rchairOf⟩ (hP.sub [3, 4, 5, 6, 1, 2, 0] rfl) (hD.sub [3, 4, 5, 6, 1, 2, 0] (by decide) rfl) hS dX1_readSitter_46
    · have fc28 := cx_eq_f (a := r27.toInt) (b := (-1)) rfl (by decide) c28
      refine lv_aload_n hx hb dX1_readSitter_22 rfl (lv_at hl 0 rfl) ?_
      refine lv_iconst (v := 1) hx hb dX1_readSitter_23 (by decide) ?_
      refine hc_Vi (As := [.int 1]) (rest := []) (n := 1) (wr := [(r_aweight, hcI k 8 r_rweight), (t_akinds, hcI k 401 t_rkinds), (t_avalues, hcI k 401 t_rvalues), (r, .inr (2, [.int r_told, .int r_strands, .int r_chairs, .int r_sitters, .ref r_atoldCane, .ref r_aheight, .ref r_astrandOf, .ref r_achairOf, .ref r_aweight, .ref r_acane, .int r_sits, .int r_dropped, .int r_minute, .ref r_aload, .ref r_aheads, .int r_held, .int r_heldDown])), (r_achairOf, hcI k 8 r_rchairOf)]) hx hb hml hown hts hG hA hP hD hS hl.1 [3, 0] [1, 2, 4, 5, 6] (i_X7_fail l D k _ 1 t t_abytes t_length t_akinds t_aplaces t_avalues t_pieces t_at t_fault t_rplaces ⟨by omega, by omega⟩ ⟨by omega, by omega⟩ ⟨by omega, by omega⟩) (ci := 5) (q0 := 3) rfl rfl gX1_readSitter_X7_fail rfl ⟨rfl, rfl, Nat.le_of_ble_eq_true rfl, Nat.le_of_ble_eq_true rfl⟩ (by decide +kernel) rfl rfl ⟨by decide, by decide, by decide⟩ ⟨rfl, rfl, Nat.le_of_ble_eq_true rfl, Nat.le_of_ble_eq_true rfl, Nat.le_of_ble_eq_true rfl⟩ dX1_readSitter_24 (fun r50 u49 H locs hw hP hD hS => ?_)
      obtain ⟨w51, rfl⟩ : ∃ z, z = u49 := ⟨_, rfl⟩
      have hP : va_P D vwCl ([(r_aweight, hcI k 8 r_rweight), (t_akinds, hcI k 401 t_rkinds), (t_avalues, hcI k 401 t_rvalues), (r, .inr (2, [.int r_told, .int r_strands, .int r_chairs, .int r_sitters, .ref r_atoldCane, .ref r_aheight, .ref r_astrandOf, .ref r_achairOf, .ref r_aweight, .ref r_acane, .int r_sits, .int r_dropped, .int r_minute, .ref r_aload, .ref r_aheads, .int r_held, .int r_heldDown])), (r_achairOf, hcI k 8 r_rchairOf), (t, .inr (5, [.ref t_abytes, .int t_length, .ref t_akinds, .ref t_aplaces, .ref t_avalues, .int t_pieces, .int t_at, .int w51])), (t_aplaces, hcI k 401 t_rplaces)]) H := hP
      have hD : va_D A ([(r_aweight, hcI k 8 r_rweight), (t_akinds, hcI k 401 t_rkinds), (t_avalues, hcI k 401 t_rvalues), (r, .inr (2, [.int r_told, .int r_strands, .int r_chairs, .int r_sitters, .ref r_atoldCane, .ref r_aheight, .ref r_astrandOf, .ref r_achairOf, .ref r_aweight, .ref r_acane, .int r_sits, .int r_dropped, .int r_minute, .ref r_aload, .ref r_aheads, .int r_held, .int r_heldDown])), (r_achairOf, hcI k 8 r_rchairOf), (t, .inr (5, [.ref t_abytes, .int t_length, .ref t_akinds, .ref t_aplaces, .ref t_avalues, .int t_pieces, .int t_at, .int w51])), (t_aplaces, hcI k 401 t_rplaces)]) := hD
      have br50 := hw
      have br50 : iv (0) (0) r50 := br50
      have br50_l := br50.1
      have br50_u := br50.2
      exact hc_endZ hx hb hr hlocks (iv_z ⟨by omega, by omega⟩) (t_at, w51, r_sitters, r_rchairOf, r_rweight) ⟨⟨by omega, by omega⟩, (show iv (0) (400) t_at from ⟨by omega, by omega⟩), (show iv (0) (8) r_sitters from ⟨by omega, by omega⟩), h_r_rchairOf⟩ (hP.sub [5, 1, 6, 2, 3, 4, 0] rfl) (hD.sub [5, 1, 6, 2, 3, 4, 0] (by decide) rfl) hS dX1_readSitter_27
