/-! Tape: what never breaks -/
set_option maxHeartbeats 4000000 in
set_option maxRecDepth 100000 in
theorem i_X7_isLetter (l : Launch) (D : va_G) (k : Nat → ClassId) (sz : Nat) (x1 : Int32)  : CtI l yX7_isLetter wsX7_isLetter (rmK 1 0 0) [.int x1] D k sz ([]) (fun (r : Int32) (u : Unit) => iv (0) (1) r) (fun u : Unit => []) 0 0 := by
  refine CtI.mk (cc := cX7_isLetter) (maxL := 1) (ret := (some .boolean)) (by decide) rfl (Nat.le_of_ble_eq_true rfl) ?_
  intro p e s m below meth c A ls E hP hD hS hl
  obtain ⟨hx, hb, hr, hml, hown, hts, hlocks, hin, hG, hA⟩ := E
  have hown : s.vm.findClass RX7 = some m.cls := hown
  have hl : lv_has ls 1 [(0, .int x1)] := hl
  refine lv_iload_n hx hb dX7_isLetter_0 rfl (lv_at hl 0 rfl) ?_
  refine lv_bipush (v := 97) hx hb dX7_isLetter_1 (by decide) ?_
  refine lv_icmp_lt (tgt := 16) hx hb dX7_isLetter_3 (by decide) (fun c1 => ?_) (fun c1 => ?_)
  · have fc1 := cx_lt_t (a := x1.toInt) (b := 97) rfl (by decide) c1
    refine lv_iconst (v := 0) hx hb dX7_isLetter_16 (by decide) ?_
    exact hc_endZ hx hb hr hlocks rfl () (iv_lit (by decide) (by decide)) hP hD hS dX7_isLetter_17
  · have fc1 := cx_lt_f (a := x1.toInt) (b := 97) rfl (by decide) c1
    refine lv_iload_n hx hb dX7_isLetter_6 rfl (lv_at hl 0 rfl) ?_
    refine lv_bipush (v := 122) hx hb dX7_isLetter_7 (by decide) ?_
    refine lv_icmp_gt (tgt := 16) hx hb dX7_isLetter_9 (by decide) (fun c2 => ?_) (fun c2 => ?_)
    · have fc2 := cx_gt_t (a := x1.toInt) (b := 122) rfl (by decide) c2
      refine lv_iconst (v := 0) hx hb dX7_isLetter_16 (by decide) ?_
      exact hc_endZ hx hb hr hlocks rfl () (iv_lit (by decide) (by decide)) hP hD hS dX7_isLetter_17
    · have fc2 := cx_gt_f (a := x1.toInt) (b := 122) rfl (by decide) c2
      refine lv_iconst (v := 1) hx hb dX7_isLetter_12 (by decide) ?_
      refine lv_goto (tgt := 17) hx hb dX7_isLetter_13 (by decide) ?_
      exact hc_endZ hx hb hr hlocks rfl () (iv_lit (by decide) (by decide)) hP hD hS dX7_isLetter_17
set_option maxHeartbeats 4000000 in
set_option maxRecDepth 100000 in
theorem i_X7_isDigit (l : Launch) (D : va_G) (k : Nat → ClassId) (sz : Nat) (x1 : Int32)  : CtI l yX7_isDigit wsX7_isDigit (rmK 1 0 0) [.int x1] D k sz ([]) (fun (r : Int32) (u : Unit) => iv (0) (1) r) (fun u : Unit => []) 0 0 := by
  refine CtI.mk (cc := cX7_isDigit) (maxL := 1) (ret := (some .boolean)) (by decide) rfl (Nat.le_of_ble_eq_true rfl) ?_
  intro p e s m below meth c A ls E hP hD hS hl
  obtain ⟨hx, hb, hr, hml, hown, hts, hlocks, hin, hG, hA⟩ := E
  have hown : s.vm.findClass RX7 = some m.cls := hown
  have hl : lv_has ls 1 [(0, .int x1)] := hl
  refine lv_iload_n hx hb dX7_isDigit_0 rfl (lv_at hl 0 rfl) ?_
  refine lv_bipush (v := 48) hx hb dX7_isDigit_1 (by decide) ?_
  refine lv_icmp_lt (tgt := 16) hx hb dX7_isDigit_3 (by decide) (fun c1 => ?_) (fun c1 => ?_)
  · have fc1 := cx_lt_t (a := x1.toInt) (b := 48) rfl (by decide) c1
    refine lv_iconst (v := 0) hx hb dX7_isDigit_16 (by decide) ?_
    exact hc_endZ hx hb hr hlocks rfl () (iv_lit (by decide) (by decide)) hP hD hS dX7_isDigit_17
  · have fc1 := cx_lt_f (a := x1.toInt) (b := 48) rfl (by decide) c1
    refine lv_iload_n hx hb dX7_isDigit_6 rfl (lv_at hl 0 rfl) ?_
    refine lv_bipush (v := 57) hx hb dX7_isDigit_7 (by decide) ?_
    refine lv_icmp_gt (tgt := 16) hx hb dX7_isDigit_9 (by decide) (fun c2 => ?_) (fun c2 => ?_)
    · have fc2 := cx_gt_t (a := x1.toInt) (b := 57) rfl (by decide) c2
      refine lv_iconst (v := 0) hx hb dX7_isDigit_16 (by decide) ?_
      exact hc_endZ hx hb hr hlocks rfl () (iv_lit (by decide) (by decide)) hP hD hS dX7_isDigit_17
    · have fc2 := cx_gt_f (a := x1.toInt) (b := 57) rfl (by decide) c2
      refine lv_iconst (v := 1) hx hb dX7_isDigit_12 (by decide) ?_
      refine lv_goto (tgt := 17) hx hb dX7_isDigit_13 (by decide) ?_
      exact hc_endZ hx hb hr hlocks rfl () (iv_lit (by decide) (by decide)) hP hD hS dX7_isDigit_17
set_option maxHeartbeats 4000000 in
set_option maxRecDepth 100000 in
theorem i_X7_byteAt (l : Launch) (D : va_G) (k : Nat → ClassId) (sz : Nat) (x1 : Int32) (t : Nat) (t_abytes : Nat) (t_length : Int32) (t_akinds : Nat) (t_aplaces : Nat) (t_avalues : Nat) (t_pieces : Int32) (t_at : Int32) (t_fault : Int32) (t_rbytes : Nat → Int32) (h_t_length : iv (0) (400) t_length) (h_t_pieces : iv (0) (401) t_pieces) (h_t_at : iv (0) (400) t_at) : CtI l yX7_byteAt wsX7_byteAt (rmK 1 0 0) [.ref t, .int x1] D k sz ([(t, .inr (5, [.ref t_abytes, .int t_length, .ref t_akinds, .ref t_aplaces, .ref t_avalues, .int t_pieces, .int t_at, .int t_fault])), (t_abytes, hcY k 400 t_rbytes)]) (fun (r : Int32) (u : Unit) => iv (-1) (255) r) (fun u : Unit => [(t, .inr (5, [.ref t_abytes, .int t_length, .ref t_akinds, .ref t_aplaces, .ref t_avalues, .int t_pieces, .int t_at, .int t_fault])), (t_abytes, hcY k 400 t_rbytes)]) 0 0 := by
  have h_t_length_l := h_t_length.1
  have h_t_length_u := h_t_length.2
  have h_t_pieces_l := h_t_pieces.1
  have h_t_pieces_u := h_t_pieces.2
  have h_t_at_l := h_t_at.1
  have h_t_at_u := h_t_at.2
  refine CtI.mk (cc := cX7_byteAt) (maxL := 2) (ret := (some .int)) (by decide) rfl (Nat.le_of_ble_eq_true rfl) ?_
  intro p e s m below meth c A ls E hP hD hS hl
  obtain ⟨hx, hb, hr, hml, hown, hts, hlocks, hin, hG, hA⟩ := E
  have hown : s.vm.findClass RX7 = some m.cls := hown
  have in7 : ∀ w ∈ u_ws RX7 TX7 8, w ∈ wsX7_byteAt := fun _ h => List.mem_cons_of_mem _ (List.mem_append_right _ h)
  have hl : lv_has ls 2 [(0, .ref t), (1, .int x1)] := hl
  refine lv_iload_n hx hb dX7_byteAt_0 rfl (lv_at hl 1 rfl) ?_
  refine lv_if_lt (tgt := 25) hx hb dX7_byteAt_1 (by decide) (fun c1 => ?_) (fun c1 => ?_)
  · have fc1 := cx_lt_t (a := x1.toInt) (b := 0) rfl (by decide) c1
    refine lv_iconst (v := (-1)) hx hb dX7_byteAt_25 (by decide) ?_
    exact hc_end hx hb hr hlocks () (iv_lit (by decide) (by decide)) hP hD hS dX7_byteAt_26
  · have fc1 := cx_lt_f (a := x1.toInt) (b := 0) rfl (by decide) c1
    refine lv_iload_n hx hb dX7_byteAt_4 rfl (lv_at hl 1 rfl) ?_
    refine lv_aload_n hx hb dX7_byteAt_5 rfl (lv_at hl 0 rfl) ?_
    refine va_get (D := D) (ci := 5) (v := .int t_length) (C := RX7) (T := TX7) (N := 8) hx hb hts in7 hown hG.1 hP 0 rfl rfl 1 (by decide) (hts (.fieldLink RX7 15 "ChairCane$Tape" "length" "I") (by decide +kernel)) (fun _ h9 => h9) rfl dX7_byteAt_6 ?_
    refine lv_icmp_ge (tgt := 25) hx hb dX7_byteAt_9 (by decide) (fun c2 => ?_) (fun c2 => ?_)
    · have fc2 := cx_ge_t (a := x1.toInt) (b := t_length.toInt) rfl rfl c2
      refine lv_iconst (v := (-1)) hx hb dX7_byteAt_25 (by decide) ?_
      exact hc_end hx hb hr hlocks () (iv_lit (by decide) (by decide)) hP hD hS dX7_byteAt_26
    · have fc2 := cx_ge_f (a := x1.toInt) (b := t_length.toInt) rfl rfl c2
      refine lv_aload_n hx hb dX7_byteAt_12 rfl (lv_at hl 0 rfl) ?_
      refine va_get (D := D) (ci := 5) (v := .ref t_abytes) (C := RX7) (T := TX7) (N := 8) hx hb hts in7 hown hG.1 hP 0 rfl rfl 0 (by decide) (hts (.fieldLink RX7 9 "ChairCane$Tape" "bytes" "[B") (by decide +kernel)) (fun _ h9 => h9) rfl dX7_byteAt_13 ?_
      refine lv_iload_n hx hb dX7_byteAt_16 rfl (lv_at hl 1 rfl) ?_
      refine va_bald hx hb hG.1 hP 1 1 rfl rfl (vp_in_iff.mpr ⟨by omega, by omega⟩) dX7_byteAt_17 ?_
      refine lv_topi (fun z3 ez3 => ?_)
      refine lv_sipush (v := 255) hx hb dX7_byteAt_18 (by decide) ?_
      refine lv_iand hx hb dX7_byteAt_21 ?_
      refine lv_topi (fun z4 ez4 => ?_)
      have bz4 : iv (0) (255) z4 := ai_mask 8 (by decide) (by decide) ez4
      have bz4_l := bz4.1
      have bz4_u := bz4.2
      refine lv_goto (tgt := 26) hx hb dX7_byteAt_22 (by decide) ?_
      exact hc_end hx hb hr hlocks () (⟨by omega, by omega⟩) hP hD hS dX7_byteAt_26
set_option maxHeartbeats 4000000 in
set_option maxRecDepth 100000 in
theorem i_X7_put (l : Launch) (D : va_G) (k : Nat → ClassId) (sz : Nat) (x1 : Int32) (x2 : Int32) (x3 : Int32) (t : Nat) (t_abytes : Nat) (t_length : Int32) (t_akinds : Nat) (t_aplaces : Nat) (t_avalues : Nat) (t_pieces : Int32) (t_at : Int32) (t_fault : Int32) (t_rkinds : Nat → Int32) (t_rplaces : Nat → Int32) (t_rvalues : Nat → Int32) (h_t_length : iv (0) (400) t_length) (h_t_pieces : iv (0) (401) t_pieces) (h_t_at : iv (0) (400) t_at) : CtV l yX7_put wsX7_put (rmK 1 0 0) [.ref t, .int x1, .int x2, .int x3] D k sz ([(t, .inr (5, [.ref t_abytes, .int t_length, .ref t_akinds, .ref t_aplaces, .ref t_avalues, .int t_pieces, .int t_at, .int t_fault])), (t_akinds, hcI k 401 t_rkinds), (t_aplaces, hcI k 401 t_rplaces), (t_avalues, hcI k 401 t_rvalues)]) (fun u : (Int32) × (Nat → Int32) × (Nat → Int32) × (Nat → Int32) => iv (0) (401) (u.1)) (fun u : (Int32) × (Nat → Int32) × (Nat → Int32) × (Nat → Int32) => [(t, .inr (5, [.ref t_abytes, .int t_length, .ref t_akinds, .ref t_aplaces, .ref t_avalues, .int (u.1), .int t_at, .int t_fault])), (t_akinds, hcI k 401 (u.2.1)), (t_aplaces, hcI k 401 (u.2.2.1)), (t_avalues, hcI k 401 (u.2.2.2))]) 0 0 := by
  have h_t_length_l := h_t_length.1
  have h_t_length_u := h_t_length.2
  have h_t_pieces_l := h_t_pieces.1
  have h_t_pieces_u := h_t_pieces.2
  have h_t_at_l := h_t_at.1
  have h_t_at_u := h_t_at.2
  refine CtV.mk (cc := cX7_put) (maxL := 4) (ret := none) (by decide) rfl (Nat.le_of_ble_eq_true rfl) ?_
  intro p e s m below meth c A ls E hP hD hS hl
  obtain ⟨hx, hb, hr, hml, hown, hts, hlocks, hin, hG, hA⟩ := E
  have hown : s.vm.findClass RX7 = some m.cls := hown
  have in7 : ∀ w ∈ u_ws RX7 TX7 8, w ∈ wsX7_put := fun _ h => List.mem_cons_of_mem _ (List.mem_append_right _ h)
  have hl : lv_has ls 4 [(0, .ref t), (1, .int x1), (2, .int x2), (3, .int x3)] := hl
  refine lv_aload_n hx hb dX7_put_0 rfl (lv_at hl 0 rfl) ?_
  refine va_get (D := D) (ci := 5) (v := .int t_pieces) (C := RX7) (T := TX7) (N := 8) hx hb hts in7 hown hG.1 hP 0 rfl rfl 5 (by decide) (hts (.fieldLink RX7 29 "ChairCane$Tape" "pieces" "I") (by decide +kernel)) (fun _ h9 => h9) rfl dX7_put_1 ?_
  refine lv_sipush (v := 400) hx hb dX7_put_4 (by decide) ?_
  refine lv_icmp_gt (tgt := 50) hx hb dX7_put_7 (by decide) (fun c1 => ?_) (fun c1 => ?_)
  · have fc1 := cx_gt_t (a := t_pieces.toInt) (b := 400) rfl (by decide) c1
    exact hc_endV hx hb hr hlocks (t_pieces, t_rkinds, t_rplaces, t_rvalues) ((show iv (0) (401) t_pieces from ⟨by omega, by omega⟩)) hP hD hS dX7_put_50
  · have fc1 := cx_gt_f (a := t_pieces.toInt) (b := 400) rfl (by decide) c1
    refine lv_aload_n hx hb dX7_put_10 rfl (lv_at hl 0 rfl) ?_
    refine va_get (D := D) (ci := 5) (v := .ref t_akinds) (C := RX7) (T := TX7) (N := 8) hx hb hts in7 hown hG.1 hP 0 rfl rfl 2 (by decide) (hts (.fieldLink RX7 19 "ChairCane$Tape" "kinds" "[I") (by decide +kernel)) (fun _ h9 => h9) rfl dX7_put_11 ?_
    refine lv_aload_n hx hb dX7_put_14 rfl (lv_at hl 0 rfl) ?_
    refine va_get (D := D) (ci := 5) (v := .int t_pieces) (C := RX7) (T := TX7) (N := 8) hx hb hts in7 hown hG.1 hP 0 rfl rfl 5 (by decide) (hts (.fieldLink RX7 29 "ChairCane$Tape" "pieces" "I") (by decide +kernel)) (fun _ h9 => h9) rfl dX7_put_15 ?_
    refine lv_iload_n hx hb dX7_put_18 rfl (lv_at hl 1 rfl) ?_
    refine va_iast hx hb hG.1 hP hD hS 1 0 rfl rfl (vp_in_iff.mpr ⟨by omega, by omega⟩) dX7_put_19 (fun H locs hP hD hS => ?_)
    obtain ⟨f2, ef2⟩ : ∃ f, f = upd t_rkinds (Int32.toNatClampNeg t_pieces) (x1) := ⟨_, rfl⟩
    rw [← ef2] at hP hD
    have hP : va_P D vwCl ([(t, .inr (5, [.ref t_abytes, .int t_length, .ref t_akinds, .ref t_aplaces, .ref t_avalues, .int t_pieces, .int t_at, .int t_fault])), (t_akinds, hcI k 401 f2), (t_aplaces, hcI k 401 t_rplaces), (t_avalues, hcI k 401 t_rvalues)]) H := hP
    have hD : va_D A ([(t, .inr (5, [.ref t_abytes, .int t_length, .ref t_akinds, .ref t_aplaces, .ref t_avalues, .int t_pieces, .int t_at, .int t_fault])), (t_akinds, hcI k 401 f2), (t_aplaces, hcI k 401 t_rplaces), (t_avalues, hcI k 401 t_rvalues)]) := hD
    refine lv_aload_n hx hb dX7_put_20 rfl (lv_at hl 0 rfl) ?_
    refine va_get (D := D) (ci := 5) (v := .ref t_aplaces) (C := RX7) (T := TX7) (N := 8) hx hb hts in7 hown hG.1 hP 0 rfl rfl 3 (by decide) (hts (.fieldLink RX7 23 "ChairCane$Tape" "places" "[I") (by decide +kernel)) (fun _ h9 => h9) rfl dX7_put_21 ?_
    refine lv_aload_n hx hb dX7_put_24 rfl (lv_at hl 0 rfl) ?_
    refine va_get (D := D) (ci := 5) (v := .int t_pieces) (C := RX7) (T := TX7) (N := 8) hx hb hts in7 hown hG.1 hP 0 rfl rfl 5 (by decide) (hts (.fieldLink RX7 29 "ChairCane$Tape" "pieces" "I") (by decide +kernel)) (fun _ h9 => h9) rfl dX7_put_25 ?_
    refine lv_iload_n hx hb dX7_put_28 rfl (lv_at hl 2 rfl) ?_
    refine va_iast hx hb hG.1 hP hD hS 2 0 rfl rfl (vp_in_iff.mpr ⟨by omega, by omega⟩) dX7_put_29 (fun H locs hP hD hS => ?_)
    obtain ⟨f3, ef3⟩ : ∃ f, f = upd t_rplaces (Int32.toNatClampNeg t_pieces) (x2) := ⟨_, rfl⟩
    rw [← ef3] at hP hD
    have hP : va_P D vwCl ([(t, .inr (5, [.ref t_abytes, .int t_length, .ref t_akinds, .ref t_aplaces, .ref t_avalues, .int t_pieces, .int t_at, .int t_fault])), (t_akinds, hcI k 401 f2), (t_aplaces, hcI k 401 f3), (t_avalues, hcI k 401 t_rvalues)]) H := hP
    have hD : va_D A ([(t, .inr (5, [.ref t_abytes, .int t_length, .ref t_akinds, .ref t_aplaces, .ref t_avalues, .int t_pieces, .int t_at, .int t_fault])), (t_akinds, hcI k 401 f2), (t_aplaces, hcI k 401 f3), (t_avalues, hcI k 401 t_rvalues)]) := hD
    refine lv_aload_n hx hb dX7_put_30 rfl (lv_at hl 0 rfl) ?_
    refine va_get (D := D) (ci := 5) (v := .ref t_avalues) (C := RX7) (T := TX7) (N := 8) hx hb hts in7 hown hG.1 hP 0 rfl rfl 4 (by decide) (hts (.fieldLink RX7 26 "ChairCane$Tape" "values" "[I") (by decide +kernel)) (fun _ h9 => h9) rfl dX7_put_31 ?_
    refine lv_aload_n hx hb dX7_put_34 rfl (lv_at hl 0 rfl) ?_
    refine va_get (D := D) (ci := 5) (v := .int t_pieces) (C := RX7) (T := TX7) (N := 8) hx hb hts in7 hown hG.1 hP 0 rfl rfl 5 (by decide) (hts (.fieldLink RX7 29 "ChairCane$Tape" "pieces" "I") (by decide +kernel)) (fun _ h9 => h9) rfl dX7_put_35 ?_
    refine lv_iload_n hx hb dX7_put_38 rfl (lv_at hl 3 rfl) ?_
    refine va_iast hx hb hG.1 hP hD hS 3 0 rfl rfl (vp_in_iff.mpr ⟨by omega, by omega⟩) dX7_put_39 (fun H locs hP hD hS => ?_)
    obtain ⟨f4, ef4⟩ : ∃ f, f = upd t_rvalues (Int32.toNatClampNeg t_pieces) (x3) := ⟨_, rfl⟩
    rw [← ef4] at hP hD
    have hP : va_P D vwCl ([(t, .inr (5, [.ref t_abytes, .int t_length, .ref t_akinds, .ref t_aplaces, .ref t_avalues, .int t_pieces, .int t_at, .int t_fault])), (t_akinds, hcI k 401 f2), (t_aplaces, hcI k 401 f3), (t_avalues, hcI k 401 f4)]) H := hP
    have hD : va_D A ([(t, .inr (5, [.ref t_abytes, .int t_length, .ref t_akinds, .ref t_aplaces, .ref t_avalues, .int t_pieces, .int t_at, .int t_fault])), (t_akinds, hcI k 401 f2), (t_aplaces, hcI k 401 f3), (t_avalues, hcI k 401 f4)]) := hD
    refine lv_aload_n hx hb dX7_put_40 rfl (lv_at hl 0 rfl) ?_
    refine lv_dup hx hb dX7_put_41 rfl ?_
    refine va_get (D := D) (ci := 5) (v := .int t_pieces) (C := RX7) (T := TX7) (N := 8) hx hb hts in7 hown hG.1 hP 0 rfl rfl 5 (by decide) (hts (.fieldLink RX7 29 "ChairCane$Tape" "pieces" "I") (by decide +kernel)) (fun _ h9 => h9) rfl dX7_put_42 ?_
    refine lv_iconst (v := 1) hx hb dX7_put_45 (by decide) ?_
    refine lv_iadd hx hb dX7_put_46 ?_
    refine lv_topi (fun z5 ez5 => ?_)
    have tz5 : z5.toInt = t_pieces.toInt + 1 := ai_add rfl (by decide) ez5 (by omega) (by omega)
    refine va_put (D := D) (ci := 5) (v := .int z5) (C := RX7) (T := TX7) (N := 8) hx hb hts in7 tyX7 tyX7_ok nmX7 hown hG.1 hP hD hS 0 rfl rfl 5 (by decide) (hts (.fieldLink RX7 29 "ChairCane$Tape" "pieces" "I") (by decide +kernel)) (fun _ h9 => h9) rfl (tyX7_ok 5 (by decide)) rfl rfl (Nat.le_of_ble_eq_true rfl) dX7_put_47 (fun H locs hP hD hS => ?_)
    have hP : va_P D vwCl ([(t, .inr (5, [.ref t_abytes, .int t_length, .ref t_akinds, .ref t_aplaces, .ref t_avalues, .int z5, .int t_at, .int t_fault])), (t_akinds, hcI k 401 f2), (t_aplaces, hcI k 401 f3), (t_avalues, hcI k 401 f4)]) H := hP
    have hD : va_D A ([(t, .inr (5, [.ref t_abytes, .int t_length, .ref t_akinds, .ref t_aplaces, .ref t_avalues, .int z5, .int t_at, .int t_fault])), (t_akinds, hcI k 401 f2), (t_aplaces, hcI k 401 f3), (t_avalues, hcI k 401 f4)]) := hD
    exact hc_endV hx hb hr hlocks (z5, f2, f3, f4) ((show iv (0) (401) z5 from ⟨by omega, by omega⟩)) hP hD hS dX7_put_50
set_option maxHeartbeats 4000000 in
set_option maxRecDepth 100000 in
theorem i_X7_kind (l : Launch) (D : va_G) (k : Nat → ClassId) (sz : Nat) (t : Nat) (t_abytes : Nat) (t_length : Int32) (t_akinds : Nat) (t_aplaces : Nat) (t_avalues : Nat) (t_pieces : Int32) (t_at : Int32) (t_fault : Int32) (t_rkinds : Nat → Int32) (h_t_length : iv (0) (400) t_length) (h_t_pieces : iv (0) (401) t_pieces) (h_t_at : iv (0) (400) t_at) : CtI l yX7_kind wsX7_kind (rmK 1 0 0) [.ref t] D k sz ([(t, .inr (5, [.ref t_abytes, .int t_length, .ref t_akinds, .ref t_aplaces, .ref t_avalues, .int t_pieces, .int t_at, .int t_fault])), (t_akinds, hcI k 401 t_rkinds)]) (fun (r : Int32) (u : Unit) => True) (fun u : Unit => [(t, .inr (5, [.ref t_abytes, .int t_length, .ref t_akinds, .ref t_aplaces, .ref t_avalues, .int t_pieces, .int t_at, .int t_fault])), (t_akinds, hcI k 401 t_rkinds)]) 0 0 := by
  have h_t_length_l := h_t_length.1
  have h_t_length_u := h_t_length.2
  have h_t_pieces_l := h_t_pieces.1
  have h_t_pieces_u := h_t_pieces.2
  have h_t_at_l := h_t_at.1
  have h_t_at_u := h_t_at.2
  refine CtI.mk (cc := cX7_kind) (maxL := 1) (ret := (some .int)) (by decide) rfl (Nat.le_of_ble_eq_true rfl) ?_
  intro p e s m below meth c A ls E hP hD hS hl
  obtain ⟨hx, hb, hr, hml, hown, hts, hlocks, hin, hG, hA⟩ := E
  have hown : s.vm.findClass RX7 = some m.cls := hown
  have in7 : ∀ w ∈ u_ws RX7 TX7 8, w ∈ wsX7_kind := fun _ h => List.mem_cons_of_mem _ (List.mem_append_right _ h)
  have hl : lv_has ls 1 [(0, .ref t)] := hl
  refine lv_aload_n hx hb dX7_kind_0 rfl (lv_at hl 0 rfl) ?_
  refine va_get (D := D) (ci := 5) (v := .int t_at) (C := RX7) (T := TX7) (N := 8) hx hb hts in7 hown hG.1 hP 0 rfl rfl 6 (by decide) (hts (.fieldLink RX7 32 "ChairCane$Tape" "at" "I") (by decide +kernel)) (fun _ h9 => h9) rfl dX7_kind_1 ?_
  refine lv_aload_n hx hb dX7_kind_4 rfl (lv_at hl 0 rfl) ?_
  refine va_get (D := D) (ci := 5) (v := .int t_pieces) (C := RX7) (T := TX7) (N := 8) hx hb hts in7 hown hG.1 hP 0 rfl rfl 5 (by decide) (hts (.fieldLink RX7 29 "ChairCane$Tape" "pieces" "I") (by decide +kernel)) (fun _ h9 => h9) rfl dX7_kind_5 ?_
  refine lv_icmp_ge (tgt := 23) hx hb dX7_kind_8 (by decide) (fun c1 => ?_) (fun c1 => ?_)
  · have fc1 := cx_ge_t (a := t_at.toInt) (b := t_pieces.toInt) rfl rfl c1
    refine lv_iconst (v := (-1)) hx hb dX7_kind_23 (by decide) ?_
    exact hc_end hx hb hr hlocks () trivial hP hD hS dX7_kind_24
  · have fc1 := cx_ge_f (a := t_at.toInt) (b := t_pieces.toInt) rfl rfl c1
    refine lv_aload_n hx hb dX7_kind_11 rfl (lv_at hl 0 rfl) ?_
    refine va_get (D := D) (ci := 5) (v := .ref t_akinds) (C := RX7) (T := TX7) (N := 8) hx hb hts in7 hown hG.1 hP 0 rfl rfl 2 (by decide) (hts (.fieldLink RX7 19 "ChairCane$Tape" "kinds" "[I") (by decide +kernel)) (fun _ h9 => h9) rfl dX7_kind_12 ?_
    refine lv_aload_n hx hb dX7_kind_15 rfl (lv_at hl 0 rfl) ?_
    refine va_get (D := D) (ci := 5) (v := .int t_at) (C := RX7) (T := TX7) (N := 8) hx hb hts in7 hown hG.1 hP 0 rfl rfl 6 (by decide) (hts (.fieldLink RX7 32 "ChairCane$Tape" "at" "I") (by decide +kernel)) (fun _ h9 => h9) rfl dX7_kind_16 ?_
    refine va_iald hx hb hG.1 hP 1 0 rfl rfl (vp_in_iff.mpr ⟨by omega, by omega⟩) dX7_kind_19 ?_
    refine lv_topi (fun z2 ez2 => ?_)
    refine lv_goto (tgt := 24) hx hb dX7_kind_20 (by decide) ?_
    exact hc_end hx hb hr hlocks () trivial hP hD hS dX7_kind_24
set_option maxHeartbeats 4000000 in
set_option maxRecDepth 100000 in
theorem i_X7_value (l : Launch) (D : va_G) (k : Nat → ClassId) (sz : Nat) (t : Nat) (t_abytes : Nat) (t_length : Int32) (t_akinds : Nat) (t_aplaces : Nat) (t_avalues : Nat) (t_pieces : Int32) (t_at : Int32) (t_fault : Int32) (t_rvalues : Nat → Int32) (h_t_length : iv (0) (400) t_length) (h_t_pieces : iv (0) (401) t_pieces) (h_t_at : iv (0) (400) t_at) : CtI l yX7_value wsX7_value (rmK 1 0 0) [.ref t] D k sz ([(t, .inr (5, [.ref t_abytes, .int t_length, .ref t_akinds, .ref t_aplaces, .ref t_avalues, .int t_pieces, .int t_at, .int t_fault])), (t_avalues, hcI k 401 t_rvalues)]) (fun (r : Int32) (u : Unit) => True) (fun u : Unit => [(t, .inr (5, [.ref t_abytes, .int t_length, .ref t_akinds, .ref t_aplaces, .ref t_avalues, .int t_pieces, .int t_at, .int t_fault])), (t_avalues, hcI k 401 t_rvalues)]) 0 0 := by
  have h_t_length_l := h_t_length.1
  have h_t_length_u := h_t_length.2
  have h_t_pieces_l := h_t_pieces.1
  have h_t_pieces_u := h_t_pieces.2
  have h_t_at_l := h_t_at.1
  have h_t_at_u := h_t_at.2
  refine CtI.mk (cc := cX7_value) (maxL := 1) (ret := (some .int)) (by decide) rfl (Nat.le_of_ble_eq_true rfl) ?_
  intro p e s m below meth c A ls E hP hD hS hl
  obtain ⟨hx, hb, hr, hml, hown, hts, hlocks, hin, hG, hA⟩ := E
  have hown : s.vm.findClass RX7 = some m.cls := hown
  have in7 : ∀ w ∈ u_ws RX7 TX7 8, w ∈ wsX7_value := fun _ h => List.mem_cons_of_mem _ (List.mem_append_right _ h)
  have hl : lv_has ls 1 [(0, .ref t)] := hl
  refine lv_aload_n hx hb dX7_value_0 rfl (lv_at hl 0 rfl) ?_
  refine va_get (D := D) (ci := 5) (v := .int t_at) (C := RX7) (T := TX7) (N := 8) hx hb hts in7 hown hG.1 hP 0 rfl rfl 6 (by decide) (hts (.fieldLink RX7 32 "ChairCane$Tape" "at" "I") (by decide +kernel)) (fun _ h9 => h9) rfl dX7_value_1 ?_
  refine lv_aload_n hx hb dX7_value_4 rfl (lv_at hl 0 rfl) ?_
  refine va_get (D := D) (ci := 5) (v := .int t_pieces) (C := RX7) (T := TX7) (N := 8) hx hb hts in7 hown hG.1 hP 0 rfl rfl 5 (by decide) (hts (.fieldLink RX7 29 "ChairCane$Tape" "pieces" "I") (by decide +kernel)) (fun _ h9 => h9) rfl dX7_value_5 ?_
  refine lv_icmp_ge (tgt := 23) hx hb dX7_value_8 (by decide) (fun c1 => ?_) (fun c1 => ?_)
  · have fc1 := cx_ge_t (a := t_at.toInt) (b := t_pieces.toInt) rfl rfl c1
    refine lv_iconst (v := (-1)) hx hb dX7_value_23 (by decide) ?_
    exact hc_end hx hb hr hlocks () trivial hP hD hS dX7_value_24
  · have fc1 := cx_ge_f (a := t_at.toInt) (b := t_pieces.toInt) rfl rfl c1
    refine lv_aload_n hx hb dX7_value_11 rfl (lv_at hl 0 rfl) ?_
    refine va_get (D := D) (ci := 5) (v := .ref t_avalues) (C := RX7) (T := TX7) (N := 8) hx hb hts in7 hown hG.1 hP 0 rfl rfl 4 (by decide) (hts (.fieldLink RX7 26 "ChairCane$Tape" "values" "[I") (by decide +kernel)) (fun _ h9 => h9) rfl dX7_value_12 ?_
    refine lv_aload_n hx hb dX7_value_15 rfl (lv_at hl 0 rfl) ?_
    refine va_get (D := D) (ci := 5) (v := .int t_at) (C := RX7) (T := TX7) (N := 8) hx hb hts in7 hown hG.1 hP 0 rfl rfl 6 (by decide) (hts (.fieldLink RX7 32 "ChairCane$Tape" "at" "I") (by decide +kernel)) (fun _ h9 => h9) rfl dX7_value_16 ?_
    refine va_iald hx hb hG.1 hP 1 0 rfl rfl (vp_in_iff.mpr ⟨by omega, by omega⟩) dX7_value_19 ?_
    refine lv_topi (fun z2 ez2 => ?_)
    refine lv_goto (tgt := 24) hx hb dX7_value_20 (by decide) ?_
    exact hc_end hx hb hr hlocks () trivial hP hD hS dX7_value_24
set_option maxHeartbeats 4000000 in
set_option maxRecDepth 100000 in
theorem i_X7_skip (l : Launch) (D : va_G) (k : Nat → ClassId) (sz : Nat) (t : Nat) (t_abytes : Nat) (t_length : Int32) (t_akinds : Nat) (t_aplaces : Nat) (t_avalues : Nat) (t_pieces : Int32) (t_at : Int32) (t_fault : Int32) (h_t_length : iv (0) (400) t_length) (h_t_pieces : iv (0) (401) t_pieces) (h_t_at : iv (0) (400) t_at) : CtV l yX7_skip wsX7_skip (rmK 1 0 0) [.ref t] D k sz ([(t, .inr (5, [.ref t_abytes, .int t_length, .ref t_akinds, .ref t_aplaces, .ref t_avalues, .int t_pieces, .int t_at, .int t_fault]))]) (fun u : (Int32) => iv (0) (400) (u)) (fun u : (Int32) => [(t, .inr (5, [.ref t_abytes, .int t_length, .ref t_akinds, .ref t_aplaces, .ref t_avalues, .int t_pieces, .int (u), .int t_fault]))]) 0 0 := by
  have h_t_length_l := h_t_length.1
  have h_t_length_u := h_t_length.2
  have h_t_pieces_l := h_t_pieces.1
  have h_t_pieces_u := h_t_pieces.2
  have h_t_at_l := h_t_at.1
  have h_t_at_u := h_t_at.2
  refine CtV.mk (cc := cX7_skip) (maxL := 1) (ret := none) (by decide) rfl (Nat.le_of_ble_eq_true rfl) ?_
  intro p e s m below meth c A ls E hP hD hS hl
  obtain ⟨hx, hb, hr, hml, hown, hts, hlocks, hin, hG, hA⟩ := E
  have hown : s.vm.findClass RX7 = some m.cls := hown
  have in7 : ∀ w ∈ u_ws RX7 TX7 8, w ∈ wsX7_skip := fun _ h => List.mem_cons_of_mem _ (List.mem_append_right _ h)
  have hl : lv_has ls 1 [(0, .ref t)] := hl
  refine lv_aload_n hx hb dX7_skip_0 rfl (lv_at hl 0 rfl) ?_
  refine va_get (D := D) (ci := 5) (v := .int t_at) (C := RX7) (T := TX7) (N := 8) hx hb hts in7 hown hG.1 hP 0 rfl rfl 6 (by decide) (hts (.fieldLink RX7 32 "ChairCane$Tape" "at" "I") (by decide +kernel)) (fun _ h9 => h9) rfl dX7_skip_1 ?_
  refine lv_iconst (v := 1) hx hb dX7_skip_4 (by decide) ?_
  refine lv_iadd hx hb dX7_skip_5 ?_
  refine lv_topi (fun z1 ez1 => ?_)
  have tz1 : z1.toInt = t_at.toInt + 1 := ai_add rfl (by decide) ez1 (by omega) (by omega)
  refine lv_aload_n hx hb dX7_skip_6 rfl (lv_at hl 0 rfl) ?_
  refine va_get (D := D) (ci := 5) (v := .int t_pieces) (C := RX7) (T := TX7) (N := 8) hx hb hts in7 hown hG.1 hP 0 rfl rfl 5 (by decide) (hts (.fieldLink RX7 29 "ChairCane$Tape" "pieces" "I") (by decide +kernel)) (fun _ h9 => h9) rfl dX7_skip_7 ?_
  refine lv_icmp_ge (tgt := 23) hx hb dX7_skip_10 (by decide) (fun c2 => ?_) (fun c2 => ?_)
  · have fc2 := cx_ge_t (a := z1.toInt) (b := t_pieces.toInt) rfl rfl c2
    exact hc_endV hx hb hr hlocks (t_at) ((show iv (0) (400) t_at from ⟨by omega, by omega⟩)) hP hD hS dX7_skip_23
  · have fc2 := cx_ge_f (a := z1.toInt) (b := t_pieces.toInt) rfl rfl c2
    refine lv_aload_n hx hb dX7_skip_13 rfl (lv_at hl 0 rfl) ?_
    refine lv_dup hx hb dX7_skip_14 rfl ?_
    refine va_get (D := D) (ci := 5) (v := .int t_at) (C := RX7) (T := TX7) (N := 8) hx hb hts in7 hown hG.1 hP 0 rfl rfl 6 (by decide) (hts (.fieldLink RX7 32 "ChairCane$Tape" "at" "I") (by decide +kernel)) (fun _ h9 => h9) rfl dX7_skip_15 ?_
    refine lv_iconst (v := 1) hx hb dX7_skip_18 (by decide) ?_
    refine lv_iadd hx hb dX7_skip_19 ?_
    refine lv_topi (fun z3 ez3 => ?_)
    have tz3 : z3.toInt = t_at.toInt + 1 := ai_add rfl (by decide) ez3 (by omega) (by omega)
    refine va_put (D := D) (ci := 5) (v := .int z3) (C := RX7) (T := TX7) (N := 8) hx hb hts in7 tyX7 tyX7_ok nmX7 hown hG.1 hP hD hS 0 rfl rfl 6 (by decide) (hts (.fieldLink RX7 32 "ChairCane$Tape" "at" "I") (by decide +kernel)) (fun _ h9 => h9) rfl (tyX7_ok 6 (by decide)) rfl rfl (Nat.le_of_ble_eq_true rfl) dX7_skip_20 (fun H locs hP hD hS => ?_)
    have hP : va_P D vwCl ([(t, .inr (5, [.ref t_abytes, .int t_length, .ref t_akinds, .ref t_aplaces, .ref t_avalues, .int t_pieces, .int z3, .int t_fault]))]) H := hP
    have hD : va_D A ([(t, .inr (5, [.ref t_abytes, .int t_length, .ref t_akinds, .ref t_aplaces, .ref t_avalues, .int t_pieces, .int z3, .int t_fault]))]) := hD
    exact hc_endV hx hb hr hlocks (z3) ((show iv (0) (400) z3 from ⟨by omega, by omega⟩)) hP hD hS dX7_skip_23
set_option maxHeartbeats 4000000 in
set_option maxRecDepth 100000 in
theorem i_X7_fail (l : Launch) (D : va_G) (k : Nat → ClassId) (sz : Nat) (x1 : Int32) (t : Nat) (t_abytes : Nat) (t_length : Int32) (t_akinds : Nat) (t_aplaces : Nat) (t_avalues : Nat) (t_pieces : Int32) (t_at : Int32) (t_fault : Int32) (t_rplaces : Nat → Int32) (h_t_length : iv (0) (400) t_length) (h_t_pieces : iv (0) (401) t_pieces) (h_t_at : iv (0) (400) t_at) : CtI l yX7_fail wsX7_fail (rmK 1 0 0) [.ref t, .int x1] D k sz ([(t, .inr (5, [.ref t_abytes, .int t_length, .ref t_akinds, .ref t_aplaces, .ref t_avalues, .int t_pieces, .int t_at, .int t_fault])), (t_aplaces, hcI k 401 t_rplaces)]) (fun (r : Int32) (u : (Int32)) => iv (0) (0) r) (fun u : (Int32) => [(t, .inr (5, [.ref t_abytes, .int t_length, .ref t_akinds, .ref t_aplaces, .ref t_avalues, .int t_pieces, .int t_at, .int (u)])), (t_aplaces, hcI k 401 t_rplaces)]) 0 0 := by
  have h_t_length_l := h_t_length.1
  have h_t_length_u := h_t_length.2
  have h_t_pieces_l := h_t_pieces.1
  have h_t_pieces_u := h_t_pieces.2
  have h_t_at_l := h_t_at.1
  have h_t_at_u := h_t_at.2
  refine CtI.mk (cc := cX7_fail) (maxL := 2) (ret := (some .boolean)) (by decide) rfl (Nat.le_of_ble_eq_true rfl) ?_
  intro p e s m below meth c A ls E hP hD hS hl
  obtain ⟨hx, hb, hr, hml, hown, hts, hlocks, hin, hG, hA⟩ := E
  have hown : s.vm.findClass RX7 = some m.cls := hown
  have in7 : ∀ w ∈ u_ws RX7 TX7 8, w ∈ wsX7_fail := fun _ h => List.mem_cons_of_mem _ (List.mem_append_right _ h)
  have hl : lv_has ls 2 [(0, .ref t), (1, .int x1)] := hl
  refine lv_aload_n hx hb dX7_fail_0 rfl (lv_at hl 0 rfl) ?_
  refine lv_iconst (v := 1) hx hb dX7_fail_1 (by decide) ?_
  refine lv_bipush (v := 8) hx hb dX7_fail_2 (by decide) ?_
  refine lv_aload_n hx hb dX7_fail_4 rfl (lv_at hl 0 rfl) ?_
  refine va_get (D := D) (ci := 5) (v := .int t_at) (C := RX7) (T := TX7) (N := 8) hx hb hts in7 hown hG.1 hP 0 rfl rfl 6 (by decide) (hts (.fieldLink RX7 32 "ChairCane$Tape" "at" "I") (by decide +kernel)) (fun _ h9 => h9) rfl dX7_fail_5 ?_
  refine lv_aload_n hx hb dX7_fail_8 rfl (lv_at hl 0 rfl) ?_
  refine va_get (D := D) (ci := 5) (v := .int t_pieces) (C := RX7) (T := TX7) (N := 8) hx hb hts in7 hown hG.1 hP 0 rfl rfl 5 (by decide) (hts (.fieldLink RX7 29 "ChairCane$Tape" "pieces" "I") (by decide +kernel)) (fun _ h9 => h9) rfl dX7_fail_9 ?_
  refine lv_icmp_ge (tgt := 27) hx hb dX7_fail_12 (by decide) (fun c1 => ?_) (fun c1 => ?_)
  · have fc1 := cx_ge_t (a := t_at.toInt) (b := t_pieces.toInt) rfl rfl c1
    refine lv_aload_n hx hb dX7_fail_27 rfl (lv_at hl 0 rfl) ?_
    refine va_get (D := D) (ci := 5) (v := .int t_length) (C := RX7) (T := TX7) (N := 8) hx hb hts in7 hown hG.1 hP 0 rfl rfl 1 (by decide) (hts (.fieldLink RX7 15 "ChairCane$Tape" "length" "I") (by decide +kernel)) (fun _ h9 => h9) rfl dX7_fail_28 ?_
    refine lv_imul hx hb dX7_fail_31 ?_
    refine lv_topi (fun z2 ez2 => ?_)
    have tz2 : z2.toInt = 8 * t_length.toInt := ai_mul (by decide) rfl ez2 (by omega) (by omega)
    refine lv_iadd hx hb dX7_fail_32 ?_
    refine lv_topi (fun z3 ez3 => ?_)
    have tz3 : z3.toInt = 1 + z2.toInt := ai_add (by decide) rfl ez3 (by omega) (by omega)
    refine lv_iload_n hx hb dX7_fail_33 rfl (lv_at hl 1 rfl) ?_
    refine lv_iadd hx hb dX7_fail_34 ?_
    refine lv_topi (fun z4 ez4 => ?_)
    refine va_put (D := D) (ci := 5) (v := .int z4) (C := RX7) (T := TX7) (N := 8) hx hb hts in7 tyX7 tyX7_ok nmX7 hown hG.1 hP hD hS 0 rfl rfl 7 (by decide) (hts (.fieldLink RX7 35 "ChairCane$Tape" "fault" "I") (by decide +kernel)) (fun _ h9 => h9) rfl (tyX7_ok 7 (by decide)) rfl rfl (Nat.le_of_ble_eq_true rfl) dX7_fail_35 (fun H locs hP hD hS => ?_)
    have hP : va_P D vwCl ([(t, .inr (5, [.ref t_abytes, .int t_length, .ref t_akinds, .ref t_aplaces, .ref t_avalues, .int t_pieces, .int t_at, .int z4])), (t_aplaces, hcI k 401 t_rplaces)]) H := hP
    have hD : va_D A ([(t, .inr (5, [.ref t_abytes, .int t_length, .ref t_akinds, .ref t_aplaces, .ref t_avalues, .int t_pieces, .int t_at, .int z4])), (t_aplaces, hcI k 401 t_rplaces)]) := hD
    refine lv_iconst (v := 0) hx hb dX7_fail_38 (by decide) ?_
    exact hc_endZ hx hb hr hlocks rfl (z4) (iv_lit (by decide) (by decide)) hP hD hS dX7_fail_39
  · have fc1 := cx_ge_f (a := t_at.toInt) (b := t_pieces.toInt) rfl rfl c1
    refine lv_aload_n hx hb dX7_fail_15 rfl (lv_at hl 0 rfl) ?_
    refine va_get (D := D) (ci := 5) (v := .ref t_aplaces) (C := RX7) (T := TX7) (N := 8) hx hb hts in7 hown hG.1 hP 0 rfl rfl 3 (by decide) (hts (.fieldLink RX7 23 "ChairCane$Tape" "places" "[I") (by decide +kernel)) (fun _ h9 => h9) rfl dX7_fail_16 ?_
    refine lv_aload_n hx hb dX7_fail_19 rfl (lv_at hl 0 rfl) ?_
    refine va_get (D := D) (ci := 5) (v := .int t_at) (C := RX7) (T := TX7) (N := 8) hx hb hts in7 hown hG.1 hP 0 rfl rfl 6 (by decide) (hts (.fieldLink RX7 32 "ChairCane$Tape" "at" "I") (by decide +kernel)) (fun _ h9 => h9) rfl dX7_fail_20 ?_
    refine va_iald hx hb hG.1 hP 1 0 rfl rfl (vp_in_iff.mpr ⟨by omega, by omega⟩) dX7_fail_23 ?_
    refine lv_topi (fun z5 ez5 => ?_)
    refine lv_goto (tgt := 31) hx hb dX7_fail_24 (by decide) ?_
    refine lv_imul hx hb dX7_fail_31 ?_
    refine lv_topi (fun z6 ez6 => ?_)
    refine lv_iadd hx hb dX7_fail_32 ?_
    refine lv_topi (fun z7 ez7 => ?_)
    refine lv_iload_n hx hb dX7_fail_33 rfl (lv_at hl 1 rfl) ?_
    refine lv_iadd hx hb dX7_fail_34 ?_
    refine lv_topi (fun z8 ez8 => ?_)
    refine va_put (D := D) (ci := 5) (v := .int z8) (C := RX7) (T := TX7) (N := 8) hx hb hts in7 tyX7 tyX7_ok nmX7 hown hG.1 hP hD hS 0 rfl rfl 7 (by decide) (hts (.fieldLink RX7 35 "ChairCane$Tape" "fault" "I") (by decide +kernel)) (fun _ h9 => h9) rfl (tyX7_ok 7 (by decide)) rfl rfl (Nat.le_of_ble_eq_true rfl) dX7_fail_35 (fun H locs hP hD hS => ?_)
    have hP : va_P D vwCl ([(t, .inr (5, [.ref t_abytes, .int t_length, .ref t_akinds, .ref t_aplaces, .ref t_avalues, .int t_pieces, .int t_at, .int z8])), (t_aplaces, hcI k 401 t_rplaces)]) H := hP
    have hD : va_D A ([(t, .inr (5, [.ref t_abytes, .int t_length, .ref t_akinds, .ref t_aplaces, .ref t_avalues, .int t_pieces, .int t_at, .int z8])), (t_aplaces, hcI k 401 t_rplaces)]) := hD
    refine lv_iconst (v := 0) hx hb dX7_fail_38 (by decide) ?_
    exact hc_endZ hx hb hr hlocks rfl (z8) (iv_lit (by decide) (by decide)) hP hD hS dX7_fail_39
set_option maxHeartbeats 4000000 in
set_option maxRecDepth 100000 in
theorem i_X7_take (l : Launch) (D : va_G) (k : Nat → ClassId) (sz : Nat) (x1 : Int32) (t : Nat) (t_abytes : Nat) (t_length : Int32) (t_akinds : Nat) (t_aplaces : Nat) (t_avalues : Nat) (t_pieces : Int32) (t_at : Int32) (t_fault : Int32) (t_rkinds : Nat → Int32) (h_t_length : iv (0) (400) t_length) (h_t_pieces : iv (0) (401) t_pieces) (h_t_at : iv (0) (400) t_at) : CtI l yX7_take wsX7_take (rmK 2 0 0) [.ref t, .int x1] D k sz ([(t, .inr (5, [.ref t_abytes, .int t_length, .ref t_akinds, .ref t_aplaces, .ref t_avalues, .int t_pieces, .int t_at, .int t_fault])), (t_akinds, hcI k 401 t_rkinds)]) (fun (r : Int32) (u : (Int32)) => iv (0) (1) r ∧ iv (0) (400) (u)) (fun u : (Int32) => [(t, .inr (5, [.ref t_abytes, .int t_length, .ref t_akinds, .ref t_aplaces, .ref t_avalues, .int t_pieces, .int (u), .int t_fault])), (t_akinds, hcI k 401 t_rkinds)]) 0 0 := by
  have h_t_length_l := h_t_length.1
  have h_t_length_u := h_t_length.2
  have h_t_pieces_l := h_t_pieces.1
  have h_t_pieces_u := h_t_pieces.2
  have h_t_at_l := h_t_at.1
  have h_t_at_u := h_t_at.2
  refine CtI.mk (cc := cX7_take) (maxL := 2) (ret := (some .boolean)) (by decide) rfl (Nat.le_of_ble_eq_true rfl) ?_
  intro p e s m below meth c A ls E hP hD hS hl
  obtain ⟨hx, hb, hr, hml, hown, hts, hlocks, hin, hG, hA⟩ := E
  have hown : s.vm.findClass RX7 = some m.cls := hown
  have in7 : ∀ w ∈ u_ws RX7 TX7 8, w ∈ wsX7_take := fun _ h => List.mem_cons_of_mem _ (List.mem_append_right _ h)
  have hl : lv_has ls 2 [(0, .ref t), (1, .int x1)] := hl
  refine lv_aload_n hx hb dX7_take_0 rfl (lv_at hl 0 rfl) ?_
  refine hc_Vi (As := []) (rest := []) (n := 0) (wr := []) hx hb hml hown hts hG hA hP hD hS hl.1 [0, 1] [] (i_X7_kind l D k _ t t_abytes t_length t_akinds t_aplaces t_avalues t_pieces t_at t_fault t_rkinds ⟨by omega, by omega⟩ ⟨by omega, by omega⟩ ⟨by omega, by omega⟩) (ci := 5) (q0 := 0) rfl rfl gX7_take_X7_kind rfl ⟨rfl, rfl, Nat.le_of_ble_eq_true rfl, Nat.le_of_ble_eq_true rfl⟩ (by decide +kernel) rfl rfl ⟨by decide, by decide, by decide⟩ ⟨rfl, rfl, Nat.le_of_ble_eq_true rfl, Nat.le_of_ble_eq_true rfl, Nat.le_of_ble_eq_true rfl⟩ dX7_take_1 (fun r2 u1 H locs hw hP hD hS => ?_)
  have hP : va_P D vwCl ([(t, .inr (5, [.ref t_abytes, .int t_length, .ref t_akinds, .ref t_aplaces, .ref t_avalues, .int t_pieces, .int t_at, .int t_fault])), (t_akinds, hcI k 401 t_rkinds)]) H := hP
  have hD : va_D A ([(t, .inr (5, [.ref t_abytes, .int t_length, .ref t_akinds, .ref t_aplaces, .ref t_avalues, .int t_pieces, .int t_at, .int t_fault])), (t_akinds, hcI k 401 t_rkinds)]) := hD
  refine lv_iload_n hx hb dX7_take_4 rfl (lv_at hl 1 rfl) ?_
  refine lv_icmp_eq (tgt := 10) hx hb dX7_take_5 (by decide) (fun c3 => ?_) (fun c3 => ?_)
  · have fc3 := cx_eq_t (a := r2.toInt) (b := x1.toInt) rfl rfl c3
    refine lv_aload_n hx hb dX7_take_10 rfl (lv_at hl 0 rfl) ?_
    refine hc_Vv (As := []) (rest := []) (n := 0) (wr := [(t_akinds, hcI k 401 t_rkinds)]) hx hb hml hown hts hG hA hP hD hS hl.1 [0] [1] (i_X7_skip l D k _ t t_abytes t_length t_akinds t_aplaces t_avalues t_pieces t_at t_fault ⟨by omega, by omega⟩ ⟨by omega, by omega⟩ ⟨by omega, by omega⟩) (ci := 5) (q0 := 0) rfl rfl gX7_take_X7_skip rfl ⟨rfl, rfl, Nat.le_of_ble_eq_true rfl, Nat.le_of_ble_eq_true rfl⟩ (by decide +kernel) rfl rfl ⟨by decide, by decide, by decide⟩ ⟨rfl, rfl, Nat.le_of_ble_eq_true rfl, Nat.le_of_ble_eq_true rfl, Nat.le_of_ble_eq_true rfl⟩ dX7_take_11 (fun u4 H locs hw hP hD hS => ?_)
    obtain ⟨w6, rfl⟩ : ∃ z, z = u4 := ⟨_, rfl⟩
    have hP : va_P D vwCl ([(t_akinds, hcI k 401 t_rkinds), (t, .inr (5, [.ref t_abytes, .int t_length, .ref t_akinds, .ref t_aplaces, .ref t_avalues, .int t_pieces, .int w6, .int t_fault]))]) H := hP
    have hD : va_D A ([(t_akinds, hcI k 401 t_rkinds), (t, .inr (5, [.ref t_abytes, .int t_length, .ref t_akinds, .ref t_aplaces, .ref t_avalues, .int t_pieces, .int w6, .int t_fault]))]) := hD
    have bw6 := hw
    have bw6 : iv (0) (400) w6 := bw6
    have bw6_l := bw6.1
    have bw6_u := bw6.2
    refine lv_iconst (v := 1) hx hb dX7_take_14 (by decide) ?_
    exact hc_endZ hx hb hr hlocks rfl (w6) ⟨iv_lit (by decide) (by decide), (show iv (0) (400) w6 from ⟨by omega, by omega⟩)⟩ (hP.sub [1, 0] rfl) (hD.sub [1, 0] (by decide) rfl) hS dX7_take_15
  · have fc3 := cx_eq_f (a := r2.toInt) (b := x1.toInt) rfl rfl c3
    refine lv_iconst (v := 0) hx hb dX7_take_8 (by decide) ?_
    exact hc_endZ hx hb hr hlocks rfl (t_at) ⟨iv_lit (by decide) (by decide), (show iv (0) (400) t_at from ⟨by omega, by omega⟩)⟩ hP hD hS dX7_take_9
set_option maxHeartbeats 4000000 in
set_option maxRecDepth 100000 in
theorem i_X7_takeNumber (l : Launch) (D : va_G) (k : Nat → ClassId) (sz : Nat) (x1 : Int32) (x2 : Int32) (t : Nat) (t_abytes : Nat) (t_length : Int32) (t_akinds : Nat) (t_aplaces : Nat) (t_avalues : Nat) (t_pieces : Int32) (t_at : Int32) (t_fault : Int32) (t_rkinds : Nat → Int32) (t_rplaces : Nat → Int32) (t_rvalues : Nat → Int32) (h_t_length : iv (0) (400) t_length) (h_t_pieces : iv (0) (401) t_pieces) (h_t_at : iv (0) (400) t_at) : CtI l yX7_takeNumber wsX7_takeNumber (rmK 2 0 0) [.ref t, .int x1, .int x2] D k sz ([(t, .inr (5, [.ref t_abytes, .int t_length, .ref t_akinds, .ref t_aplaces, .ref t_avalues, .int t_pieces, .int t_at, .int t_fault])), (t_akinds, hcI k 401 t_rkinds), (t_aplaces, hcI k 401 t_rplaces), (t_avalues, hcI k 401 t_rvalues)]) (fun (r : Int32) (u : (Int32) × (Int32)) => iv (0) (400) (u.2) ∧ (r.toInt = -1 ∨ x1.toInt ≤ r.toInt ∧ r.toInt ≤ x2.toInt)) (fun u : (Int32) × (Int32) => [(t, .inr (5, [.ref t_abytes, .int t_length, .ref t_akinds, .ref t_aplaces, .ref t_avalues, .int t_pieces, .int (u.2), .int (u.1)])), (t_akinds, hcI k 401 t_rkinds), (t_aplaces, hcI k 401 t_rplaces), (t_avalues, hcI k 401 t_rvalues)]) 0 0 := by
  have h_t_length_l := h_t_length.1
  have h_t_length_u := h_t_length.2
  have h_t_pieces_l := h_t_pieces.1
  have h_t_pieces_u := h_t_pieces.2
  have h_t_at_l := h_t_at.1
  have h_t_at_u := h_t_at.2
  refine CtI.mk (cc := cX7_takeNumber) (maxL := 4) (ret := (some .int)) (by decide) rfl (Nat.le_of_ble_eq_true rfl) ?_
  intro p e s m below meth c A ls E hP hD hS hl
  obtain ⟨hx, hb, hr, hml, hown, hts, hlocks, hin, hG, hA⟩ := E
  have hown : s.vm.findClass RX7 = some m.cls := hown
  have in7 : ∀ w ∈ u_ws RX7 TX7 8, w ∈ wsX7_takeNumber := fun _ h => List.mem_cons_of_mem _ (List.mem_append_right _ h)
  have hl : lv_has ls 4 [(0, .ref t), (1, .int x1), (2, .int x2)] := hl
  refine lv_aload_n hx hb dX7_takeNumber_0 rfl (lv_at hl 0 rfl) ?_
  refine hc_Vi (As := []) (rest := []) (n := 0) (wr := [(t_aplaces, hcI k 401 t_rplaces), (t_avalues, hcI k 401 t_rvalues)]) hx hb hml hown hts hG hA hP hD hS hl.1 [0, 1] [2, 3] (i_X7_kind l D k _ t t_abytes t_length t_akinds t_aplaces t_avalues t_pieces t_at t_fault t_rkinds ⟨by omega, by omega⟩ ⟨by omega, by omega⟩ ⟨by omega, by omega⟩) (ci := 5) (q0 := 0) rfl rfl gX7_takeNumber_X7_kind rfl ⟨rfl, rfl, Nat.le_of_ble_eq_true rfl, Nat.le_of_ble_eq_true rfl⟩ (by decide +kernel) rfl rfl ⟨by decide, by decide, by decide⟩ ⟨rfl, rfl, Nat.le_of_ble_eq_true rfl, Nat.le_of_ble_eq_true rfl, Nat.le_of_ble_eq_true rfl⟩ dX7_takeNumber_1 (fun r2 u1 H locs hw hP hD hS => ?_)
  have hP : va_P D vwCl ([(t_aplaces, hcI k 401 t_rplaces), (t_avalues, hcI k 401 t_rvalues), (t, .inr (5, [.ref t_abytes, .int t_length, .ref t_akinds, .ref t_aplaces, .ref t_avalues, .int t_pieces, .int t_at, .int t_fault])), (t_akinds, hcI k 401 t_rkinds)]) H := hP
  have hD : va_D A ([(t_aplaces, hcI k 401 t_rplaces), (t_avalues, hcI k 401 t_rvalues), (t, .inr (5, [.ref t_abytes, .int t_length, .ref t_akinds, .ref t_aplaces, .ref t_avalues, .int t_pieces, .int t_at, .int t_fault])), (t_akinds, hcI k 401 t_rkinds)]) := hD
  refine lv_sipush (v := 259) hx hb dX7_takeNumber_4 (by decide) ?_
  refine lv_icmp_eq (tgt := 18) hx hb dX7_takeNumber_7 (by decide) (fun c3 => ?_) (fun c3 => ?_)
  · have fc3 := cx_eq_t (a := r2.toInt) (b := 259) rfl (by decide) c3
    refine lv_aload_n hx hb dX7_takeNumber_18 rfl (lv_at hl 0 rfl) ?_
    refine hc_Vi (As := []) (rest := []) (n := 0) (wr := [(t_aplaces, hcI k 401 t_rplaces), (t_akinds, hcI k 401 t_rkinds)]) hx hb hml hown hts hG hA hP hD hS hl.1 [2, 1] [0, 3] (i_X7_value l D k _ t t_abytes t_length t_akinds t_aplaces t_avalues t_pieces t_at t_fault t_rvalues ⟨by omega, by omega⟩ ⟨by omega, by omega⟩ ⟨by omega, by omega⟩) (ci := 5) (q0 := 2) rfl rfl gX7_takeNumber_X7_value rfl ⟨rfl, rfl, Nat.le_of_ble_eq_true rfl, Nat.le_of_ble_eq_true rfl⟩ (by decide +kernel) rfl rfl ⟨by decide, by decide, by decide⟩ ⟨rfl, rfl, Nat.le_of_ble_eq_true rfl, Nat.le_of_ble_eq_true rfl, Nat.le_of_ble_eq_true rfl⟩ dX7_takeNumber_19 (fun r5 u4 H locs hw hP hD hS => ?_)
    have hP : va_P D vwCl ([(t_aplaces, hcI k 401 t_rplaces), (t_akinds, hcI k 401 t_rkinds), (t, .inr (5, [.ref t_abytes, .int t_length, .ref t_akinds, .ref t_aplaces, .ref t_avalues, .int t_pieces, .int t_at, .int t_fault])), (t_avalues, hcI k 401 t_rvalues)]) H := hP
    have hD : va_D A ([(t_aplaces, hcI k 401 t_rplaces), (t_akinds, hcI k 401 t_rkinds), (t, .inr (5, [.ref t_abytes, .int t_length, .ref t_akinds, .ref t_aplaces, .ref t_avalues, .int t_pieces, .int t_at, .int t_fault])), (t_avalues, hcI k 401 t_rvalues)]) := hD
    refine lv_istore_n (lv' := [(3, .int r5), (0, .ref t), (1, .int x1), (2, .int x2)]) hx hb dX7_takeNumber_22 rfl hl (by decide) rfl (fun ls hl => ?_)
    refine lv_iload_n hx hb dX7_takeNumber_23 rfl (lv_at hl 0 rfl) ?_
    refine lv_iload_n hx hb dX7_takeNumber_24 rfl (lv_at hl 2 rfl) ?_
    refine lv_icmp_lt (tgt := 33) hx hb dX7_takeNumber_25 (by decide) (fun c6 => ?_) (fun c6 => ?_)
    · have fc6 := cx_lt_t (a := r5.toInt) (b := x1.toInt) rfl rfl c6
      refine lv_aload_n hx hb dX7_takeNumber_33 rfl (lv_at hl 1 rfl) ?_
      refine lv_iconst (v := 1) hx hb dX7_takeNumber_34 (by decide) ?_
      refine hc_Vi (As := [.int 1]) (rest := []) (n := 1) (wr := [(t_akinds, hcI k 401 t_rkinds), (t_avalues, hcI k 401 t_rvalues)]) hx hb hml hown hts hG hA hP hD hS hl.1 [2, 0] [1, 3] (i_X7_fail l D k _ 1 t t_abytes t_length t_akinds t_aplaces t_avalues t_pieces t_at t_fault t_rplaces ⟨by omega, by omega⟩ ⟨by omega, by omega⟩ ⟨by omega, by omega⟩) (ci := 5) (q0 := 2) rfl rfl gX7_takeNumber_X7_fail rfl ⟨rfl, rfl, Nat.le_of_ble_eq_true rfl, Nat.le_of_ble_eq_true rfl⟩ (by decide +kernel) rfl rfl ⟨by decide, by decide, by decide⟩ ⟨rfl, rfl, Nat.le_of_ble_eq_true rfl, Nat.le_of_ble_eq_true rfl, Nat.le_of_ble_eq_true rfl⟩ dX7_takeNumber_35 (fun r8 u7 H locs hw hP hD hS => ?_)
      obtain ⟨w9, rfl⟩ : ∃ z, z = u7 := ⟨_, rfl⟩
      have hP : va_P D vwCl ([(t_akinds, hcI k 401 t_rkinds), (t_avalues, hcI k 401 t_rvalues), (t, .inr (5, [.ref t_abytes, .int t_length, .ref t_akinds, .ref t_aplaces, .ref t_avalues, .int t_pieces, .int t_at, .int w9])), (t_aplaces, hcI k 401 t_rplaces)]) H := hP
      have hD : va_D A ([(t_akinds, hcI k 401 t_rkinds), (t_avalues, hcI k 401 t_rvalues), (t, .inr (5, [.ref t_abytes, .int t_length, .ref t_akinds, .ref t_aplaces, .ref t_avalues, .int t_pieces, .int t_at, .int w9])), (t_aplaces, hcI k 401 t_rplaces)]) := hD
      have br8 := hw
      have br8 : iv (0) (0) r8 := br8
      have br8_l := br8.1
      have br8_u := br8.2
      refine lv_pop hx hb dX7_takeNumber_38 rfl ?_
      refine lv_iconst (v := (-1)) hx hb dX7_takeNumber_39 (by decide) ?_
      exact hc_end hx hb hr hlocks (w9, t_at) ⟨(show iv (0) (400) t_at from ⟨by omega, by omega⟩), (by have q9 : ((-1) : Int32).toInt = -1 := (by decide); omega)⟩ (hP.sub [2, 0, 3, 1] rfl) (hD.sub [2, 0, 3, 1] (by decide) rfl) hS dX7_takeNumber_40
    · have fc6 := cx_lt_f (a := r5.toInt) (b := x1.toInt) rfl rfl c6
      refine lv_iload_n hx hb dX7_takeNumber_28 rfl (lv_at hl 0 rfl) ?_
      refine lv_iload_n hx hb dX7_takeNumber_29 rfl (lv_at hl 3 rfl) ?_
      refine lv_icmp_le (tgt := 41) hx hb dX7_takeNumber_30 (by decide) (fun c10 => ?_) (fun c10 => ?_)
      · have fc10 := cx_le_t (a := r5.toInt) (b := x2.toInt) rfl rfl c10
        refine lv_aload_n hx hb dX7_takeNumber_41 rfl (lv_at hl 1 rfl) ?_
        refine hc_Vv (As := []) (rest := []) (n := 0) (wr := [(t_aplaces, hcI k 401 t_rplaces), (t_akinds, hcI k 401 t_rkinds), (t_avalues, hcI k 401 t_rvalues)]) hx hb hml hown hts hG hA hP hD hS hl.1 [2] [0, 1, 3] (i_X7_skip l D k _ t t_abytes t_length t_akinds t_aplaces t_avalues t_pieces t_at t_fault ⟨by omega, by omega⟩ ⟨by omega, by omega⟩ ⟨by omega, by omega⟩) (ci := 5) (q0 := 2) rfl rfl gX7_takeNumber_X7_skip rfl ⟨rfl, rfl, Nat.le_of_ble_eq_true rfl, Nat.le_of_ble_eq_true rfl⟩ (by decide +kernel) rfl rfl ⟨by decide, by decide, by decide⟩ ⟨rfl, rfl, Nat.le_of_ble_eq_true rfl, Nat.le_of_ble_eq_true rfl, Nat.le_of_ble_eq_true rfl⟩ dX7_takeNumber_42 (fun u11 H locs hw hP hD hS => ?_)
        obtain ⟨w13, rfl⟩ : ∃ z, z = u11 := ⟨_, rfl⟩
        have hP : va_P D vwCl ([(t_aplaces, hcI k 401 t_rplaces), (t_akinds, hcI k 401 t_rkinds), (t_avalues, hcI k 401 t_rvalues), (t, .inr (5, [.ref t_abytes, .int t_length, .ref t_akinds, .ref t_aplaces, .ref t_avalues, .int t_pieces, .int w13, .int t_fault]))]) H := hP
        have hD : va_D A ([(t_aplaces, hcI k 401 t_rplaces), (t_akinds, hcI k 401 t_rkinds), (t_avalues, hcI k 401 t_rvalues), (t, .inr (5, [.ref t_abytes, .int t_length, .ref t_akinds, .ref t_aplaces, .ref t_avalues, .int t_pieces, .int w13, .int t_fault]))]) := hD
        have bw13 := hw
        have bw13 : iv (0) (400) w13 := bw13
        have bw13_l := bw13.1
        have bw13_u := bw13.2
        refine lv_iload_n hx hb dX7_takeNumber_45 rfl (lv_at hl 0 rfl) ?_
        exact hc_end hx hb hr hlocks (t_fault, w13) ⟨(show iv (0) (400) w13 from ⟨by omega, by omega⟩), (by omega)⟩ (hP.sub [3, 1, 0, 2] rfl) (hD.sub [3, 1, 0, 2] (by decide) rfl) hS dX7_takeNumber_46
      · have fc10 := cx_le_f (a := r5.toInt) (b := x2.toInt) rfl rfl c10
        refine lv_aload_n hx hb dX7_takeNumber_33 rfl (lv_at hl 1 rfl) ?_
        refine lv_iconst (v := 1) hx hb dX7_takeNumber_34 (by decide) ?_
        refine hc_Vi (As := [.int 1]) (rest := []) (n := 1) (wr := [(t_akinds, hcI k 401 t_rkinds), (t_avalues, hcI k 401 t_rvalues)]) hx hb hml hown hts hG hA hP hD hS hl.1 [2, 0] [1, 3] (i_X7_fail l D k _ 1 t t_abytes t_length t_akinds t_aplaces t_avalues t_pieces t_at t_fault t_rplaces ⟨by omega, by omega⟩ ⟨by omega, by omega⟩ ⟨by omega, by omega⟩) (ci := 5) (q0 := 2) rfl rfl gX7_takeNumber_X7_fail rfl ⟨rfl, rfl, Nat.le_of_ble_eq_true rfl, Nat.le_of_ble_eq_true rfl⟩ (by decide +kernel) rfl rfl ⟨by decide, by decide, by decide⟩ ⟨rfl, rfl, Nat.le_of_ble_eq_true rfl, Nat.le_of_ble_eq_true rfl, Nat.le_of_ble_eq_true rfl⟩ dX7_takeNumber_35 (fun r15 u14 H locs hw hP hD hS => ?_)
        obtain ⟨w16, rfl⟩ : ∃ z, z = u14 := ⟨_, rfl⟩
        have hP : va_P D vwCl ([(t_akinds, hcI k 401 t_rkinds), (t_avalues, hcI k 401 t_rvalues), (t, .inr (5, [.ref t_abytes, .int t_length, .ref t_akinds, .ref t_aplaces, .ref t_avalues, .int t_pieces, .int t_at, .int w16])), (t_aplaces, hcI k 401 t_rplaces)]) H := hP
        have hD : va_D A ([(t_akinds, hcI k 401 t_rkinds), (t_avalues, hcI k 401 t_rvalues), (t, .inr (5, [.ref t_abytes, .int t_length, .ref t_akinds, .ref t_aplaces, .ref t_avalues, .int t_pieces, .int t_at, .int w16])), (t_aplaces, hcI k 401 t_rplaces)]) := hD
        have br15 := hw
        have br15 : iv (0) (0) r15 := br15
        have br15_l := br15.1
        have br15_u := br15.2
        refine lv_pop hx hb dX7_takeNumber_38 rfl ?_
        refine lv_iconst (v := (-1)) hx hb dX7_takeNumber_39 (by decide) ?_
        exact hc_end hx hb hr hlocks (w16, t_at) ⟨(show iv (0) (400) t_at from ⟨by omega, by omega⟩), (by have q9 : ((-1) : Int32).toInt = -1 := (by decide); omega)⟩ (hP.sub [2, 0, 3, 1] rfl) (hD.sub [2, 0, 3, 1] (by decide) rfl) hS dX7_takeNumber_40
  · have fc3 := cx_eq_f (a := r2.toInt) (b := 259) rfl (by decide) c3
    refine lv_aload_n hx hb dX7_takeNumber_10 rfl (lv_at hl 0 rfl) ?_
    refine lv_iconst (v := 0) hx hb dX7_takeNumber_11 (by decide) ?_
    refine hc_Vi (As := [.int 0]) (rest := []) (n := 1) (wr := [(t_avalues, hcI k 401 t_rvalues), (t_akinds, hcI k 401 t_rkinds)]) hx hb hml hown hts hG hA hP hD hS hl.1 [2, 0] [1, 3] (i_X7_fail l D k _ 0 t t_abytes t_length t_akinds t_aplaces t_avalues t_pieces t_at t_fault t_rplaces ⟨by omega, by omega⟩ ⟨by omega, by omega⟩ ⟨by omega, by omega⟩) (ci := 5) (q0 := 2) rfl rfl gX7_takeNumber_X7_fail rfl ⟨rfl, rfl, Nat.le_of_ble_eq_true rfl, Nat.le_of_ble_eq_true rfl⟩ (by decide +kernel) rfl rfl ⟨by decide, by decide, by decide⟩ ⟨rfl, rfl, Nat.le_of_ble_eq_true rfl, Nat.le_of_ble_eq_true rfl, Nat.le_of_ble_eq_true rfl⟩ dX7_takeNumber_12 (fun r18 u17 H locs hw hP hD hS => ?_)
    obtain ⟨w19, rfl⟩ : ∃ z, z = u17 := ⟨_, rfl⟩
    have hP : va_P D vwCl ([(t_avalues, hcI k 401 t_rvalues), (t_akinds, hcI k 401 t_rkinds), (t, .inr (5, [.ref t_abytes, .int t_length, .ref t_akinds, .ref t_aplaces, .ref t_avalues, .int t_pieces, .int t_at, .int w19])), (t_aplaces, hcI k 401 t_rplaces)]) H := hP
    have hD : va_D A ([(t_avalues, hcI k 401 t_rvalues), (t_akinds, hcI k 401 t_rkinds), (t, .inr (5, [.ref t_abytes, .int t_length, .ref t_akinds, .ref t_aplaces, .ref t_avalues, .int t_pieces, .int t_at, .int w19])), (t_aplaces, hcI k 401 t_rplaces)]) := hD
    have br18 := hw
    have br18 : iv (0) (0) r18 := br18
    have br18_l := br18.1
    have br18_u := br18.2
    refine lv_pop hx hb dX7_takeNumber_15 rfl ?_
    refine lv_iconst (v := (-1)) hx hb dX7_takeNumber_16 (by decide) ?_
    exact hc_end hx hb hr hlocks (w19, t_at) ⟨(show iv (0) (400) t_at from ⟨by omega, by omega⟩), (by have q9 : ((-1) : Int32).toInt = -1 := (by decide); omega)⟩ (hP.sub [2, 1, 3, 0] rfl) (hD.sub [2, 1, 3, 0] (by decide) rfl) hS dX7_takeNumber_17
set_option maxHeartbeats 4000000 in
set_option maxRecDepth 100000 in
theorem i_X7_addNumber (l : Launch) (D : va_G) (k : Nat → ClassId) (sz : Nat) (x1 : Int32) (t : Nat) (t_abytes : Nat) (t_length : Int32) (t_akinds : Nat) (t_aplaces : Nat) (t_avalues : Nat) (t_pieces : Int32) (t_at : Int32) (t_fault : Int32) (t_rbytes : Nat → Int32) (t_rkinds : Nat → Int32) (t_rplaces : Nat → Int32) (t_rvalues : Nat → Int32) (h_x1 : iv (0) (399) x1) (h_t_length : iv (0) (400) t_length) (h_t_pieces : iv (0) (401) t_pieces) (h_t_at : iv (0) (400) t_at) : CtI l yX7_addNumber wsX7_addNumber (rmK 2 0 0) [.ref t, .int x1] D k sz ([(t, .inr (5, [.ref t_abytes, .int t_length, .ref t_akinds, .ref t_aplaces, .ref t_avalues, .int t_pieces, .int t_at, .int t_fault])), (t_abytes, hcY k 400 t_rbytes), (t_akinds, hcI k 401 t_rkinds), (t_aplaces, hcI k 401 t_rplaces), (t_avalues, hcI k 401 t_rvalues)]) (fun (r : Int32) (u : (Int32) × (Nat → Int32) × (Nat → Int32) × (Nat → Int32)) => iv (-1) (399) r ∧ iv (0) (401) (u.1)) (fun u : (Int32) × (Nat → Int32) × (Nat → Int32) × (Nat → Int32) => [(t, .inr (5, [.ref t_abytes, .int t_length, .ref t_akinds, .ref t_aplaces, .ref t_avalues, .int (u.1), .int t_at, .int t_fault])), (t_abytes, hcY k 400 t_rbytes), (t_akinds, hcI k 401 (u.2.1)), (t_aplaces, hcI k 401 (u.2.2.1)), (t_avalues, hcI k 401 (u.2.2.2))]) 0 0 := by
  have h_x1_l := h_x1.1
  have h_x1_u := h_x1.2
  have h_t_length_l := h_t_length.1
  have h_t_length_u := h_t_length.2
  have h_t_pieces_l := h_t_pieces.1
  have h_t_pieces_u := h_t_pieces.2
  have h_t_at_l := h_t_at.1
  have h_t_at_u := h_t_at.2
  refine CtI.mk (cc := cX7_addNumber) (maxL := 4) (ret := (some .int)) (by decide) rfl (Nat.le_of_ble_eq_true rfl) ?_
  intro p e s m below meth c A ls E hP hD hS hl
  obtain ⟨hx, hb, hr, hml, hown, hts, hlocks, hin, hG, hA⟩ := E
  have hown : s.vm.findClass RX7 = some m.cls := hown
  have in7 : ∀ w ∈ u_ws RX7 TX7 8, w ∈ wsX7_addNumber := fun _ h => List.mem_cons_of_mem _ (List.mem_append_right _ h)
  have hl : lv_has ls 4 [(0, .ref t), (1, .int x1)] := hl
  refine lv_iload_n hx hb dX7_addNumber_0 rfl (lv_at hl 1 rfl) ?_
  refine lv_istore_n (lv' := [(2, .int x1), (0, .ref t), (1, .int x1)]) hx hb dX7_addNumber_1 rfl hl (by decide) rfl (fun ls hl => ?_)
  refine lv_iconst (v := 0) hx hb dX7_addNumber_2 (by decide) ?_
  refine lv_istore_n (lv' := [(3, .int 0), (2, .int x1), (0, .ref t), (1, .int x1)]) hx hb dX7_addNumber_3 rfl hl (by decide) rfl (fun ls hl => ?_)
  have loop1 : ∀ (fu : Nat) (L2_1 : Int32) (L3_1 : Int32), iv (0) (400) L2_1 → 400 - L2_1.toInt < (fu : Int) → ∀ (H : Heap) (locs : List Loc) (ls : Array Slot), va_P D vwCl ([(t, .inr (5, [.ref t_abytes, .int t_length, .ref t_akinds, .ref t_aplaces, .ref t_avalues, .int t_pieces, .int t_at, .int t_fault])), (t_abytes, hcY k 400 t_rbytes), (t_akinds, hcI k 401 t_rkinds), (t_aplaces, hcI k 401 t_rplaces), (t_avalues, hcI k 401 t_rvalues)]) H → va_D A ([(t, .inr (5, [.ref t_abytes, .int t_length, .ref t_akinds, .ref t_aplaces, .ref t_avalues, .int t_pieces, .int t_at, .int t_fault])), (t_abytes, hcY k 400 t_rbytes), (t_akinds, hcI k 401 t_rkinds), (t_aplaces, hcI k 401 t_rplaces), (t_avalues, hcI k 401 t_rvalues)]) → va_S A s.heap H locs → lv_has ls 4 [(3, .int L3_1), (2, .int L2_1), (0, .ref t), (1, .int x1)] → W p l e (rmK 2 0 0) s m (List.toArray [.ref t, .int x1]) below meth c H locs 0 0 (MQ below (va_Qi (fun (r : Int32) (u : (Int32) × (Nat → Int32) × (Nat → Int32) × (Nat → Int32)) => iv (-1) (399) r ∧ iv (0) (401) (u.1)) (hcB D (fun u : (Int32) × (Nat → Int32) × (Nat → Int32) × (Nat → Int32) => [(t, .inr (5, [.ref t_abytes, .int t_length, .ref t_akinds, .ref t_aplaces, .ref t_avalues, .int (u.1), .int t_at, .int t_fault])), (t_abytes, hcY k 400 t_rbytes), (t_akinds, hcI k 401 (u.2.1)), (t_aplaces, hcI k 401 (u.2.2.1)), (t_avalues, hcI k 401 (u.2.2.2))]) A) A) (List.toArray [.ref t, .int x1]) s 0 0 A) (F0 m 4 ls []) := by
    intro fu
    induction fu with
    | zero =>
      intro L2_1 L3_1 bL2_1 hm
      have bL2_1_l := bL2_1.1
      have bL2_1_u := bL2_1.2
      exact absurd hm (by omega)
    | succ fu ih1 =>
      intro L2_1 L3_1 bL2_1 hm H locs ls hP hD hS hl
      have bL2_1_l := bL2_1.1
      have bL2_1_u := bL2_1.2
      refine lv_iload_n hx hb dX7_addNumber_4 rfl (lv_at hl 1 rfl) ?_
      refine lv_aload_n hx hb dX7_addNumber_5 rfl (lv_at hl 2 rfl) ?_
      refine va_get (D := D) (ci := 5) (v := .int t_length) (C := RX7) (T := TX7) (N := 8) hx hb hts in7 hown hG.1 hP 0 rfl rfl 1 (by decide) (hts (.fieldLink RX7 15 "ChairCane$Tape" "length" "I") (by decide +kernel)) (fun _ h9 => h9) rfl dX7_addNumber_6 ?_
      refine lv_icmp_ge (tgt := 50) hx hb dX7_addNumber_9 (by decide) (fun c2 => ?_) (fun c2 => ?_)
      · have fc2 := cx_ge_t (a := L2_1.toInt) (b := t_length.toInt) rfl rfl c2
        refine lv_aload_n hx hb dX7_addNumber_50 rfl (lv_at hl 2 rfl) ?_
        refine lv_sipush (v := 259) hx hb dX7_addNumber_51 (by decide) ?_
        refine lv_iload_n hx hb dX7_addNumber_54 rfl (lv_at hl 3 rfl) ?_
        refine lv_iload_n hx hb dX7_addNumber_55 rfl (lv_at hl 1 rfl) ?_
        refine lv_iload_n hx hb dX7_addNumber_56 rfl (lv_at hl 3 rfl) ?_
        refine lv_isub hx hb dX7_addNumber_57 ?_
        refine lv_topi (fun z3 ez3 => ?_)
        have tz3 : z3.toInt = L2_1.toInt - x1.toInt := ai_sub rfl rfl ez3 (by omega) (by omega)
        refine lv_iconst (v := 5) hx hb dX7_addNumber_58 (by decide) ?_
        refine lv_icmp_le (tgt := 66) hx hb dX7_addNumber_59 (by decide) (fun c4 => ?_) (fun c4 => ?_)
        · have fc4 := cx_le_t (a := z3.toInt) (b := 5) rfl (by decide) c4
          refine lv_iload_n hx hb dX7_addNumber_66 rfl (lv_at hl 0 rfl) ?_
          refine hc_Vv (As := [.int 259, .int x1, .int L3_1]) (rest := []) (n := 3) (wr := [(t_abytes, hcY k 400 t_rbytes)]) hx hb hml hown hts hG hA hP hD hS hl.1 [0, 2, 3, 4] [1] (i_X7_put l D k _ 259 x1 L3_1 t t_abytes t_length t_akinds t_aplaces t_avalues t_pieces t_at t_fault t_rkinds t_rplaces t_rvalues ⟨by omega, by omega⟩ ⟨by omega, by omega⟩ ⟨by omega, by omega⟩) (ci := 5) (q0 := 0) rfl rfl gX7_addNumber_X7_put rfl ⟨rfl, rfl, Nat.le_of_ble_eq_true rfl, Nat.le_of_ble_eq_true rfl⟩ (by decide +kernel) rfl rfl ⟨by decide, by decide, by decide⟩ ⟨rfl, rfl, Nat.le_of_ble_eq_true rfl, Nat.le_of_ble_eq_true rfl, Nat.le_of_ble_eq_true rfl⟩ dX7_addNumber_67 (fun u5 H locs hw hP hD hS => ?_)
          obtain ⟨w7, w8, w9, w10⟩ := u5
          have hP : va_P D vwCl ([(t_abytes, hcY k 400 t_rbytes), (t, .inr (5, [.ref t_abytes, .int t_length, .ref t_akinds, .ref t_aplaces, .ref t_avalues, .int w7, .int t_at, .int t_fault])), (t_akinds, hcI k 401 w8), (t_aplaces, hcI k 401 w9), (t_avalues, hcI k 401 w10)]) H := hP
          have hD : va_D A ([(t_abytes, hcY k 400 t_rbytes), (t, .inr (5, [.ref t_abytes, .int t_length, .ref t_akinds, .ref t_aplaces, .ref t_avalues, .int w7, .int t_at, .int t_fault])), (t_akinds, hcI k 401 w8), (t_aplaces, hcI k 401 w9), (t_avalues, hcI k 401 w10)]) := hD
          have bw7 := hw
          have bw7 : iv (0) (401) w7 := bw7
          have bw7_l := bw7.1
          have bw7_u := bw7.2
          refine lv_iload_n hx hb dX7_addNumber_70 rfl (lv_at hl 1 rfl) ?_
          refine lv_iconst (v := 1) hx hb dX7_addNumber_71 (by decide) ?_
          refine lv_isub hx hb dX7_addNumber_72 ?_
          refine lv_topi (fun z11 ez11 => ?_)
          have tz11 : z11.toInt = L2_1.toInt - 1 := ai_sub rfl (by decide) ez11 (by omega) (by omega)
          exact hc_end hx hb hr hlocks (w7, w8, w9, w10) ⟨⟨by omega, by omega⟩, (show iv (0) (401) w7 from ⟨by omega, by omega⟩)⟩ (hP.sub [1, 0, 2, 3, 4] rfl) (hD.sub [1, 0, 2, 3, 4] (by decide) rfl) hS dX7_addNumber_73
        · have fc4 := cx_le_f (a := z3.toInt) (b := 5) rfl (by decide) c4
          refine lv_iconst (v := (-1)) hx hb dX7_addNumber_62 (by decide) ?_
          refine lv_goto (tgt := 67) hx hb dX7_addNumber_63 (by decide) ?_
          refine hc_Vv (As := [.int 259, .int x1, .int (-1)]) (rest := []) (n := 3) (wr := [(t_abytes, hcY k 400 t_rbytes)]) hx hb hml hown hts hG hA hP hD hS hl.1 [0, 2, 3, 4] [1] (i_X7_put l D k _ 259 x1 (-1) t t_abytes t_length t_akinds t_aplaces t_avalues t_pieces t_at t_fault t_rkinds t_rplaces t_rvalues ⟨by omega, by omega⟩ ⟨by omega, by omega⟩ ⟨by omega, by omega⟩) (ci := 5) (q0 := 0) rfl rfl gX7_addNumber_X7_put rfl ⟨rfl, rfl, Nat.le_of_ble_eq_true rfl, Nat.le_of_ble_eq_true rfl⟩ (by decide +kernel) rfl rfl ⟨by decide, by decide, by decide⟩ ⟨rfl, rfl, Nat.le_of_ble_eq_true rfl, Nat.le_of_ble_eq_true rfl, Nat.le_of_ble_eq_true rfl⟩ dX7_addNumber_67 (fun u12 H locs hw hP hD hS => ?_)
          obtain ⟨w14, w15, w16, w17⟩ := u12
          have hP : va_P D vwCl ([(t_abytes, hcY k 400 t_rbytes), (t, .inr (5, [.ref t_abytes, .int t_length, .ref t_akinds, .ref t_aplaces, .ref t_avalues, .int w14, .int t_at, .int t_fault])), (t_akinds, hcI k 401 w15), (t_aplaces, hcI k 401 w16), (t_avalues, hcI k 401 w17)]) H := hP
          have hD : va_D A ([(t_abytes, hcY k 400 t_rbytes), (t, .inr (5, [.ref t_abytes, .int t_length, .ref t_akinds, .ref t_aplaces, .ref t_avalues, .int w14, .int t_at, .int t_fault])), (t_akinds, hcI k 401 w15), (t_aplaces, hcI k 401 w16), (t_avalues, hcI k 401 w17)]) := hD
          have bw14 := hw
          have bw14 : iv (0) (401) w14 := bw14
          have bw14_l := bw14.1
          have bw14_u := bw14.2
          refine lv_iload_n hx hb dX7_addNumber_70 rfl (lv_at hl 1 rfl) ?_
          refine lv_iconst (v := 1) hx hb dX7_addNumber_71 (by decide) ?_
          refine lv_isub hx hb dX7_addNumber_72 ?_
          refine lv_topi (fun z18 ez18 => ?_)
          have tz18 : z18.toInt = L2_1.toInt - 1 := ai_sub rfl (by decide) ez18 (by omega) (by omega)
          exact hc_end hx hb hr hlocks (w14, w15, w16, w17) ⟨⟨by omega, by omega⟩, (show iv (0) (401) w14 from ⟨by omega, by omega⟩)⟩ (hP.sub [1, 0, 2, 3, 4] rfl) (hD.sub [1, 0, 2, 3, 4] (by decide) rfl) hS dX7_addNumber_73
      · have fc2 := cx_ge_f (a := L2_1.toInt) (b := t_length.toInt) rfl rfl c2
        refine lv_aload_n hx hb dX7_addNumber_12 rfl (lv_at hl 2 rfl) ?_
        refine lv_iload_n hx hb dX7_addNumber_13 rfl (lv_at hl 1 rfl) ?_
        refine hc_Vi (As := [.int L2_1]) (rest := []) (n := 1) (wr := [(t_akinds, hcI k 401 t_rkinds), (t_aplaces, hcI k 401 t_rplaces), (t_avalues, hcI k 401 t_rvalues)]) hx hb hml hown hts hG hA hP hD hS hl.1 [0, 1] [2, 3, 4] (i_X7_byteAt l D k _ L2_1 t t_abytes t_length t_akinds t_aplaces t_avalues t_pieces t_at t_fault t_rbytes ⟨by omega, by omega⟩ ⟨by omega, by omega⟩ ⟨by omega, by omega⟩) (ci := 5) (q0 := 0) rfl rfl gX7_addNumber_X7_byteAt rfl ⟨rfl, rfl, Nat.le_of_ble_eq_true rfl, Nat.le_of_ble_eq_true rfl⟩ (by decide +kernel) rfl rfl ⟨by decide, by decide, by decide⟩ ⟨rfl, rfl, Nat.le_of_ble_eq_true rfl, Nat.le_of_ble_eq_true rfl, Nat.le_of_ble_eq_true rfl⟩ dX7_addNumber_14 (fun r20 u19 H locs hw hP hD hS => ?_)
        have hP : va_P D vwCl ([(t_akinds, hcI k 401 t_rkinds), (t_aplaces, hcI k 401 t_rplaces), (t_avalues, hcI k 401 t_rvalues), (t, .inr (5, [.ref t_abytes, .int t_length, .ref t_akinds, .ref t_aplaces, .ref t_avalues, .int t_pieces, .int t_at, .int t_fault])), (t_abytes, hcY k 400 t_rbytes)]) H := hP
        have hD : va_D A ([(t_akinds, hcI k 401 t_rkinds), (t_aplaces, hcI k 401 t_rplaces), (t_avalues, hcI k 401 t_rvalues), (t, .inr (5, [.ref t_abytes, .int t_length, .ref t_akinds, .ref t_aplaces, .ref t_avalues, .int t_pieces, .int t_at, .int t_fault])), (t_abytes, hcY k 400 t_rbytes)]) := hD
        have br20 := hw
        have br20 : iv (-1) (255) r20 := br20
        have br20_l := br20.1
        have br20_u := br20.2
        refine hc_Si (As := [.int r20]) (rest := []) (n := 1) (wr := [(t_akinds, hcI k 401 t_rkinds), (t_aplaces, hcI k 401 t_rplaces), (t_avalues, hcI k 401 t_rvalues), (t, .inr (5, [.ref t_abytes, .int t_length, .ref t_akinds, .ref t_aplaces, .ref t_avalues, .int t_pieces, .int t_at, .int t_fault])), (t_abytes, hcY k 400 t_rbytes)]) hx hb hml hown hts hG hA hP hD hS hl.1 [] [0, 1, 2, 3, 4] (i_X7_isDigit l D k _ r20 ) gX7_addNumber_X7_isDigit rfl ⟨rfl, rfl, Nat.le_of_ble_eq_true rfl, Nat.le_of_ble_eq_true rfl⟩ (by decide +kernel) rfl rfl ⟨by decide, by decide, by decide⟩ ⟨rfl, rfl, Nat.le_of_ble_eq_true rfl, Nat.le_of_ble_eq_true rfl, Nat.le_of_ble_eq_true rfl⟩ dX7_addNumber_17 (fun r22 u21 H locs hw hP hD hS => ?_)
        have hP : va_P D vwCl ([(t_akinds, hcI k 401 t_rkinds), (t_aplaces, hcI k 401 t_rplaces), (t_avalues, hcI k 401 t_rvalues), (t, .inr (5, [.ref t_abytes, .int t_length, .ref t_akinds, .ref t_aplaces, .ref t_avalues, .int t_pieces, .int t_at, .int t_fault])), (t_abytes, hcY k 400 t_rbytes)]) H := hP
        have hD : va_D A ([(t_akinds, hcI k 401 t_rkinds), (t_aplaces, hcI k 401 t_rplaces), (t_avalues, hcI k 401 t_rvalues), (t, .inr (5, [.ref t_abytes, .int t_length, .ref t_akinds, .ref t_aplaces, .ref t_avalues, .int t_pieces, .int t_at, .int t_fault])), (t_abytes, hcY k 400 t_rbytes)]) := hD
        have br22 := hw
        have br22 : iv (0) (1) r22 := br22
        have br22_l := br22.1
        have br22_u := br22.2
        refine lv_if_eq (tgt := 50) hx hb dX7_addNumber_20 (by decide) (fun c23 => ?_) (fun c23 => ?_)
        · have fc23 := cx_eq_t (a := r22.toInt) (b := 0) rfl (by decide) c23
          refine lv_aload_n hx hb dX7_addNumber_50 rfl (lv_at hl 2 rfl) ?_
          refine lv_sipush (v := 259) hx hb dX7_addNumber_51 (by decide) ?_
          refine lv_iload_n hx hb dX7_addNumber_54 rfl (lv_at hl 3 rfl) ?_
          refine lv_iload_n hx hb dX7_addNumber_55 rfl (lv_at hl 1 rfl) ?_
          refine lv_iload_n hx hb dX7_addNumber_56 rfl (lv_at hl 3 rfl) ?_
          refine lv_isub hx hb dX7_addNumber_57 ?_
          refine lv_topi (fun z24 ez24 => ?_)
          have tz24 : z24.toInt = L2_1.toInt - x1.toInt := ai_sub rfl rfl ez24 (by omega) (by omega)
          refine lv_iconst (v := 5) hx hb dX7_addNumber_58 (by decide) ?_
          refine lv_icmp_le (tgt := 66) hx hb dX7_addNumber_59 (by decide) (fun c25 => ?_) (fun c25 => ?_)
          · have fc25 := cx_le_t (a := z24.toInt) (b := 5) rfl (by decide) c25
            refine lv_iload_n hx hb dX7_addNumber_66 rfl (lv_at hl 0 rfl) ?_
            refine hc_Vv (As := [.int 259, .int x1, .int L3_1]) (rest := []) (n := 3) (wr := [(t_abytes, hcY k 400 t_rbytes)]) hx hb hml hown hts hG hA hP hD hS hl.1 [3, 0, 1, 2] [4] (i_X7_put l D k _ 259 x1 L3_1 t t_abytes t_length t_akinds t_aplaces t_avalues t_pieces t_at t_fault t_rkinds t_rplaces t_rvalues ⟨by omega, by omega⟩ ⟨by omega, by omega⟩ ⟨by omega, by omega⟩) (ci := 5) (q0 := 3) rfl rfl gX7_addNumber_X7_put rfl ⟨rfl, rfl, Nat.le_of_ble_eq_true rfl, Nat.le_of_ble_eq_true rfl⟩ (by decide +kernel) rfl rfl ⟨by decide, by decide, by decide⟩ ⟨rfl, rfl, Nat.le_of_ble_eq_true rfl, Nat.le_of_ble_eq_true rfl, Nat.le_of_ble_eq_true rfl⟩ dX7_addNumber_67 (fun u26 H locs hw hP hD hS => ?_)
            obtain ⟨w28, w29, w30, w31⟩ := u26
            have hP : va_P D vwCl ([(t_abytes, hcY k 400 t_rbytes), (t, .inr (5, [.ref t_abytes, .int t_length, .ref t_akinds, .ref t_aplaces, .ref t_avalues, .int w28, .int t_at, .int t_fault])), (t_akinds, hcI k 401 w29), (t_aplaces, hcI k 401 w30), (t_avalues, hcI k 401 w31)]) H := hP
            have hD : va_D A ([(t_abytes, hcY k 400 t_rbytes), (t, .inr (5, [.ref t_abytes, .int t_length, .ref t_akinds, .ref t_aplaces, .ref t_avalues, .int w28, .int t_at, .int t_fault])), (t_akinds, hcI k 401 w29), (t_aplaces, hcI k 401 w30), (t_avalues, hcI k 401 w31)]) := hD
            have bw28 := hw
            have bw28 : iv (0) (401) w28 := bw28
            have bw28_l := bw28.1
            have bw28_u := bw28.2
            refine lv_iload_n hx hb dX7_addNumber_70 rfl (lv_at hl 1 rfl) ?_
            refine lv_iconst (v := 1) hx hb dX7_addNumber_71 (by decide) ?_
            refine lv_isub hx hb dX7_addNumber_72 ?_
            refine lv_topi (fun z32 ez32 => ?_)
            have tz32 : z32.toInt = L2_1.toInt - 1 := ai_sub rfl (by decide) ez32 (by omega) (by omega)
            exact hc_end hx hb hr hlocks (w28, w29, w30, w31) ⟨⟨by omega, by omega⟩, (show iv (0) (401) w28 from ⟨by omega, by omega⟩)⟩ (hP.sub [1, 0, 2, 3, 4] rfl) (hD.sub [1, 0, 2, 3, 4] (by decide) rfl) hS dX7_addNumber_73
          · have fc25 := cx_le_f (a := z24.toInt) (b := 5) rfl (by decide) c25
            refine lv_iconst (v := (-1)) hx hb dX7_addNumber_62 (by decide) ?_
            refine lv_goto (tgt := 67) hx hb dX7_addNumber_63 (by decide) ?_
            refine hc_Vv (As := [.int 259, .int x1, .int (-1)]) (rest := []) (n := 3) (wr := [(t_abytes, hcY k 400 t_rbytes)]) hx hb hml hown hts hG hA hP hD hS hl.1 [3, 0, 1, 2] [4] (i_X7_put l D k _ 259 x1 (-1) t t_abytes t_length t_akinds t_aplaces t_avalues t_pieces t_at t_fault t_rkinds t_rplaces t_rvalues ⟨by omega, by omega⟩ ⟨by omega, by omega⟩ ⟨by omega, by omega⟩) (ci := 5) (q0 := 3) rfl rfl gX7_addNumber_X7_put rfl ⟨rfl, rfl, Nat.le_of_ble_eq_true rfl, Nat.le_of_ble_eq_true rfl⟩ (by decide +kernel) rfl rfl ⟨by decide, by decide, by decide⟩ ⟨rfl, rfl, Nat.le_of_ble_eq_true rfl, Nat.le_of_ble_eq_true rfl, Nat.le_of_ble_eq_true rfl⟩ dX7_addNumber_67 (fun u33 H locs hw hP hD hS => ?_)
            obtain ⟨w35, w36, w37, w38⟩ := u33
            have hP : va_P D vwCl ([(t_abytes, hcY k 400 t_rbytes), (t, .inr (5, [.ref t_abytes, .int t_length, .ref t_akinds, .ref t_aplaces, .ref t_avalues, .int w35, .int t_at, .int t_fault])), (t_akinds, hcI k 401 w36), (t_aplaces, hcI k 401 w37), (t_avalues, hcI k 401 w38)]) H := hP
            have hD : va_D A ([(t_abytes, hcY k 400 t_rbytes), (t, .inr (5, [.ref t_abytes, .int t_length, .ref t_akinds, .ref t_aplaces, .ref t_avalues, .int w35, .int t_at, .int t_fault])), (t_akinds, hcI k 401 w36), (t_aplaces, hcI k 401 w37), (t_avalues, hcI k 401 w38)]) := hD
            have bw35 := hw
            have bw35 : iv (0) (401) w35 := bw35
            have bw35_l := bw35.1
            have bw35_u := bw35.2
            refine lv_iload_n hx hb dX7_addNumber_70 rfl (lv_at hl 1 rfl) ?_
            refine lv_iconst (v := 1) hx hb dX7_addNumber_71 (by decide) ?_
            refine lv_isub hx hb dX7_addNumber_72 ?_
            refine lv_topi (fun z39 ez39 => ?_)
            have tz39 : z39.toInt = L2_1.toInt - 1 := ai_sub rfl (by decide) ez39 (by omega) (by omega)
            exact hc_end hx hb hr hlocks (w35, w36, w37, w38) ⟨⟨by omega, by omega⟩, (show iv (0) (401) w35 from ⟨by omega, by omega⟩)⟩ (hP.sub [1, 0, 2, 3, 4] rfl) (hD.sub [1, 0, 2, 3, 4] (by decide) rfl) hS dX7_addNumber_73
        · have fc23 := cx_eq_f (a := r22.toInt) (b := 0) rfl (by decide) c23
          refine lv_iload_n hx hb dX7_addNumber_23 rfl (lv_at hl 1 rfl) ?_
          refine lv_iload_n hx hb dX7_addNumber_24 rfl (lv_at hl 3 rfl) ?_
          refine lv_isub hx hb dX7_addNumber_25 ?_
          refine lv_topi (fun z40 ez40 => ?_)
          have tz40 : z40.toInt = L2_1.toInt - x1.toInt := ai_sub rfl rfl ez40 (by omega) (by omega)
          refine lv_iconst (v := 5) hx hb dX7_addNumber_26 (by decide) ?_
          refine lv_icmp_ge (tgt := 44) hx hb dX7_addNumber_27 (by decide) (fun c41 => ?_) (fun c41 => ?_)
          · have fc41 := cx_ge_t (a := z40.toInt) (b := 5) rfl (by decide) c41
            obtain ⟨z42, ez42⟩ : ∃ z : Int32, z = L2_1 + 1 := ⟨_, rfl⟩
            have tz42 : z42.toInt = L2_1.toInt + (1) := ai_add rfl (by decide) ez42 (by omega) (by omega)
            refine lv_iinc (v := z42) (lv' := [(2, .int z42), (3, .int L3_1), (0, .ref t), (1, .int x1)]) hx hb dX7_addNumber_44 hl (k := 1) rfl (by rw [ez42]; rfl) (by decide) rfl (fun ls hl => ?_)
            refine lv_goto (tgt := 4) hx hb dX7_addNumber_47 (by decide) ?_
            exact ih1 z42 L3_1 ⟨by omega, by omega⟩ (by omega) _ _ _ (hP.sub [3, 4, 0, 1, 2] rfl) (hD.sub [3, 4, 0, 1, 2] (by decide) rfl) hS (lv_sub hl [1, 0, 2, 3] rfl)
          · have fc41 := cx_ge_f (a := z40.toInt) (b := 5) rfl (by decide) c41
            refine lv_iload_n hx hb dX7_addNumber_30 rfl (lv_at hl 0 rfl) ?_
            refine lv_bipush (v := 10) hx hb dX7_addNumber_31 (by decide) ?_
            refine lv_imul hx hb dX7_addNumber_33 ?_
            refine lv_topi (fun z43 ez43 => ?_)
            refine lv_aload_n hx hb dX7_addNumber_34 rfl (lv_at hl 2 rfl) ?_
            refine lv_iload_n hx hb dX7_addNumber_35 rfl (lv_at hl 1 rfl) ?_
            refine hc_Vi (As := [.int L2_1]) (rest := [.int z43]) (n := 1) (wr := [(t_akinds, hcI k 401 t_rkinds), (t_aplaces, hcI k 401 t_rplaces), (t_avalues, hcI k 401 t_rvalues)]) hx hb hml hown hts hG hA hP hD hS hl.1 [3, 4] [0, 1, 2] (i_X7_byteAt l D k _ L2_1 t t_abytes t_length t_akinds t_aplaces t_avalues t_pieces t_at t_fault t_rbytes ⟨by omega, by omega⟩ ⟨by omega, by omega⟩ ⟨by omega, by omega⟩) (ci := 5) (q0 := 3) rfl rfl gX7_addNumber_X7_byteAt rfl ⟨rfl, rfl, Nat.le_of_ble_eq_true rfl, Nat.le_of_ble_eq_true rfl⟩ (by decide +kernel) rfl rfl ⟨by decide, by decide, by decide⟩ ⟨rfl, rfl, Nat.le_of_ble_eq_true rfl, Nat.le_of_ble_eq_true rfl, Nat.le_of_ble_eq_true rfl⟩ dX7_addNumber_36 (fun r45 u44 H locs hw hP hD hS => ?_)
            have hP : va_P D vwCl ([(t_akinds, hcI k 401 t_rkinds), (t_aplaces, hcI k 401 t_rplaces), (t_avalues, hcI k 401 t_rvalues), (t, .inr (5, [.ref t_abytes, .int t_length, .ref t_akinds, .ref t_aplaces, .ref t_avalues, .int t_pieces, .int t_at, .int t_fault])), (t_abytes, hcY k 400 t_rbytes)]) H := hP
            have hD : va_D A ([(t_akinds, hcI k 401 t_rkinds), (t_aplaces, hcI k 401 t_rplaces), (t_avalues, hcI k 401 t_rvalues), (t, .inr (5, [.ref t_abytes, .int t_length, .ref t_akinds, .ref t_aplaces, .ref t_avalues, .int t_pieces, .int t_at, .int t_fault])), (t_abytes, hcY k 400 t_rbytes)]) := hD
            have br45 := hw
            have br45 : iv (-1) (255) r45 := br45
            have br45_l := br45.1
            have br45_u := br45.2
            refine lv_iadd hx hb dX7_addNumber_39 ?_
            refine lv_topi (fun z46 ez46 => ?_)
            refine lv_bipush (v := 48) hx hb dX7_addNumber_40 (by decide) ?_
            refine lv_isub hx hb dX7_addNumber_42 ?_
            refine lv_topi (fun z47 ez47 => ?_)
            refine lv_istore_n (lv' := [(3, .int z47), (2, .int L2_1), (0, .ref t), (1, .int x1)]) hx hb dX7_addNumber_43 rfl hl (by decide) rfl (fun ls hl => ?_)
            obtain ⟨z48, ez48⟩ : ∃ z : Int32, z = L2_1 + 1 := ⟨_, rfl⟩
            have tz48 : z48.toInt = L2_1.toInt + (1) := ai_add rfl (by decide) ez48 (by omega) (by omega)
            refine lv_iinc (v := z48) (lv' := [(2, .int z48), (3, .int z47), (0, .ref t), (1, .int x1)]) hx hb dX7_addNumber_44 hl (k := 1) rfl (by rw [ez48]; rfl) (by decide) rfl (fun ls hl => ?_)
            refine lv_goto (tgt := 4) hx hb dX7_addNumber_47 (by decide) ?_
            exact ih1 z48 z47 ⟨by omega, by omega⟩ (by omega) _ _ _ (hP.sub [3, 4, 0, 1, 2] rfl) (hD.sub [3, 4, 0, 1, 2] (by decide) rfl) hS (lv_sub hl [1, 0, 2, 3] rfl)
  exact loop1 500 x1 0 ⟨by omega, by omega⟩ (by have q1 : (0 : Int32).toInt = 0 := (by decide); omega) _ _ _ hP hD hS hl
