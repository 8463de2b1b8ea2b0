/-! rules: what never breaks -/
/-! the six rules in one -/
abbrev RZ : Type := (Nat → Int32) × (Nat → Nat → Int32) × (Nat → Nat → Int64)
def RU_i (k : Nat → ClassId) (ra : Nat → Nat) (z : RZ) : va_W := [(ra 0, .inr (3, [.ref (ra 1), .ref (ra 2), .ref (ra 3), .ref (ra 4), .ref (ra 5), .int (z.1 0), .int (z.1 1), .int (z.1 2)])), (ra 1, hcI k 400 (z.2.1 0)), (ra 2, hcI k 12 (z.2.1 1)), (ra 3, hcI k 12 (z.2.1 2)), (ra 4, hcI k 12 (z.2.1 3)), (ra 5, hcJ k 60 (z.2.2 0)), (ra 6, .inr (3, [.ref (ra 7), .ref (ra 8), .ref (ra 9), .ref (ra 10), .ref (ra 11), .int (z.1 3), .int (z.1 4), .int (z.1 5)])), (ra 7, hcI k 400 (z.2.1 4)), (ra 8, hcI k 12 (z.2.1 5)), (ra 9, hcI k 12 (z.2.1 6)), (ra 10, hcI k 12 (z.2.1 7)), (ra 11, hcJ k 60 (z.2.2 1)), (ra 12, .inr (3, [.ref (ra 13), .ref (ra 14), .ref (ra 15), .ref (ra 16), .ref (ra 17), .int (z.1 6), .int (z.1 7), .int (z.1 8)])), (ra 13, hcI k 400 (z.2.1 8)), (ra 14, hcI k 12 (z.2.1 9)), (ra 15, hcI k 12 (z.2.1 10)), (ra 16, hcI k 12 (z.2.1 11)), (ra 17, hcJ k 60 (z.2.2 2)), (ra 18, .inr (3, [.ref (ra 19), .ref (ra 20), .ref (ra 21), .ref (ra 22), .ref (ra 23), .int (z.1 9), .int (z.1 10), .int (z.1 11)])), (ra 19, hcI k 400 (z.2.1 12)), (ra 20, hcI k 12 (z.2.1 13)), (ra 21, hcI k 12 (z.2.1 14)), (ra 22, hcI k 12 (z.2.1 15)), (ra 23, hcJ k 60 (z.2.2 3)), (ra 24, .inr (3, [.ref (ra 25), .ref (ra 26), .ref (ra 27), .ref (ra 28), .ref (ra 29), .int (z.1 12), .int (z.1 13), .int (z.1 14)])), (ra 25, hcI k 400 (z.2.1 16)), (ra 26, hcI k 12 (z.2.1 17)), (ra 27, hcI k 12 (z.2.1 18)), (ra 28, hcI k 12 (z.2.1 19)), (ra 29, hcJ k 60 (z.2.2 4)), (ra 30, .inr (3, [.ref (ra 31), .ref (ra 32), .ref (ra 33), .ref (ra 34), .ref (ra 35), .int (z.1 15), .int (z.1 16), .int (z.1 17)])), (ra 31, hcI k 400 (z.2.1 20)), (ra 32, hcI k 12 (z.2.1 21)), (ra 33, hcI k 12 (z.2.1 22)), (ra 34, hcI k 12 (z.2.1 23)), (ra 35, hcJ k 60 (z.2.2 5))]
def RUok (z : RZ) : Prop := (∀ i, iv 0 400 (z.1 (3 * i)) ∧ iv 0 12 (z.1 (3 * i + 1))) ∧ ∀ i, rowIn 0 400 (z.2.1 (4 * i + 1)) ∧ rowIn 0 400 (z.2.1 (4 * i + 2)) ∧ rowIn 0 400 (z.2.1 (4 * i + 3))
def RUarg (ra : Nat → Nat) (ro : Option Nat) : Prop := ro = none ∨ ro = some (ra 0) ∨ ro = some (ra 6) ∨ ro = some (ra 12) ∨ ro = some (ra 18) ∨ ro = some (ra 24) ∨ ro = some (ra 30)
def uq {α : Type} (f : Nat → α) (i : Nat) (x : α) : Nat → α := fun j => if j = i then x else f j
theorem dX3_passMinutes_0 : decode cX3_passMinutes 0 = .ok (.iconst 0, 1) := by decide +kernel
theorem dX3_passMinutes_1 : decode cX3_passMinutes 1 = .ok (.istore_n 3, 1) := by decide +kernel
theorem dX3_passMinutes_2 : decode cX3_passMinutes 2 = .ok (.iload_n 3, 1) := by decide +kernel
theorem dX3_passMinutes_3 : decode cX3_passMinutes 3 = .ok (.iload_n 1, 1) := by decide +kernel
theorem dX3_passMinutes_4 : decode cX3_passMinutes 4 = .ok (.if_icmp .ge 15, 3) := by decide +kernel
theorem dX3_passMinutes_7 : decode cX3_passMinutes 7 = .ok (.aload_n 0, 1) := by decide +kernel
theorem dX3_passMinutes_8 : decode cX3_passMinutes 8 = .ok (.aload_n 2, 1) := by decide +kernel
theorem dX3_passMinutes_9 : decode cX3_passMinutes 9 = .ok (.invokevirtual 111, 3) := by decide +kernel
theorem dX3_passMinutes_12 : decode cX3_passMinutes 12 = .ok (.pop, 1) := by decide +kernel
theorem dX3_passMinutes_13 : decode cX3_passMinutes 13 = .ok (.iinc 3 1, 3) := by decide +kernel
theorem dX3_passMinutes_16 : decode cX3_passMinutes 16 = .ok (.goto (-14), 3) := by decide +kernel
theorem dX3_passMinutes_19 : decode cX3_passMinutes 19 = .ok (.return_, 1) := by decide +kernel
set_option maxRecDepth 20000 in
theorem ggX3_passMinutes_X3_passMinute : GoodIn wsX3_passMinutes wsX3_passMinute := goodIn_r _ [5, 6, 7, 8, 9, 10, 11, 12, 4, 13, 14, 15, 16, 17, 18, 19, 20, 21, 22, 23, 24, 25, 26, 27, 28, 29, 30, 31, 32, 33, 34, 35, 36, 37, 38, 39, 40, 41, 42, 43, 44, 45, 46, 47, 48, 49, 50, 51, 52, 53, 54, 55, 56, 57, 58, 59, 60, 61, 62, 63, 64, 65, 66, 67, 68, 69, 70, 71, 72, 73, 74, 75, 76, 77, 78, 79, 80, 81, 82, 83, 84, 85, 86, 87, 88, 89, 90, 91, 92, 93, 94, 95, 96, 97, 98, 99, 100, 101, 102, 103, 104, 105, 106, 107, 108, 109] (by decide +kernel) (by decide +kernel)
set_option maxRecDepth 20000 in
theorem gX3_passMinutes_X3_passMinute : GoodIn wsX3_passMinutes (wsV RX3 111 RX3 yX3_passMinute wsX3_passMinute) := goodIn_app (goodIn_of _ (by decide +kernel)) ggX3_passMinutes_X3_passMinute
set_option maxHeartbeats 4000000 in
set_option maxRecDepth 100000 in
theorem i_J6_bitCount_0f7a4 (l : Launch) (D : va_G) (k : Nat → ClassId) (sz : Nat) (x1 : Int32)  : CtI l yJ6_bitCount_0f7a4 wsJ6_bitCount_0f7a4 (rmK 1 0 0) [.int x1] D k sz ([]) (fun (r : Int32) (u : Unit) => iv (0) (63) r) (fun u : Unit => []) 0 0 := by
  refine CtI.mk (cc := cJ6_bitCount_0f7a4) (maxL := 1) (ret := (some .int)) (by decide) rfl (Nat.le_of_ble_eq_true rfl) ?_
  intro p e s m below meth c A ls E hP hD hS hl
  obtain ⟨hx, hb, hr, hml, hown, hts, hlocks, hin, hG, hA⟩ := E
  have hown : s.vm.findClass RJ6 = some m.cls := hown
  have hl : lv_has ls 1 [(0, .int x1)] := hl
  refine lv_iload_n hx hb dJ6_bitCount_0f7a4_0 rfl (lv_at hl 0 rfl) ?_
  refine lv_iload_n hx hb dJ6_bitCount_0f7a4_1 rfl (lv_at hl 0 rfl) ?_
  refine lv_iconst (v := 1) hx hb dJ6_bitCount_0f7a4_2 (by decide) ?_
  refine lv_iushr hx hb dJ6_bitCount_0f7a4_3 rfl ?_
  refine lv_topi (fun z1 ez1 => ?_)
  refine lv_ldcw (v := 1431655765) hx hb hown (hts (.constant RJ6 265 (1431655765)) (by decide +kernel)) dJ6_bitCount_0f7a4_4 ?_
  refine lv_iand hx hb dJ6_bitCount_0f7a4_7 ?_
  refine lv_topi (fun z2 ez2 => ?_)
  refine lv_isub hx hb dJ6_bitCount_0f7a4_8 ?_
  refine lv_topi (fun z3 ez3 => ?_)
  refine lv_istore_n (lv' := [(0, .int z3)]) hx hb dJ6_bitCount_0f7a4_9 rfl hl (by decide) rfl (fun ls hl => ?_)
  refine lv_iload_n hx hb dJ6_bitCount_0f7a4_10 rfl (lv_at hl 0 rfl) ?_
  refine lv_ldcw (v := 858993459) hx hb hown (hts (.constant RJ6 266 (858993459)) (by decide +kernel)) dJ6_bitCount_0f7a4_11 ?_
  refine lv_iand hx hb dJ6_bitCount_0f7a4_14 ?_
  refine lv_topi (fun z4 ez4 => ?_)
  refine lv_iload_n hx hb dJ6_bitCount_0f7a4_15 rfl (lv_at hl 0 rfl) ?_
  refine lv_iconst (v := 2) hx hb dJ6_bitCount_0f7a4_16 (by decide) ?_
  refine lv_iushr hx hb dJ6_bitCount_0f7a4_17 rfl ?_
  refine lv_topi (fun z5 ez5 => ?_)
  refine lv_ldcw (v := 858993459) hx hb hown (hts (.constant RJ6 266 (858993459)) (by decide +kernel)) dJ6_bitCount_0f7a4_18 ?_
  refine lv_iand hx hb dJ6_bitCount_0f7a4_21 ?_
  refine lv_topi (fun z6 ez6 => ?_)
  refine lv_iadd hx hb dJ6_bitCount_0f7a4_22 ?_
  refine lv_topi (fun z7 ez7 => ?_)
  refine lv_istore_n (lv' := [(0, .int z7)]) hx hb dJ6_bitCount_0f7a4_23 rfl hl (by decide) rfl (fun ls hl => ?_)
  refine lv_iload_n hx hb dJ6_bitCount_0f7a4_24 rfl (lv_at hl 0 rfl) ?_
  refine lv_iload_n hx hb dJ6_bitCount_0f7a4_25 rfl (lv_at hl 0 rfl) ?_
  refine lv_iconst (v := 4) hx hb dJ6_bitCount_0f7a4_26 (by decide) ?_
  refine lv_iushr hx hb dJ6_bitCount_0f7a4_27 rfl ?_
  refine lv_topi (fun z8 ez8 => ?_)
  refine lv_iadd hx hb dJ6_bitCount_0f7a4_28 ?_
  refine lv_topi (fun z9 ez9 => ?_)
  refine lv_ldcw (v := 252645135) hx hb hown (hts (.constant RJ6 267 (252645135)) (by decide +kernel)) dJ6_bitCount_0f7a4_29 ?_
  refine lv_iand hx hb dJ6_bitCount_0f7a4_32 ?_
  refine lv_topi (fun z10 ez10 => ?_)
  refine lv_istore_n (lv' := [(0, .int z10)]) hx hb dJ6_bitCount_0f7a4_33 rfl hl (by decide) rfl (fun ls hl => ?_)
  refine lv_iload_n hx hb dJ6_bitCount_0f7a4_34 rfl (lv_at hl 0 rfl) ?_
  refine lv_iload_n hx hb dJ6_bitCount_0f7a4_35 rfl (lv_at hl 0 rfl) ?_
  refine lv_bipush (v := 8) hx hb dJ6_bitCount_0f7a4_36 (by decide) ?_
  refine lv_iushr hx hb dJ6_bitCount_0f7a4_38 rfl ?_
  refine lv_topi (fun z11 ez11 => ?_)
  refine lv_iadd hx hb dJ6_bitCount_0f7a4_39 ?_
  refine lv_topi (fun z12 ez12 => ?_)
  refine lv_istore_n (lv' := [(0, .int z12)]) hx hb dJ6_bitCount_0f7a4_40 rfl hl (by decide) rfl (fun ls hl => ?_)
  refine lv_iload_n hx hb dJ6_bitCount_0f7a4_41 rfl (lv_at hl 0 rfl) ?_
  refine lv_iload_n hx hb dJ6_bitCount_0f7a4_42 rfl (lv_at hl 0 rfl) ?_
  refine lv_bipush (v := 16) hx hb dJ6_bitCount_0f7a4_43 (by decide) ?_
  refine lv_iushr hx hb dJ6_bitCount_0f7a4_45 rfl ?_
  refine lv_topi (fun z13 ez13 => ?_)
  refine lv_iadd hx hb dJ6_bitCount_0f7a4_46 ?_
  refine lv_topi (fun z14 ez14 => ?_)
  refine lv_istore_n (lv' := [(0, .int z14)]) hx hb dJ6_bitCount_0f7a4_47 rfl hl (by decide) rfl (fun ls hl => ?_)
  refine lv_iload_n hx hb dJ6_bitCount_0f7a4_48 rfl (lv_at hl 0 rfl) ?_
  refine lv_bipush (v := 63) hx hb dJ6_bitCount_0f7a4_49 (by decide) ?_
  refine lv_iand hx hb dJ6_bitCount_0f7a4_51 ?_
  refine lv_topi (fun z15 ez15 => ?_)
  have bz15 : iv (0) (63) z15 := ai_mask 6 (by decide) (by decide) ez15
  have bz15_l := bz15.1
  have bz15_u := bz15.2
  exact hc_end hx hb hr hlocks () (⟨by omega, by omega⟩) hP hD hS dJ6_bitCount_0f7a4_52
set_option maxHeartbeats 4000000 in
set_option maxRecDepth 100000 in
theorem i_X3_wordOf (l : Launch) (D : va_G) (k : Nat → ClassId) (sz : Nat) (x1 : Int32) (x2 : Int32) (r : Nat) (r_told : Int32) (r_strands : Int32) (r_chairs : Int32) (r_sitters : Int32) (r_atoldCane : Nat) (r_aheight : Nat) (r_astrandOf : Nat) (r_achairOf : Nat) (r_aweight : Nat) (r_acane : Nat) (r_sits : Int32) (r_dropped : Int32) (r_minute : Int32) (r_aload : Nat) (r_aheads : Nat) (r_held : Int32) (r_heldDown : Int32) (r_rheight : Nat → Int32) (r_rstrandOf : Nat → Int32) (r_rchairOf : Nat → Int32) (r_rweight : Nat → Int32) (r_rcane : Nat → Int32) (r_rload : Nat → Int32) (r_rheads : Nat → Int32) (h_r_told : iv (0) (1) r_told) (h_r_strands : iv (0) (4) r_strands) (h_r_chairs : iv (0) (8) r_chairs) (h_r_sitters : iv (0) (8) r_sitters) (h_r_rstrandOf : rowIn (0) (3) r_rstrandOf) (h_r_rchairOf : rowIn (0) (7) r_rchairOf) : CtI l yX3_wordOf wsX3_wordOf (rmK 2 0 0) [.ref r, .int x1, .int x2] D k sz ([(r, .inr (2, [.int r_told, .int r_strands, .int r_chairs, .int r_sitters, .ref r_atoldCane, .ref r_aheight, .ref r_astrandOf, .ref r_achairOf, .ref r_aweight, .ref r_acane, .int r_sits, .int r_dropped, .int r_minute, .ref r_aload, .ref r_aheads, .int r_held, .int r_heldDown])), (r_aheight, hcI k 8 r_rheight), (r_astrandOf, hcI k 8 r_rstrandOf), (r_achairOf, hcI k 8 r_rchairOf), (r_aweight, hcI k 8 r_rweight), (r_acane, hcI k 4 r_rcane), (r_aload, hcI k 4 r_rload), (r_aheads, hcI k 4 r_rheads)]) (fun (r : Int32) (u : Unit) => True) (fun u : Unit => [(r, .inr (2, [.int r_told, .int r_strands, .int r_chairs, .int r_sitters, .ref r_atoldCane, .ref r_aheight, .ref r_astrandOf, .ref r_achairOf, .ref r_aweight, .ref r_acane, .int r_sits, .int r_dropped, .int r_minute, .ref r_aload, .ref r_aheads, .int r_held, .int r_heldDown])), (r_aheight, hcI k 8 r_rheight), (r_astrandOf, hcI k 8 r_rstrandOf), (r_achairOf, hcI k 8 r_rchairOf), (r_aweight, hcI k 8 r_rweight), (r_acane, hcI k 4 r_rcane), (r_aload, hcI k 4 r_rload), (r_aheads, hcI k 4 r_rheads)]) 0 0 := by
  have h_r_told_l := h_r_told.1
  have h_r_told_u := h_r_told.2
  have h_r_strands_l := h_r_strands.1
  have h_r_strands_u := h_r_strands.2
  have h_r_chairs_l := h_r_chairs.1
  have h_r_chairs_u := h_r_chairs.2
  have h_r_sitters_l := h_r_sitters.1
  have h_r_sitters_u := h_r_sitters.2
  refine CtI.mk (cc := cX3_wordOf) (maxL := 5) (ret := (some .int)) (by decide) rfl (Nat.le_of_ble_eq_true rfl) ?_
  intro p e s m below meth c A ls E hP hD hS hl
  obtain ⟨hx, hb, hr, hml, hown, hts, hlocks, hin, hG, hA⟩ := E
  have hown : s.vm.findClass RX3 = some m.cls := hown
  have in3 : ∀ w ∈ u_ws RX3 TX3 17, w ∈ wsX3_wordOf := fun _ h => List.mem_cons_of_mem _ (List.mem_append_right _ h)
  have hl : lv_has ls 5 [(0, .ref r), (1, .int x1), (2, .int x2)] := hl
  refine lv_aload_n hx hb dX3_wordOf_0 rfl (lv_at hl 0 rfl) ?_
  refine lv_iload_n hx hb dX3_wordOf_1 rfl (lv_at hl 2 rfl) ?_
  refine hc_Vi (As := [.int x2]) (rest := []) (n := 1) (wr := [(r_aheight, hcI k 8 r_rheight), (r_astrandOf, hcI k 8 r_rstrandOf), (r_achairOf, hcI k 8 r_rchairOf), (r_aweight, hcI k 8 r_rweight), (r_acane, hcI k 4 r_rcane), (r_aload, hcI k 4 r_rload), (r_aheads, hcI k 4 r_rheads)]) hx hb hml hown hts hG hA hP hD hS hl.1 [0] [1, 2, 3, 4, 5, 6, 7] (i_X3_hasSitter l D k _ x2 r r_told r_strands r_chairs r_sitters r_atoldCane r_aheight r_astrandOf r_achairOf r_aweight r_acane r_sits r_dropped r_minute r_aload r_aheads r_held r_heldDown ⟨by omega, by omega⟩ ⟨by omega, by omega⟩ ⟨by omega, by omega⟩ ⟨by omega, by omega⟩) (ci := 2) (q0 := 0) rfl rfl gX3_wordOf_X3_hasSitter rfl ⟨rfl, rfl, Nat.le_of_ble_eq_true rfl, Nat.le_of_ble_eq_true rfl⟩ (by decide +kernel) rfl rfl ⟨by decide, by decide, by decide⟩ ⟨rfl, rfl, Nat.le_of_ble_eq_true rfl, Nat.le_of_ble_eq_true rfl, Nat.le_of_ble_eq_true rfl⟩ dX3_wordOf_2 (fun r2 u1 H locs hw hP hD hS => ?_)
  have hP : va_P D vwCl ([(r_aheight, hcI k 8 r_rheight), (r_astrandOf, hcI k 8 r_rstrandOf), (r_achairOf, hcI k 8 r_rchairOf), (r_aweight, hcI k 8 r_rweight), (r_acane, hcI k 4 r_rcane), (r_aload, hcI k 4 r_rload), (r_aheads, hcI k 4 r_rheads), (r, .inr (2, [.int r_told, .int r_strands, .int r_chairs, .int r_sitters, .ref r_atoldCane, .ref r_aheight, .ref r_astrandOf, .ref r_achairOf, .ref r_aweight, .ref r_acane, .int r_sits, .int r_dropped, .int r_minute, .ref r_aload, .ref r_aheads, .int r_held, .int r_heldDown]))]) H := hP
  have hD : va_D A ([(r_aheight, hcI k 8 r_rheight), (r_astrandOf, hcI k 8 r_rstrandOf), (r_achairOf, hcI k 8 r_rchairOf), (r_aweight, hcI k 8 r_rweight), (r_acane, hcI k 4 r_rcane), (r_aload, hcI k 4 r_rload), (r_aheads, hcI k 4 r_rheads), (r, .inr (2, [.int r_told, .int r_strands, .int r_chairs, .int r_sitters, .ref r_atoldCane, .ref r_aheight, .ref r_astrandOf, .ref r_achairOf, .ref r_aweight, .ref r_acane, .int r_sits, .int r_dropped, .int r_minute, .ref r_aload, .ref r_aheads, .int r_held, .int r_heldDown]))]) := hD
  obtain ⟨br2, rel3⟩ := hw
  have br2 : iv (0) (1) r2 := br2
  have br2_l := br2.1
  have br2_u := br2.2
  refine lv_if_ne (tgt := 10) hx hb dX3_wordOf_5 (by decide) (fun c4 => ?_) (fun c4 => ?_)
  · have fc4 := cx_ne_t (a := r2.toInt) (b := 0) rfl (by decide) c4
    refine lv_aload_n hx hb dX3_wordOf_10 rfl (lv_at hl 0 rfl) ?_
    refine va_get (D := D) (ci := 2) (v := .ref r_astrandOf) (C := RX3) (T := TX3) (N := 17) hx hb hts in3 hown hG.1 hP 7 rfl rfl 6 (by decide) (hts (.fieldLink RX3 32 "ChairCane$Room" "strandOf" "[I") (by decide +kernel)) (fun _ h9 => h9) rfl dX3_wordOf_11 ?_
    refine lv_aload_n hx hb dX3_wordOf_14 rfl (lv_at hl 0 rfl) ?_
    refine va_get (D := D) (ci := 2) (v := .ref r_achairOf) (C := RX3) (T := TX3) (N := 17) hx hb hts in3 hown hG.1 hP 7 rfl rfl 7 (by decide) (hts (.fieldLink RX3 35 "ChairCane$Room" "chairOf" "[I") (by decide +kernel)) (fun _ h9 => h9) rfl dX3_wordOf_15 ?_
    refine lv_iload_n hx hb dX3_wordOf_18 rfl (lv_at hl 2 rfl) ?_
    refine va_iald hx hb hG.1 hP 2 0 rfl rfl (vp_in_iff.mpr ⟨by omega, by omega⟩) dX3_wordOf_19 ?_
    refine lv_topi (fun z5 ez5 => ?_)
    have bz5 : iv (0) (7) z5 := by rw [ez5]; exact h_r_rchairOf _
    have bz5_l := bz5.1
    have bz5_u := bz5.2
    refine va_iald hx hb hG.1 hP 1 0 rfl rfl (vp_in_iff.mpr ⟨by omega, by omega⟩) dX3_wordOf_20 ?_
    refine lv_topi (fun z6 ez6 => ?_)
    have bz6 : iv (0) (3) z6 := by rw [ez6]; exact h_r_rstrandOf _
    have bz6_l := bz6.1
    have bz6_u := bz6.2
    refine lv_istore_n (lv' := [(3, .int z6), (0, .ref r), (1, .int x1), (2, .int x2)]) hx hb dX3_wordOf_21 rfl hl (by decide) rfl (fun ls hl => ?_)
    refine lv_aload_n hx hb dX3_wordOf_22 rfl (lv_at hl 1 rfl) ?_
    refine lv_iload_n hx hb dX3_wordOf_23 rfl (lv_at hl 3 rfl) ?_
    refine hc_Vi (As := [.int x2]) (rest := []) (n := 1) (wr := [(r_aheight, hcI k 8 r_rheight), (r_astrandOf, hcI k 8 r_rstrandOf), (r_achairOf, hcI k 8 r_rchairOf), (r_aweight, hcI k 8 r_rweight), (r_acane, hcI k 4 r_rcane), (r_aload, hcI k 4 r_rload), (r_aheads, hcI k 4 r_rheads)]) hx hb hml hown hts hG hA hP hD hS hl.1 [7] [0, 1, 2, 3, 4, 5, 6] (i_X3_isDown l D k _ x2 r r_told r_strands r_chairs r_sitters r_atoldCane r_aheight r_astrandOf r_achairOf r_aweight r_acane r_sits r_dropped r_minute r_aload r_aheads r_held r_heldDown ⟨by omega, by omega⟩ ⟨by omega, by omega⟩ ⟨by omega, by omega⟩ ⟨by omega, by omega⟩) (ci := 2) (q0 := 7) rfl rfl gX3_wordOf_X3_isDown rfl ⟨rfl, rfl, Nat.le_of_ble_eq_true rfl, Nat.le_of_ble_eq_true rfl⟩ (by decide +kernel) rfl rfl ⟨by decide, by decide, by decide⟩ ⟨rfl, rfl, Nat.le_of_ble_eq_true rfl, Nat.le_of_ble_eq_true rfl, Nat.le_of_ble_eq_true rfl⟩ dX3_wordOf_24 (fun r8 u7 H locs hw hP hD hS => ?_)
    have hP : va_P D vwCl ([(r_aheight, hcI k 8 r_rheight), (r_astrandOf, hcI k 8 r_rstrandOf), (r_achairOf, hcI k 8 r_rchairOf), (r_aweight, hcI k 8 r_rweight), (r_acane, hcI k 4 r_rcane), (r_aload, hcI k 4 r_rload), (r_aheads, hcI k 4 r_rheads), (r, .inr (2, [.int r_told, .int r_strands, .int r_chairs, .int r_sitters, .ref r_atoldCane, .ref r_aheight, .ref r_astrandOf, .ref r_achairOf, .ref r_aweight, .ref r_acane, .int r_sits, .int r_dropped, .int r_minute, .ref r_aload, .ref r_aheads, .int r_held, .int r_heldDown]))]) H := hP
    have hD : va_D A ([(r_aheight, hcI k 8 r_rheight), (r_astrandOf, hcI k 8 r_rstrandOf), (r_achairOf, hcI k 8 r_rchairOf), (r_aweight, hcI k 8 r_rweight), (r_acane, hcI k 4 r_rcane), (r_aload, hcI k 4 r_rload), (r_aheads, hcI k 4 r_rheads), (r, .inr (2, [.int r_told, .int r_strands, .int r_chairs, .int r_sitters, .ref r_atoldCane, .ref r_aheight, .ref r_astrandOf, .ref r_achairOf, .ref r_aweight, .ref r_acane, .int r_sits, .int r_dropped, .int r_minute, .ref r_aload, .ref r_aheads, .int r_held, .int r_heldDown]))]) := hD
    obtain ⟨br8, rel9⟩ := hw
    have br8 : iv (0) (1) r8 := br8
    have br8_l := br8.1
    have br8_u := br8.2
    refine lv_istore (lv' := [(4, .int r8), (3, .int z6), (0, .ref r), (1, .int x1), (2, .int x2)]) hx hb dX3_wordOf_27 hl (by decide) rfl (fun ls hl => ?_)
    refine lv_iload_n hx hb dX3_wordOf_29 rfl (lv_at hl 3 rfl) ?_
    rcases (show (x1.toInt = 260) ∨ (x1.toInt = 261) ∨ (x1.toInt = 262) ∨ (x1.toInt = 263) ∨ (x1.toInt = 264) ∨ (x1.toInt = 265) ∨ (x1.toInt = 266) ∨ (x1.toInt = 267) ∨ (x1.toInt = 268) ∨ (x1.toInt = 269) ∨ (x1.toInt = 270) ∨ (x1.toInt < 260 ∨ 270 < x1.toInt) from by omega) with s10 | s10 | s10 | s10 | s10 | s10 | s10 | s10 | s10 | s10 | s10 | s10
    · refine lv_tableIn (off := 58) (tgt := 88) hx hb dX3_wordOf_30 (by omega) (by omega) (by rw [s10]; rfl) (by decide) ?_
      refine lv_iload_n hx hb dX3_wordOf_88 rfl (lv_at hl 4 rfl) ?_
      exact hc_end hx hb hr hlocks () trivial (hP.sub [7, 0, 1, 2, 3, 4, 5, 6] rfl) (hD.sub [7, 0, 1, 2, 3, 4, 5, 6] (by decide) rfl) hS dX3_wordOf_89
    · refine lv_tableIn (off := 60) (tgt := 90) hx hb dX3_wordOf_30 (by omega) (by omega) (by rw [s10]; rfl) (by decide) ?_
      refine lv_aload_n hx hb dX3_wordOf_90 rfl (lv_at hl 2 rfl) ?_
      refine va_get (D := D) (ci := 2) (v := .ref r_achairOf) (C := RX3) (T := TX3) (N := 17) hx hb hts in3 hown hG.1 hP 7 rfl rfl 7 (by decide) (hts (.fieldLink RX3 35 "ChairCane$Room" "chairOf" "[I") (by decide +kernel)) (fun _ h9 => h9) rfl dX3_wordOf_91 ?_
      refine lv_iload_n hx hb dX3_wordOf_94 rfl (lv_at hl 4 rfl) ?_
      refine va_iald hx hb hG.1 hP 2 0 rfl rfl (vp_in_iff.mpr ⟨by omega, by omega⟩) dX3_wordOf_95 ?_
      refine hc_is (z := z5) ez5.symm ?_
      exact hc_end hx hb hr hlocks () trivial (hP.sub [7, 0, 1, 2, 3, 4, 5, 6] rfl) (hD.sub [7, 0, 1, 2, 3, 4, 5, 6] (by decide) rfl) hS dX3_wordOf_96
    · refine lv_tableIn (off := 67) (tgt := 97) hx hb dX3_wordOf_30 (by omega) (by omega) (by rw [s10]; rfl) (by decide) ?_
      refine lv_aload_n hx hb dX3_wordOf_97 rfl (lv_at hl 2 rfl) ?_
      refine va_get (D := D) (ci := 2) (v := .ref r_aweight) (C := RX3) (T := TX3) (N := 17) hx hb hts in3 hown hG.1 hP 7 rfl rfl 8 (by decide) (hts (.fieldLink RX3 38 "ChairCane$Room" "weight" "[I") (by decide +kernel)) (fun _ h9 => h9) rfl dX3_wordOf_98 ?_
      refine lv_iload_n hx hb dX3_wordOf_101 rfl (lv_at hl 4 rfl) ?_
      refine va_iald hx hb hG.1 hP 3 0 rfl rfl (vp_in_iff.mpr ⟨by omega, by omega⟩) dX3_wordOf_102 ?_
      refine lv_topi (fun z11 ez11 => ?_)
      exact hc_end hx hb hr hlocks () trivial (hP.sub [7, 0, 1, 2, 3, 4, 5, 6] rfl) (hD.sub [7, 0, 1, 2, 3, 4, 5, 6] (by decide) rfl) hS dX3_wordOf_103
    · refine lv_tableIn (off := 74) (tgt := 104) hx hb dX3_wordOf_30 (by omega) (by omega) (by rw [s10]; rfl) (by decide) ?_
      refine lv_aload_n hx hb dX3_wordOf_104 rfl (lv_at hl 2 rfl) ?_
      refine va_get (D := D) (ci := 2) (v := .ref r_aheight) (C := RX3) (T := TX3) (N := 17) hx hb hts in3 hown hG.1 hP 7 rfl rfl 5 (by decide) (hts (.fieldLink RX3 29 "ChairCane$Room" "height" "[I") (by decide +kernel)) (fun _ h9 => h9) rfl dX3_wordOf_105 ?_
      refine lv_aload_n hx hb dX3_wordOf_108 rfl (lv_at hl 2 rfl) ?_
      refine va_get (D := D) (ci := 2) (v := .ref r_achairOf) (C := RX3) (T := TX3) (N := 17) hx hb hts in3 hown hG.1 hP 7 rfl rfl 7 (by decide) (hts (.fieldLink RX3 35 "ChairCane$Room" "chairOf" "[I") (by decide +kernel)) (fun _ h9 => h9) rfl dX3_wordOf_109 ?_
      refine lv_iload_n hx hb dX3_wordOf_112 rfl (lv_at hl 4 rfl) ?_
      refine va_iald hx hb hG.1 hP 2 0 rfl rfl (vp_in_iff.mpr ⟨by omega, by omega⟩) dX3_wordOf_113 ?_
      refine hc_is (z := z5) ez5.symm ?_
      refine va_iald hx hb hG.1 hP 0 0 rfl rfl (vp_in_iff.mpr ⟨by omega, by omega⟩) dX3_wordOf_114 ?_
      refine lv_topi (fun z12 ez12 => ?_)
      exact hc_end hx hb hr hlocks () trivial (hP.sub [7, 0, 1, 2, 3, 4, 5, 6] rfl) (hD.sub [7, 0, 1, 2, 3, 4, 5, 6] (by decide) rfl) hS dX3_wordOf_115
    · refine lv_tableIn (off := 86) (tgt := 116) hx hb dX3_wordOf_30 (by omega) (by omega) (by rw [s10]; rfl) (by decide) ?_
      refine lv_aload_n hx hb dX3_wordOf_116 rfl (lv_at hl 2 rfl) ?_
      refine va_get (D := D) (ci := 2) (v := .ref r_acane) (C := RX3) (T := TX3) (N := 17) hx hb hts in3 hown hG.1 hP 7 rfl rfl 9 (by decide) (hts (.fieldLink RX3 41 "ChairCane$Room" "cane" "[I") (by decide +kernel)) (fun _ h9 => h9) rfl dX3_wordOf_117 ?_
      refine lv_iload_n hx hb dX3_wordOf_120 rfl (lv_at hl 1 rfl) ?_
      refine va_iald hx hb hG.1 hP 4 0 rfl rfl (vp_in_iff.mpr ⟨by omega, by omega⟩) dX3_wordOf_121 ?_
      refine lv_topi (fun z13 ez13 => ?_)
      exact hc_end hx hb hr hlocks () trivial (hP.sub [7, 0, 1, 2, 3, 4, 5, 6] rfl) (hD.sub [7, 0, 1, 2, 3, 4, 5, 6] (by decide) rfl) hS dX3_wordOf_122
    · refine lv_tableIn (off := 93) (tgt := 123) hx hb dX3_wordOf_30 (by omega) (by omega) (by rw [s10]; rfl) (by decide) ?_
      refine lv_iload hx hb dX3_wordOf_123 (lv_at hl 0 rfl) ?_
      refine lv_if_eq (tgt := 132) hx hb dX3_wordOf_125 (by decide) (fun c14 => ?_) (fun c14 => ?_)
      · have fc14 := cx_eq_t (a := r8.toInt) (b := 0) rfl (by decide) c14
        refine lv_iconst (v := 0) hx hb dX3_wordOf_132 (by decide) ?_
        exact hc_end hx hb hr hlocks () trivial (hP.sub [7, 0, 1, 2, 3, 4, 5, 6] rfl) (hD.sub [7, 0, 1, 2, 3, 4, 5, 6] (by decide) rfl) hS dX3_wordOf_133
      · have fc14 := cx_eq_f (a := r8.toInt) (b := 0) rfl (by decide) c14
        refine lv_iconst (v := 1) hx hb dX3_wordOf_128 (by decide) ?_
        refine lv_goto (tgt := 133) hx hb dX3_wordOf_129 (by decide) ?_
        exact hc_end hx hb hr hlocks () trivial (hP.sub [7, 0, 1, 2, 3, 4, 5, 6] rfl) (hD.sub [7, 0, 1, 2, 3, 4, 5, 6] (by decide) rfl) hS dX3_wordOf_133
    · refine lv_tableIn (off := 104) (tgt := 134) hx hb dX3_wordOf_30 (by omega) (by omega) (by rw [s10]; rfl) (by decide) ?_
      refine lv_aload_n hx hb dX3_wordOf_134 rfl (lv_at hl 2 rfl) ?_
      refine lv_iload_n hx hb dX3_wordOf_135 rfl (lv_at hl 4 rfl) ?_
      refine hc_Vi (As := [.int x2]) (rest := []) (n := 1) (wr := [(r_aheight, hcI k 8 r_rheight), (r_aheads, hcI k 4 r_rheads)]) hx hb hml hown hts hG hA hP hD hS hl.1 [7, 1, 2, 3, 4, 5] [0, 6] (i_X3_givesUnder l D k _ x2 r r_told r_strands r_chairs r_sitters r_atoldCane r_aheight r_astrandOf r_achairOf r_aweight r_acane r_sits r_dropped r_minute r_aload r_aheads r_held r_heldDown r_rstrandOf r_rchairOf r_rweight r_rcane r_rload ⟨by omega, by omega⟩ ⟨by omega, by omega⟩ ⟨by omega, by omega⟩ ⟨by omega, by omega⟩ h_r_rstrandOf h_r_rchairOf) (ci := 2) (q0 := 7) rfl rfl gX3_wordOf_X3_givesUnder rfl ⟨rfl, rfl, Nat.le_of_ble_eq_true rfl, Nat.le_of_ble_eq_true rfl⟩ (by decide +kernel) rfl rfl ⟨by decide, by decide, by decide⟩ ⟨rfl, rfl, Nat.le_of_ble_eq_true rfl, Nat.le_of_ble_eq_true rfl, Nat.le_of_ble_eq_true rfl⟩ dX3_wordOf_136 (fun r16 u15 H locs hw hP hD hS => ?_)
      have hP : va_P D vwCl ([(r_aheight, hcI k 8 r_rheight), (r_aheads, hcI k 4 r_rheads), (r, .inr (2, [.int r_told, .int r_strands, .int r_chairs, .int r_sitters, .ref r_atoldCane, .ref r_aheight, .ref r_astrandOf, .ref r_achairOf, .ref r_aweight, .ref r_acane, .int r_sits, .int r_dropped, .int r_minute, .ref r_aload, .ref r_aheads, .int r_held, .int r_heldDown])), (r_astrandOf, hcI k 8 r_rstrandOf), (r_achairOf, hcI k 8 r_rchairOf), (r_aweight, hcI k 8 r_rweight), (r_acane, hcI k 4 r_rcane), (r_aload, hcI k 4 r_rload)]) H := hP
      have hD : va_D A ([(r_aheight, hcI k 8 r_rheight), (r_aheads, hcI k 4 r_rheads), (r, .inr (2, [.int r_told, .int r_strands, .int r_chairs, .int r_sitters, .ref r_atoldCane, .ref r_aheight, .ref r_astrandOf, .ref r_achairOf, .ref r_aweight, .ref r_acane, .int r_sits, .int r_dropped, .int r_minute, .ref r_aload, .ref r_aheads, .int r_held, .int r_heldDown])), (r_astrandOf, hcI k 8 r_rstrandOf), (r_achairOf, hcI k 8 r_rchairOf), (r_aweight, hcI k 8 r_rweight), (r_acane, hcI k 4 r_rcane), (r_aload, hcI k 4 r_rload)]) := hD
      exact hc_end hx hb hr hlocks () trivial (hP.sub [2, 0, 3, 4, 5, 6, 7, 1] rfl) (hD.sub [2, 0, 3, 4, 5, 6, 7, 1] (by decide) rfl) hS dX3_wordOf_139
    · refine lv_tableIn (off := 110) (tgt := 140) hx hb dX3_wordOf_30 (by omega) (by omega) (by rw [s10]; rfl) (by decide) ?_
      refine lv_iload hx hb dX3_wordOf_140 (lv_at hl 0 rfl) ?_
      refine lv_if_eq (tgt := 156) hx hb dX3_wordOf_142 (by decide) (fun c17 => ?_) (fun c17 => ?_)
      · have fc17 := cx_eq_t (a := r8.toInt) (b := 0) rfl (by decide) c17
        refine lv_aload_n hx hb dX3_wordOf_156 rfl (lv_at hl 2 rfl) ?_
        refine va_get (D := D) (ci := 2) (v := .ref r_aheads) (C := RX3) (T := TX3) (N := 17) hx hb hts in3 hown hG.1 hP 7 rfl rfl 14 (by decide) (hts (.fieldLink RX3 56 "ChairCane$Room" "heads" "[I") (by decide +kernel)) (fun _ h9 => h9) rfl dX3_wordOf_157 ?_
        refine lv_iload_n hx hb dX3_wordOf_160 rfl (lv_at hl 1 rfl) ?_
        refine va_iald hx hb hG.1 hP 6 0 rfl rfl (vp_in_iff.mpr ⟨by omega, by omega⟩) dX3_wordOf_161 ?_
        refine lv_topi (fun z18 ez18 => ?_)
        exact hc_end hx hb hr hlocks () trivial (hP.sub [7, 0, 1, 2, 3, 4, 5, 6] rfl) (hD.sub [7, 0, 1, 2, 3, 4, 5, 6] (by decide) rfl) hS dX3_wordOf_162
      · have fc17 := cx_eq_f (a := r8.toInt) (b := 0) rfl (by decide) c17
        refine lv_aload_n hx hb dX3_wordOf_145 rfl (lv_at hl 2 rfl) ?_
        refine va_get (D := D) (ci := 2) (v := .ref r_aheads) (C := RX3) (T := TX3) (N := 17) hx hb hts in3 hown hG.1 hP 7 rfl rfl 14 (by decide) (hts (.fieldLink RX3 56 "ChairCane$Room" "heads" "[I") (by decide +kernel)) (fun _ h9 => h9) rfl dX3_wordOf_146 ?_
        refine lv_iload_n hx hb dX3_wordOf_149 rfl (lv_at hl 1 rfl) ?_
        refine va_iald hx hb hG.1 hP 6 0 rfl rfl (vp_in_iff.mpr ⟨by omega, by omega⟩) dX3_wordOf_150 ?_
        refine lv_topi (fun z19 ez19 => ?_)
        refine lv_iconst (v := 1) hx hb dX3_wordOf_151 (by decide) ?_
        refine lv_isub hx hb dX3_wordOf_152 ?_
        refine lv_topi (fun z20 ez20 => ?_)
        refine lv_goto (tgt := 162) hx hb dX3_wordOf_153 (by decide) ?_
        exact hc_end hx hb hr hlocks () trivial (hP.sub [7, 0, 1, 2, 3, 4, 5, 6] rfl) (hD.sub [7, 0, 1, 2, 3, 4, 5, 6] (by decide) rfl) hS dX3_wordOf_162
    · refine lv_tableIn (off := 133) (tgt := 163) hx hb dX3_wordOf_30 (by omega) (by omega) (by rw [s10]; rfl) (by decide) ?_
      refine lv_iload hx hb dX3_wordOf_163 (lv_at hl 0 rfl) ?_
      refine lv_if_eq (tgt := 184) hx hb dX3_wordOf_165 (by decide) (fun c21 => ?_) (fun c21 => ?_)
      · have fc21 := cx_eq_t (a := r8.toInt) (b := 0) rfl (by decide) c21
        refine lv_aload_n hx hb dX3_wordOf_184 rfl (lv_at hl 2 rfl) ?_
        refine va_get (D := D) (ci := 2) (v := .ref r_aload) (C := RX3) (T := TX3) (N := 17) hx hb hts in3 hown hG.1 hP 7 rfl rfl 13 (by decide) (hts (.fieldLink RX3 53 "ChairCane$Room" "load" "[I") (by decide +kernel)) (fun _ h9 => h9) rfl dX3_wordOf_185 ?_
        refine lv_iload_n hx hb dX3_wordOf_188 rfl (lv_at hl 1 rfl) ?_
        refine va_iald hx hb hG.1 hP 5 0 rfl rfl (vp_in_iff.mpr ⟨by omega, by omega⟩) dX3_wordOf_189 ?_
        refine lv_topi (fun z22 ez22 => ?_)
        exact hc_end hx hb hr hlocks () trivial (hP.sub [7, 0, 1, 2, 3, 4, 5, 6] rfl) (hD.sub [7, 0, 1, 2, 3, 4, 5, 6] (by decide) rfl) hS dX3_wordOf_190
      · have fc21 := cx_eq_f (a := r8.toInt) (b := 0) rfl (by decide) c21
        refine lv_aload_n hx hb dX3_wordOf_168 rfl (lv_at hl 2 rfl) ?_
        refine va_get (D := D) (ci := 2) (v := .ref r_aload) (C := RX3) (T := TX3) (N := 17) hx hb hts in3 hown hG.1 hP 7 rfl rfl 13 (by decide) (hts (.fieldLink RX3 53 "ChairCane$Room" "load" "[I") (by decide +kernel)) (fun _ h9 => h9) rfl dX3_wordOf_169 ?_
        refine lv_iload_n hx hb dX3_wordOf_172 rfl (lv_at hl 1 rfl) ?_
        refine va_iald hx hb hG.1 hP 5 0 rfl rfl (vp_in_iff.mpr ⟨by omega, by omega⟩) dX3_wordOf_173 ?_
        refine lv_topi (fun z23 ez23 => ?_)
        refine lv_aload_n hx hb dX3_wordOf_174 rfl (lv_at hl 2 rfl) ?_
        refine va_get (D := D) (ci := 2) (v := .ref r_aweight) (C := RX3) (T := TX3) (N := 17) hx hb hts in3 hown hG.1 hP 7 rfl rfl 8 (by decide) (hts (.fieldLink RX3 38 "ChairCane$Room" "weight" "[I") (by decide +kernel)) (fun _ h9 => h9) rfl dX3_wordOf_175 ?_
        refine lv_iload_n hx hb dX3_wordOf_178 rfl (lv_at hl 4 rfl) ?_
        refine va_iald hx hb hG.1 hP 3 0 rfl rfl (vp_in_iff.mpr ⟨by omega, by omega⟩) dX3_wordOf_179 ?_
        refine lv_topi (fun z24 ez24 => ?_)
        refine lv_isub hx hb dX3_wordOf_180 ?_
        refine lv_topi (fun z25 ez25 => ?_)
        refine lv_goto (tgt := 190) hx hb dX3_wordOf_181 (by decide) ?_
        exact hc_end hx hb hr hlocks () trivial (hP.sub [7, 0, 1, 2, 3, 4, 5, 6] rfl) (hD.sub [7, 0, 1, 2, 3, 4, 5, 6] (by decide) rfl) hS dX3_wordOf_190
    · refine lv_tableIn (off := 161) (tgt := 191) hx hb dX3_wordOf_30 (by omega) (by omega) (by rw [s10]; rfl) (by decide) ?_
      refine lv_aload_n hx hb dX3_wordOf_191 rfl (lv_at hl 2 rfl) ?_
      refine va_get (D := D) (ci := 2) (v := .int r_dropped) (C := RX3) (T := TX3) (N := 17) hx hb hts in3 hown hG.1 hP 7 rfl rfl 11 (by decide) (hts (.fieldLink RX3 47 "ChairCane$Room" "dropped" "I") (by decide +kernel)) (fun _ h9 => h9) rfl dX3_wordOf_192 ?_
      refine hc_Si (As := [.int r_dropped]) (rest := []) (n := 1) (wr := [(r_aheight, hcI k 8 r_rheight), (r_astrandOf, hcI k 8 r_rstrandOf), (r_achairOf, hcI k 8 r_rchairOf), (r_aweight, hcI k 8 r_rweight), (r_acane, hcI k 4 r_rcane), (r_aload, hcI k 4 r_rload), (r_aheads, hcI k 4 r_rheads), (r, .inr (2, [.int r_told, .int r_strands, .int r_chairs, .int r_sitters, .ref r_atoldCane, .ref r_aheight, .ref r_astrandOf, .ref r_achairOf, .ref r_aweight, .ref r_acane, .int r_sits, .int r_dropped, .int r_minute, .ref r_aload, .ref r_aheads, .int r_held, .int r_heldDown]))]) hx hb hml hown hts hG hA hP hD hS hl.1 [] [0, 1, 2, 3, 4, 5, 6, 7] (i_J6_bitCount_0f7a4 l D k _ r_dropped ) gX3_wordOf_J6_bitCount_0f7a4 rfl ⟨rfl, rfl, Nat.le_of_ble_eq_true rfl, Nat.le_of_ble_eq_true rfl⟩ (by decide +kernel) rfl rfl ⟨by decide, by decide, by decide⟩ ⟨rfl, rfl, Nat.le_of_ble_eq_true rfl, Nat.le_of_ble_eq_true rfl, Nat.le_of_ble_eq_true rfl⟩ dX3_wordOf_195 (fun r27 u26 H locs hw hP hD hS => ?_)
      have hP : va_P D vwCl ([(r_aheight, hcI k 8 r_rheight), (r_astrandOf, hcI k 8 r_rstrandOf), (r_achairOf, hcI k 8 r_rchairOf), (r_aweight, hcI k 8 r_rweight), (r_acane, hcI k 4 r_rcane), (r_aload, hcI k 4 r_rload), (r_aheads, hcI k 4 r_rheads), (r, .inr (2, [.int r_told, .int r_strands, .int r_chairs, .int r_sitters, .ref r_atoldCane, .ref r_aheight, .ref r_astrandOf, .ref r_achairOf, .ref r_aweight, .ref r_acane, .int r_sits, .int r_dropped, .int r_minute, .ref r_aload, .ref r_aheads, .int r_held, .int r_heldDown]))]) H := hP
      have hD : va_D A ([(r_aheight, hcI k 8 r_rheight), (r_astrandOf, hcI k 8 r_rstrandOf), (r_achairOf, hcI k 8 r_rchairOf), (r_aweight, hcI k 8 r_rweight), (r_acane, hcI k 4 r_rcane), (r_aload, hcI k 4 r_rload), (r_aheads, hcI k 4 r_rheads), (r, .inr (2, [.int r_told, .int r_strands, .int r_chairs, .int r_sitters, .ref r_atoldCane, .ref r_aheight, .ref r_astrandOf, .ref r_achairOf, .ref r_aweight, .ref r_acane, .int r_sits, .int r_dropped, .int r_minute, .ref r_aload, .ref r_aheads, .int r_held, .int r_heldDown]))]) := hD
      have br27 := hw
      have br27 : iv (0) (63) r27 := br27
      have br27_l := br27.1
      have br27_u := br27.2
      exact hc_end hx hb hr hlocks () trivial (hP.sub [7, 0, 1, 2, 3, 4, 5, 6] rfl) (hD.sub [7, 0, 1, 2, 3, 4, 5, 6] (by decide) rfl) hS dX3_wordOf_198
    · refine lv_tableIn (off := 169) (tgt := 199) hx hb dX3_wordOf_30 (by omega) (by omega) (by rw [s10]; rfl) (by decide) ?_
      refine lv_aload_n hx hb dX3_wordOf_199 rfl (lv_at hl 2 rfl) ?_
      refine va_get (D := D) (ci := 2) (v := .int r_minute) (C := RX3) (T := TX3) (N := 17) hx hb hts in3 hown hG.1 hP 7 rfl rfl 12 (by decide) (hts (.fieldLink RX3 50 "ChairCane$Room" "minute" "I") (by decide +kernel)) (fun _ h9 => h9) rfl dX3_wordOf_200 ?_
      exact hc_end hx hb hr hlocks () trivial (hP.sub [7, 0, 1, 2, 3, 4, 5, 6] rfl) (hD.sub [7, 0, 1, 2, 3, 4, 5, 6] (by decide) rfl) hS dX3_wordOf_203
    · refine lv_tableOut (tgt := 204) hx hb dX3_wordOf_30 (by omega) (by decide) ?_
      refine lv_iconst (v := 0) hx hb dX3_wordOf_204 (by decide) ?_
      exact hc_end hx hb hr hlocks () trivial (hP.sub [7, 0, 1, 2, 3, 4, 5, 6] rfl) (hD.sub [7, 0, 1, 2, 3, 4, 5, 6] (by decide) rfl) hS dX3_wordOf_205
  · have fc4 := cx_ne_f (a := r2.toInt) (b := 0) rfl (by decide) c4
    refine lv_iconst (v := 0) hx hb dX3_wordOf_8 (by decide) ?_
    exact hc_end hx hb hr hlocks () trivial (hP.sub [7, 0, 1, 2, 3, 4, 5, 6] rfl) (hD.sub [7, 0, 1, 2, 3, 4, 5, 6] (by decide) rfl) hS dX3_wordOf_9
set_option maxHeartbeats 4000000 in
set_option maxRecDepth 100000 in
theorem i_X4_combine (l : Launch) (D : va_G) (k : Nat → ClassId) (sz : Nat) (x1 : Int32) (y1 : Int64) (y2 : Int64)  : CtL l yX4_combine wsX4_combine (rmK 1 0 0) [.int x1, .long y1, .long y2] D k sz ([]) (fun (r : Int64) (u : Unit) => True) (fun u : Unit => []) 0 0 := by
  refine CtL.mk (cc := cX4_combine) (maxL := 5) (ret := (some .long)) (by decide) rfl (Nat.le_of_ble_eq_true rfl) ?_
  intro p e s m below meth c A ls E hP hD hS hl
  obtain ⟨hx, hb, hr, hml, hown, hts, hlocks, hin, hG, hA⟩ := E
  have hown : s.vm.findClass RX4 = some m.cls := hown
  have hl : lv_has ls 5 [(0, .int x1), (1, .long y1), (3, .long y2)] := hl
  refine lv_iload_n hx hb dX4_combine_0 rfl (lv_at hl 0 rfl) ?_
  rcases (show (x1.toInt = 37) ∨ (x1.toInt = 42) ∨ (x1.toInt = 43) ∨ (x1.toInt = 45) ∨ (x1.toInt = 47) ∨ (x1.toInt = 60) ∨ (x1.toInt = 61) ∨ (x1.toInt = 62) ∨ (x1.toInt = 256) ∨ (x1.toInt = 257) ∨ (x1.toInt = 275) ∨ (x1.toInt = 276) ∨ (x1.toInt ≠ 37 ∧ x1.toInt ≠ 42 ∧ x1.toInt ≠ 43 ∧ x1.toInt ≠ 45 ∧ x1.toInt ≠ 47 ∧ x1.toInt ≠ 60 ∧ x1.toInt ≠ 61 ∧ x1.toInt ≠ 62 ∧ x1.toInt ≠ 256 ∧ x1.toInt ≠ 257 ∧ x1.toInt ≠ 275 ∧ x1.toInt ≠ 276) from by omega) with s1 | s1 | s1 | s1 | s1 | s1 | s1 | s1 | s1 | s1 | s1 | s1 | s1
  · refine lv_lookup (off := 133) (tgt := 134) hx hb dX4_combine_1 (by decide) (by rw [s1]; rfl) (by decide) ?_
    refine lv_lload_n hx hb dX4_combine_134 rfl (lv_at hl 2 rfl) ?_
    refine lv_lconst (v := 0) hx hb dX4_combine_135 (by decide) ?_
    refine W.lcmp hx hb dX4_combine_136 ?_
    refine lv_topi (fun z2 ez2 => ?_)
    refine lv_if_ne (tgt := 144) hx hb dX4_combine_137 (by decide) (fun c3 => ?_) (fun c3 => ?_)
    · have fc3 := cx_ne_t (a := z2.toInt) (b := 0) rfl (by decide) c3
      have nzc3 : ¬ y2 = 0 := lcmp_nz ez2 c3
      refine lv_lload_n hx hb dX4_combine_144 rfl (lv_at hl 1 rfl) ?_
      refine lv_lload_n hx hb dX4_combine_145 rfl (lv_at hl 2 rfl) ?_
      refine lv_lrem hx hb dX4_combine_146 nzc3 ?_
      refine lv_topl (fun y4 ey4 => ?_)
      exact hc_endL hx hb hr hlocks () trivial hP hD hS dX4_combine_147
    · have fc3 := cx_ne_f (a := z2.toInt) (b := 0) rfl (by decide) c3
      refine lv_lconst (v := 0) hx hb dX4_combine_140 (by decide) ?_
      refine lv_goto (tgt := 147) hx hb dX4_combine_141 (by decide) ?_
      exact hc_endL hx hb hr hlocks () trivial hP hD hS dX4_combine_147
  · refine lv_lookup (off := 115) (tgt := 116) hx hb dX4_combine_1 (by decide) (by rw [s1]; rfl) (by decide) ?_
    refine lv_lload_n hx hb dX4_combine_116 rfl (lv_at hl 1 rfl) ?_
    refine lv_lload_n hx hb dX4_combine_117 rfl (lv_at hl 2 rfl) ?_
    refine lv_lmul hx hb dX4_combine_118 ?_
    refine lv_topl (fun y5 ey5 => ?_)
    exact hc_endL hx hb hr hlocks () trivial hP hD hS dX4_combine_119
  · refine lv_lookup (off := 107) (tgt := 108) hx hb dX4_combine_1 (by decide) (by rw [s1]; rfl) (by decide) ?_
    refine lv_lload_n hx hb dX4_combine_108 rfl (lv_at hl 1 rfl) ?_
    refine lv_lload_n hx hb dX4_combine_109 rfl (lv_at hl 2 rfl) ?_
    refine lv_ladd hx hb dX4_combine_110 ?_
    refine lv_topl (fun y6 ey6 => ?_)
    exact hc_endL hx hb hr hlocks () trivial hP hD hS dX4_combine_111
  · refine lv_lookup (off := 111) (tgt := 112) hx hb dX4_combine_1 (by decide) (by rw [s1]; rfl) (by decide) ?_
    refine lv_lload_n hx hb dX4_combine_112 rfl (lv_at hl 1 rfl) ?_
    refine lv_lload_n hx hb dX4_combine_113 rfl (lv_at hl 2 rfl) ?_
    refine lv_lsub hx hb dX4_combine_114 ?_
    refine lv_topl (fun y7 ey7 => ?_)
    exact hc_endL hx hb hr hlocks () trivial hP hD hS dX4_combine_115
  · refine lv_lookup (off := 119) (tgt := 120) hx hb dX4_combine_1 (by decide) (by rw [s1]; rfl) (by decide) ?_
    refine lv_lload_n hx hb dX4_combine_120 rfl (lv_at hl 2 rfl) ?_
    refine lv_lconst (v := 0) hx hb dX4_combine_121 (by decide) ?_
    refine W.lcmp hx hb dX4_combine_122 ?_
    refine lv_topi (fun z8 ez8 => ?_)
    refine lv_if_ne (tgt := 130) hx hb dX4_combine_123 (by decide) (fun c9 => ?_) (fun c9 => ?_)
    · have fc9 := cx_ne_t (a := z8.toInt) (b := 0) rfl (by decide) c9
      have nzc9 : ¬ y2 = 0 := lcmp_nz ez8 c9
      refine lv_lload_n hx hb dX4_combine_130 rfl (lv_at hl 1 rfl) ?_
      refine lv_lload_n hx hb dX4_combine_131 rfl (lv_at hl 2 rfl) ?_
      refine lv_ldiv hx hb dX4_combine_132 nzc9 ?_
      refine lv_topl (fun y10 ey10 => ?_)
      exact hc_endL hx hb hr hlocks () trivial hP hD hS dX4_combine_133
    · have fc9 := cx_ne_f (a := z8.toInt) (b := 0) rfl (by decide) c9
      refine lv_lconst (v := 0) hx hb dX4_combine_126 (by decide) ?_
      refine lv_goto (tgt := 133) hx hb dX4_combine_127 (by decide) ?_
      exact hc_endL hx hb hr hlocks () trivial hP hD hS dX4_combine_133
  · refine lv_lookup (off := 147) (tgt := 148) hx hb dX4_combine_1 (by decide) (by rw [s1]; rfl) (by decide) ?_
    refine lv_lload_n hx hb dX4_combine_148 rfl (lv_at hl 1 rfl) ?_
    refine lv_lload_n hx hb dX4_combine_149 rfl (lv_at hl 2 rfl) ?_
    refine W.lcmp hx hb dX4_combine_150 ?_
    refine lv_topi (fun z11 ez11 => ?_)
    refine lv_if_ge (tgt := 158) hx hb dX4_combine_151 (by decide) (fun c12 => ?_) (fun c12 => ?_)
    · have fc12 := cx_ge_t (a := z11.toInt) (b := 0) rfl (by decide) c12
      refine lv_lconst (v := 0) hx hb dX4_combine_158 (by decide) ?_
      exact hc_endL hx hb hr hlocks () trivial hP hD hS dX4_combine_159
    · have fc12 := cx_ge_f (a := z11.toInt) (b := 0) rfl (by decide) c12
      refine lv_lconst (v := 1) hx hb dX4_combine_154 (by decide) ?_
      refine lv_goto (tgt := 159) hx hb dX4_combine_155 (by decide) ?_
      exact hc_endL hx hb hr hlocks () trivial hP hD hS dX4_combine_159
  · refine lv_lookup (off := 171) (tgt := 172) hx hb dX4_combine_1 (by decide) (by rw [s1]; rfl) (by decide) ?_
    refine lv_lload_n hx hb dX4_combine_172 rfl (lv_at hl 1 rfl) ?_
    refine lv_lload_n hx hb dX4_combine_173 rfl (lv_at hl 2 rfl) ?_
    refine W.lcmp hx hb dX4_combine_174 ?_
    refine lv_topi (fun z13 ez13 => ?_)
    refine lv_if_ne (tgt := 182) hx hb dX4_combine_175 (by decide) (fun c14 => ?_) (fun c14 => ?_)
    · have fc14 := cx_ne_t (a := z13.toInt) (b := 0) rfl (by decide) c14
      refine lv_lconst (v := 0) hx hb dX4_combine_182 (by decide) ?_
      exact hc_endL hx hb hr hlocks () trivial hP hD hS dX4_combine_183
    · have fc14 := cx_ne_f (a := z13.toInt) (b := 0) rfl (by decide) c14
      refine lv_lconst (v := 1) hx hb dX4_combine_178 (by decide) ?_
      refine lv_goto (tgt := 183) hx hb dX4_combine_179 (by decide) ?_
      exact hc_endL hx hb hr hlocks () trivial hP hD hS dX4_combine_183
  · refine lv_lookup (off := 195) (tgt := 196) hx hb dX4_combine_1 (by decide) (by rw [s1]; rfl) (by decide) ?_
    refine lv_lload_n hx hb dX4_combine_196 rfl (lv_at hl 1 rfl) ?_
    refine lv_lload_n hx hb dX4_combine_197 rfl (lv_at hl 2 rfl) ?_
    refine W.lcmp hx hb dX4_combine_198 ?_
    refine lv_topi (fun z15 ez15 => ?_)
    refine lv_if_le (tgt := 206) hx hb dX4_combine_199 (by decide) (fun c16 => ?_) (fun c16 => ?_)
    · have fc16 := cx_le_t (a := z15.toInt) (b := 0) rfl (by decide) c16
      refine lv_lconst (v := 0) hx hb dX4_combine_206 (by decide) ?_
      exact hc_endL hx hb hr hlocks () trivial hP hD hS dX4_combine_207
    · have fc16 := cx_le_f (a := z15.toInt) (b := 0) rfl (by decide) c16
      refine lv_lconst (v := 1) hx hb dX4_combine_202 (by decide) ?_
      refine lv_goto (tgt := 207) hx hb dX4_combine_203 (by decide) ?_
      exact hc_endL hx hb hr hlocks () trivial hP hD hS dX4_combine_207
  · refine lv_lookup (off := 159) (tgt := 160) hx hb dX4_combine_1 (by decide) (by rw [s1]; rfl) (by decide) ?_
    refine lv_lload_n hx hb dX4_combine_160 rfl (lv_at hl 1 rfl) ?_
    refine lv_lload_n hx hb dX4_combine_161 rfl (lv_at hl 2 rfl) ?_
    refine W.lcmp hx hb dX4_combine_162 ?_
    refine lv_topi (fun z17 ez17 => ?_)
    refine lv_if_gt (tgt := 170) hx hb dX4_combine_163 (by decide) (fun c18 => ?_) (fun c18 => ?_)
    · have fc18 := cx_gt_t (a := z17.toInt) (b := 0) rfl (by decide) c18
      refine lv_lconst (v := 0) hx hb dX4_combine_170 (by decide) ?_
      exact hc_endL hx hb hr hlocks () trivial hP hD hS dX4_combine_171
    · have fc18 := cx_gt_f (a := z17.toInt) (b := 0) rfl (by decide) c18
      refine lv_lconst (v := 1) hx hb dX4_combine_166 (by decide) ?_
      refine lv_goto (tgt := 171) hx hb dX4_combine_167 (by decide) ?_
      exact hc_endL hx hb hr hlocks () trivial hP hD hS dX4_combine_171
  · refine lv_lookup (off := 183) (tgt := 184) hx hb dX4_combine_1 (by decide) (by rw [s1]; rfl) (by decide) ?_
    refine lv_lload_n hx hb dX4_combine_184 rfl (lv_at hl 1 rfl) ?_
    refine lv_lload_n hx hb dX4_combine_185 rfl (lv_at hl 2 rfl) ?_
    refine W.lcmp hx hb dX4_combine_186 ?_
    refine lv_topi (fun z19 ez19 => ?_)
    refine lv_if_lt (tgt := 194) hx hb dX4_combine_187 (by decide) (fun c20 => ?_) (fun c20 => ?_)
    · have fc20 := cx_lt_t (a := z19.toInt) (b := 0) rfl (by decide) c20
      refine lv_lconst (v := 0) hx hb dX4_combine_194 (by decide) ?_
      exact hc_endL hx hb hr hlocks () trivial hP hD hS dX4_combine_195
    · have fc20 := cx_lt_f (a := z19.toInt) (b := 0) rfl (by decide) c20
      refine lv_lconst (v := 1) hx hb dX4_combine_190 (by decide) ?_
      refine lv_goto (tgt := 195) hx hb dX4_combine_191 (by decide) ?_
      exact hc_endL hx hb hr hlocks () trivial hP hD hS dX4_combine_195
  · refine lv_lookup (off := 211) (tgt := 212) hx hb dX4_combine_1 (by decide) (by rw [s1]; rfl) (by decide) ?_
    refine lv_lload_n hx hb dX4_combine_212 rfl (lv_at hl 1 rfl) ?_
    refine lv_lload_n hx hb dX4_combine_213 rfl (lv_at hl 2 rfl) ?_
    refine lv_lor hx hb dX4_combine_214 ?_
    refine lv_topl (fun y21 ey21 => ?_)
    exact hc_endL hx hb hr hlocks () trivial hP hD hS dX4_combine_215
  · refine lv_lookup (off := 207) (tgt := 208) hx hb dX4_combine_1 (by decide) (by rw [s1]; rfl) (by decide) ?_
    refine lv_lload_n hx hb dX4_combine_208 rfl (lv_at hl 1 rfl) ?_
    refine lv_lload_n hx hb dX4_combine_209 rfl (lv_at hl 2 rfl) ?_
    refine lv_land hx hb dX4_combine_210 ?_
    refine lv_topl (fun y22 ey22 => ?_)
    exact hc_endL hx hb hr hlocks () trivial hP hD hS dX4_combine_211
  · refine lv_lookup (off := 215) (tgt := 216) hx hb dX4_combine_1 (by decide) (by show Op.lookupswitch.offset [(37, 133), (42, 115), (43, 107), (45, 111), (47, 119), (60, 147), (61, 171), (62, 195), (256, 159), (257, 183), (275, 211), (276, 207)] _ _ = _; rw [Op.lookupswitch.offset_cons, if_neg (by omega), Op.lookupswitch.offset_cons, if_neg (by omega), Op.lookupswitch.offset_cons, if_neg (by omega), Op.lookupswitch.offset_cons, if_neg (by omega), Op.lookupswitch.offset_cons, if_neg (by omega), Op.lookupswitch.offset_cons, if_neg (by omega), Op.lookupswitch.offset_cons, if_neg (by omega), Op.lookupswitch.offset_cons, if_neg (by omega), Op.lookupswitch.offset_cons, if_neg (by omega), Op.lookupswitch.offset_cons, if_neg (by omega), Op.lookupswitch.offset_cons, if_neg (by omega), Op.lookupswitch.offset_cons, if_neg (by omega), Op.lookupswitch.offset_nil]) (by decide) ?_
    refine lv_lconst (v := 0) hx hb dX4_combine_216 (by decide) ?_
    exact hc_endL hx hb hr hlocks () trivial hP hD hS dX4_combine_217
set_option maxHeartbeats 4000000 in
set_option maxRecDepth 100000 in
theorem i_X4_reckon (l : Launch) (D : va_G) (k : Nat → ClassId) (sz : Nat) (x1 : Int32) (x2 : Int32) (x3 : Int32) (ru : Nat) (ru_asteps : Nat) (ru_asumFrom : Nat) (ru_asumTo : Nat) (ru_atestTo : Nat) (ru_astack : Nat) (ru_length : Int32) (ru_clauses : Int32) (ru_units : Int32) (ru_rsteps : Nat → Int32) (ru_rstack : Nat → Int64) (r : Nat) (r_told : Int32) (r_strands : Int32) (r_chairs : Int32) (r_sitters : Int32) (r_atoldCane : Nat) (r_aheight : Nat) (r_astrandOf : Nat) (r_achairOf : Nat) (r_aweight : Nat) (r_acane : Nat) (r_sits : Int32) (r_dropped : Int32) (r_minute : Int32) (r_aload : Nat) (r_aheads : Nat) (r_held : Int32) (r_heldDown : Int32) (r_rheight : Nat → Int32) (r_rstrandOf : Nat → Int32) (r_rchairOf : Nat → Int32) (r_rweight : Nat → Int32) (r_rcane : Nat → Int32) (r_rload : Nat → Int32) (r_rheads : Nat → Int32) (h_x1 : iv (0) (400) x1) (h_x2 : iv (0) (400) x2) (h_ru_length : iv (0) (400) ru_length) (h_ru_clauses : iv (0) (12) ru_clauses) (h_r_told : iv (0) (1) r_told) (h_r_strands : iv (0) (4) r_strands) (h_r_chairs : iv (0) (8) r_chairs) (h_r_sitters : iv (0) (8) r_sitters) (h_r_rstrandOf : rowIn (0) (3) r_rstrandOf) (h_r_rchairOf : rowIn (0) (7) r_rchairOf) : CtL l yX4_reckon wsX4_reckon (rmK 3 0 0) [.ref ru, .int x1, .int x2, .int x3, .ref r] D k sz ([(ru, .inr (3, [.ref ru_asteps, .ref ru_asumFrom, .ref ru_asumTo, .ref ru_atestTo, .ref ru_astack, .int ru_length, .int ru_clauses, .int ru_units])), (ru_asteps, hcI k 400 ru_rsteps), (ru_astack, hcJ k 60 ru_rstack), (r, .inr (2, [.int r_told, .int r_strands, .int r_chairs, .int r_sitters, .ref r_atoldCane, .ref r_aheight, .ref r_astrandOf, .ref r_achairOf, .ref r_aweight, .ref r_acane, .int r_sits, .int r_dropped, .int r_minute, .ref r_aload, .ref r_aheads, .int r_held, .int r_heldDown])), (r_aheight, hcI k 8 r_rheight), (r_astrandOf, hcI k 8 r_rstrandOf), (r_achairOf, hcI k 8 r_rchairOf), (r_aweight, hcI k 8 r_rweight), (r_acane, hcI k 4 r_rcane), (r_aload, hcI k 4 r_rload), (r_aheads, hcI k 4 r_rheads)]) (fun (r : Int64) (u : (Nat → Int64)) => True) (fun u : (Nat → Int64) => [(ru, .inr (3, [.ref ru_asteps, .ref ru_asumFrom, .ref ru_asumTo, .ref ru_atestTo, .ref ru_astack, .int ru_length, .int ru_clauses, .int ru_units])), (ru_asteps, hcI k 400 ru_rsteps), (ru_astack, hcJ k 60 (u)), (r, .inr (2, [.int r_told, .int r_strands, .int r_chairs, .int r_sitters, .ref r_atoldCane, .ref r_aheight, .ref r_astrandOf, .ref r_achairOf, .ref r_aweight, .ref r_acane, .int r_sits, .int r_dropped, .int r_minute, .ref r_aload, .ref r_aheads, .int r_held, .int r_heldDown])), (r_aheight, hcI k 8 r_rheight), (r_astrandOf, hcI k 8 r_rstrandOf), (r_achairOf, hcI k 8 r_rchairOf), (r_aweight, hcI k 8 r_rweight), (r_acane, hcI k 4 r_rcane), (r_aload, hcI k 4 r_rload), (r_aheads, hcI k 4 r_rheads)]) 0 0 := by
  have h_x1_l := h_x1.1
  have h_x1_u := h_x1.2
  have h_x2_l := h_x2.1
  have h_x2_u := h_x2.2
  have h_ru_length_l := h_ru_length.1
  have h_ru_length_u := h_ru_length.2
  have h_ru_clauses_l := h_ru_clauses.1
  have h_ru_clauses_u := h_ru_clauses.2
  have h_r_told_l := h_r_told.1
  have h_r_told_u := h_r_told.2
  have h_r_strands_l := h_r_strands.1
  have h_r_strands_u := h_r_strands.2
  have h_r_chairs_l := h_r_chairs.1
  have h_r_chairs_u := h_r_chairs.2
  have h_r_sitters_l := h_r_sitters.1
  have h_r_sitters_u := h_r_sitters.2
  refine CtL.mk (cc := cX4_reckon) (maxL := 9) (ret := (some .long)) (by decide) rfl (Nat.le_of_ble_eq_true rfl) ?_
  intro p e s m below meth c A ls E hP hD hS hl
  obtain ⟨hx, hb, hr, hml, hown, hts, hlocks, hin, hG, hA⟩ := E
  have hown : s.vm.findClass RX4 = some m.cls := hown
  have in3 : ∀ w ∈ u_ws RX3 TX3 17, w ∈ wsX4_reckon := fun _ h => List.mem_cons_of_mem _ (List.mem_append_right _ h)
  have in4 : ∀ w ∈ u_ws RX4 TX4 8, w ∈ wsX4_reckon := fun _ h => List.mem_cons_of_mem _ (List.mem_append_left _ (List.mem_append_right _ h))
  have hl : lv_has ls 9 [(0, .ref ru), (1, .int x1), (2, .int x2), (3, .int x3), (4, .ref r)] := hl
  refine lv_iconst (v := 0) hx hb dX4_reckon_0 (by decide) ?_
  refine lv_istore (lv' := [(5, .int 0), (0, .ref ru), (1, .int x1), (2, .int x2), (3, .int x3), (4, .ref r)]) hx hb dX4_reckon_1 hl (by decide) rfl (fun ls hl => ?_)
  refine lv_iload_n hx hb dX4_reckon_3 rfl (lv_at hl 2 rfl) ?_
  refine lv_istore (lv' := [(6, .int x1), (5, .int 0), (0, .ref ru), (1, .int x1), (2, .int x2), (3, .int x3), (4, .ref r)]) hx hb dX4_reckon_4 hl (by decide) rfl (fun ls hl => ?_)
  have loop1 : ∀ (fu : Nat) (L5_1 : Int32) (L6_1 : Int32) (g_1ru_astack : Nat → Int64), iv (0) (60) L5_1 → iv (0) (400) L6_1 → 401 - L6_1.toInt < (fu : Int) → ∀ (H : Heap) (locs : List Loc) (ls : Array Slot), va_P D vwCl ([(ru, .inr (3, [.ref ru_asteps, .ref ru_asumFrom, .ref ru_asumTo, .ref ru_atestTo, .ref ru_astack, .int ru_length, .int ru_clauses, .int ru_units])), (ru_asteps, hcI k 400 ru_rsteps), (ru_astack, hcJ k 60 g_1ru_astack), (r, .inr (2, [.int r_told, .int r_strands, .int r_chairs, .int r_sitters, .ref r_atoldCane, .ref r_aheight, .ref r_astrandOf, .ref r_achairOf, .ref r_aweight, .ref r_acane, .int r_sits, .int r_dropped, .int r_minute, .ref r_aload, .ref r_aheads, .int r_held, .int r_heldDown])), (r_aheight, hcI k 8 r_rheight), (r_astrandOf, hcI k 8 r_rstrandOf), (r_achairOf, hcI k 8 r_rchairOf), (r_aweight, hcI k 8 r_rweight), (r_acane, hcI k 4 r_rcane), (r_aload, hcI k 4 r_rload), (r_aheads, hcI k 4 r_rheads)]) H → va_D A ([(ru, .inr (3, [.ref ru_asteps, .ref ru_asumFrom, .ref ru_asumTo, .ref ru_atestTo, .ref ru_astack, .int ru_length, .int ru_clauses, .int ru_units])), (ru_asteps, hcI k 400 ru_rsteps), (ru_astack, hcJ k 60 g_1ru_astack), (r, .inr (2, [.int r_told, .int r_strands, .int r_chairs, .int r_sitters, .ref r_atoldCane, .ref r_aheight, .ref r_astrandOf, .ref r_achairOf, .ref r_aweight, .ref r_acane, .int r_sits, .int r_dropped, .int r_minute, .ref r_aload, .ref r_aheads, .int r_held, .int r_heldDown])), (r_aheight, hcI k 8 r_rheight), (r_astrandOf, hcI k 8 r_rstrandOf), (r_achairOf, hcI k 8 r_rchairOf), (r_aweight, hcI k 8 r_rweight), (r_acane, hcI k 4 r_rcane), (r_aload, hcI k 4 r_rload), (r_aheads, hcI k 4 r_rheads)]) → va_S A s.heap H locs → lv_has ls 9 [(6, .int L6_1), (5, .int L5_1), (0, .ref ru), (1, .int x1), (2, .int x2), (3, .int x3), (4, .ref r)] → W p l e (rmK 3 0 0) s m (List.toArray [.ref ru, .int x1, .int x2, .int x3, .ref r]) below meth c H locs 0 0 (MQ below (va_Ql (fun (r : Int64) (u : (Nat → Int64)) => True) (hcB D (fun u : (Nat → Int64) => [(ru, .inr (3, [.ref ru_asteps, .ref ru_asumFrom, .ref ru_asumTo, .ref ru_atestTo, .ref ru_astack, .int ru_length, .int ru_clauses, .int ru_units])), (ru_asteps, hcI k 400 ru_rsteps), (ru_astack, hcJ k 60 (u)), (r, .inr (2, [.int r_told, .int r_strands, .int r_chairs, .int r_sitters, .ref r_atoldCane, .ref r_aheight, .ref r_astrandOf, .ref r_achairOf, .ref r_aweight, .ref r_acane, .int r_sits, .int r_dropped, .int r_minute, .ref r_aload, .ref r_aheads, .int r_held, .int r_heldDown])), (r_aheight, hcI k 8 r_rheight), (r_astrandOf, hcI k 8 r_rstrandOf), (r_achairOf, hcI k 8 r_rchairOf), (r_aweight, hcI k 8 r_rweight), (r_acane, hcI k 4 r_rcane), (r_aload, hcI k 4 r_rload), (r_aheads, hcI k 4 r_rheads)]) A) A) (List.toArray [.ref ru, .int x1, .int x2, .int x3, .ref r]) s 0 0 A) (F0 m 6 ls []) := by
    intro fu
    induction fu with
    | zero =>
      intro L5_1 L6_1 g_1ru_astack bL5_1 bL6_1 hm
      have bL5_1_l := bL5_1.1
      have bL5_1_u := bL5_1.2
      have bL6_1_l := bL6_1.1
      have bL6_1_u := bL6_1.2
      exact absurd hm (by omega)
    | succ fu ih1 =>
      intro L5_1 L6_1 g_1ru_astack bL5_1 bL6_1 hm H locs ls hP hD hS hl
      have bL5_1_l := bL5_1.1
      have bL5_1_u := bL5_1.2
      have bL6_1_l := bL6_1.1
      have bL6_1_u := bL6_1.2
      refine lv_iload hx hb dX4_reckon_6 (lv_at hl 0 rfl) ?_
      refine lv_iload_n hx hb dX4_reckon_8 rfl (lv_at hl 4 rfl) ?_
      refine lv_icmp_ge (tgt := 191) hx hb dX4_reckon_9 (by decide) (fun c2 => ?_) (fun c2 => ?_)
      · have fc2 := cx_ge_t (a := L6_1.toInt) (b := x2.toInt) rfl rfl c2
        refine lv_iload hx hb dX4_reckon_191 (lv_at hl 1 rfl) ?_
        refine lv_if_le (tgt := 208) hx hb dX4_reckon_193 (by decide) (fun c3 => ?_) (fun c3 => ?_)
        · have fc3 := cx_le_t (a := L5_1.toInt) (b := 0) rfl (by decide) c3
          refine lv_lconst (v := 0) hx hb dX4_reckon_208 (by decide) ?_
          exact hc_endL hx hb hr hlocks (g_1ru_astack) trivial hP hD hS dX4_reckon_209
        · have fc3 := cx_le_f (a := L5_1.toInt) (b := 0) rfl (by decide) c3
          refine lv_aload_n hx hb dX4_reckon_196 rfl (lv_at hl 2 rfl) ?_
          refine va_get (D := D) (ci := 3) (v := .ref ru_astack) (C := RX4) (T := TX4) (N := 8) hx hb hts in4 hown hG.1 hP 0 rfl rfl 4 (by decide) (hts (.fieldLink RX4 24 "ChairCane$Rule" "stack" "[J") (by decide +kernel)) (fun _ h9 => h9) rfl dX4_reckon_197 ?_
          refine lv_iload hx hb dX4_reckon_200 (lv_at hl 1 rfl) ?_
          refine lv_iconst (v := 1) hx hb dX4_reckon_202 (by decide) ?_
          refine lv_isub hx hb dX4_reckon_203 ?_
          refine lv_topi (fun z4 ez4 => ?_)
          have tz4 : z4.toInt = L5_1.toInt - 1 := ai_sub rfl (by decide) ez4 (by omega) (by omega)
          refine va_lald hx hb hG.1 hP 2 3 rfl rfl (vp_in_iff.mpr ⟨by omega, by omega⟩) dX4_reckon_204 ?_
          refine lv_topl (fun y5 ey5 => ?_)
          refine lv_goto (tgt := 209) hx hb dX4_reckon_205 (by decide) ?_
          exact hc_endL hx hb hr hlocks (g_1ru_astack) trivial hP hD hS dX4_reckon_209
      · have fc2 := cx_ge_f (a := L6_1.toInt) (b := x2.toInt) rfl rfl c2
        refine lv_iload hx hb dX4_reckon_12 (lv_at hl 0 rfl) ?_
        refine lv_aload_n hx hb dX4_reckon_14 rfl (lv_at hl 2 rfl) ?_
        refine va_get (D := D) (ci := 3) (v := .int ru_length) (C := RX4) (T := TX4) (N := 8) hx hb hts in4 hown hG.1 hP 0 rfl rfl 5 (by decide) (hts (.fieldLink RX4 28 "ChairCane$Rule" "length" "I") (by decide +kernel)) (fun _ h9 => h9) rfl dX4_reckon_15 ?_
        refine lv_icmp_ge (tgt := 191) hx hb dX4_reckon_18 (by decide) (fun c6 => ?_) (fun c6 => ?_)
        · have fc6 := cx_ge_t (a := L6_1.toInt) (b := ru_length.toInt) rfl rfl c6
          refine lv_iload hx hb dX4_reckon_191 (lv_at hl 1 rfl) ?_
          refine lv_if_le (tgt := 208) hx hb dX4_reckon_193 (by decide) (fun c7 => ?_) (fun c7 => ?_)
          · have fc7 := cx_le_t (a := L5_1.toInt) (b := 0) rfl (by decide) c7
            refine lv_lconst (v := 0) hx hb dX4_reckon_208 (by decide) ?_
            exact hc_endL hx hb hr hlocks (g_1ru_astack) trivial hP hD hS dX4_reckon_209
          · have fc7 := cx_le_f (a := L5_1.toInt) (b := 0) rfl (by decide) c7
            refine lv_aload_n hx hb dX4_reckon_196 rfl (lv_at hl 2 rfl) ?_
            refine va_get (D := D) (ci := 3) (v := .ref ru_astack) (C := RX4) (T := TX4) (N := 8) hx hb hts in4 hown hG.1 hP 0 rfl rfl 4 (by decide) (hts (.fieldLink RX4 24 "ChairCane$Rule" "stack" "[J") (by decide +kernel)) (fun _ h9 => h9) rfl dX4_reckon_197 ?_
            refine lv_iload hx hb dX4_reckon_200 (lv_at hl 1 rfl) ?_
            refine lv_iconst (v := 1) hx hb dX4_reckon_202 (by decide) ?_
            refine lv_isub hx hb dX4_reckon_203 ?_
            refine lv_topi (fun z8 ez8 => ?_)
            have tz8 : z8.toInt = L5_1.toInt - 1 := ai_sub rfl (by decide) ez8 (by omega) (by omega)
            refine va_lald hx hb hG.1 hP 2 3 rfl rfl (vp_in_iff.mpr ⟨by omega, by omega⟩) dX4_reckon_204 ?_
            refine lv_topl (fun y9 ey9 => ?_)
            refine lv_goto (tgt := 209) hx hb dX4_reckon_205 (by decide) ?_
            exact hc_endL hx hb hr hlocks (g_1ru_astack) trivial hP hD hS dX4_reckon_209
        · have fc6 := cx_ge_f (a := L6_1.toInt) (b := ru_length.toInt) rfl rfl c6
          refine lv_aload_n hx hb dX4_reckon_21 rfl (lv_at hl 2 rfl) ?_
          refine va_get (D := D) (ci := 3) (v := .ref ru_asteps) (C := RX4) (T := TX4) (N := 8) hx hb hts in4 hown hG.1 hP 0 rfl rfl 0 (by decide) (hts (.fieldLink RX4 9 "ChairCane$Rule" "steps" "[I") (by decide +kernel)) (fun _ h9 => h9) rfl dX4_reckon_22 ?_
          refine lv_iload hx hb dX4_reckon_25 (lv_at hl 0 rfl) ?_
          refine va_iald hx hb hG.1 hP 1 0 rfl rfl (vp_in_iff.mpr ⟨by omega, by omega⟩) dX4_reckon_27 ?_
          refine lv_topi (fun z10 ez10 => ?_)
          refine lv_istore (lv' := [(7, .int z10), (6, .int L6_1), (5, .int L5_1), (0, .ref ru), (1, .int x1), (2, .int x2), (3, .int x3), (4, .ref r)]) hx hb dX4_reckon_28 hl (by decide) rfl (fun ls hl => ?_)
          refine lv_iload hx hb dX4_reckon_30 (lv_at hl 0 rfl) ?_
          refine lv_sipush (v := 1000) hx hb dX4_reckon_32 (by decide) ?_
          refine lv_icmp_lt (tgt := 42) hx hb dX4_reckon_35 (by decide) (fun c11 => ?_) (fun c11 => ?_)
          · have fc11 := cx_lt_t (a := z10.toInt) (b := 1000) rfl (by decide) c11
            refine lv_iconst (v := 0) hx hb dX4_reckon_42 (by decide) ?_
            refine lv_istore (lv' := [(8, .int 0), (7, .int z10), (6, .int L6_1), (5, .int L5_1), (0, .ref ru), (1, .int x1), (2, .int x2), (3, .int x3), (4, .ref r)]) hx hb dX4_reckon_43 hl (by decide) rfl (fun ls hl => ?_)
            refine lv_iload hx hb dX4_reckon_45 (lv_at hl 0 rfl) ?_
            refine lv_if_ne (tgt := 66) hx hb dX4_reckon_47 (by decide) (fun h => absurd h (by decide)) (fun _ => ?_)
            refine lv_iload hx hb dX4_reckon_50 (lv_at hl 1 rfl) ?_
            refine lv_sipush (v := 260) hx hb dX4_reckon_52 (by decide) ?_
            refine lv_icmp_lt (tgt := 110) hx hb dX4_reckon_55 (by decide) (fun c12 => ?_) (fun c12 => ?_)
            · have fc12 := cx_lt_t (a := z10.toInt) (b := 260) rfl (by decide) c12
              refine lv_iload hx hb dX4_reckon_110 (lv_at hl 1 rfl) ?_
              refine lv_sipush (v := 277) hx hb dX4_reckon_112 (by decide) ?_
              refine lv_icmp_ne (tgt := 146) hx hb dX4_reckon_115 (by decide) (fun c13 => ?_) (fun c13 => ?_)
              · have fc13 := cx_ne_t (a := z10.toInt) (b := 277) rfl (by decide) c13
                refine lv_iload hx hb dX4_reckon_146 (lv_at hl 3 rfl) ?_
                refine lv_iconst (v := 1) hx hb dX4_reckon_148 (by decide) ?_
                refine lv_icmp_le (tgt := 185) hx hb dX4_reckon_149 (by decide) (fun c14 => ?_) (fun c14 => ?_)
                · have fc14 := cx_le_t (a := L5_1.toInt) (b := 1) rfl (by decide) c14
                  obtain ⟨z15, ez15⟩ : ∃ z : Int32, z = L6_1 + 1 := ⟨_, rfl⟩
                  have tz15 : z15.toInt = L6_1.toInt + (1) := ai_add rfl (by decide) ez15 (by omega) (by omega)
                  refine lv_iinc (v := z15) (lv' := [(6, .int z15), (8, .int 0), (7, .int z10), (5, .int L5_1), (0, .ref ru), (1, .int x1), (2, .int x2), (3, .int x3), (4, .ref r)]) hx hb dX4_reckon_185 hl (k := 2) rfl (by rw [ez15]; rfl) (by decide) rfl (fun ls hl => ?_)
                  refine lv_goto (tgt := 6) hx hb dX4_reckon_188 (by decide) ?_
                  exact ih1 L5_1 z15 g_1ru_astack ⟨by omega, by omega⟩ ⟨by omega, by omega⟩ (by omega) _ _ _ hP hD hS (lv_sub hl [0, 3, 4, 5, 6, 7, 8] rfl)
                · have fc14 := cx_le_f (a := L5_1.toInt) (b := 1) rfl (by decide) c14
                  obtain ⟨z16, ez16⟩ : ∃ z : Int32, z = L5_1 + (-1) := ⟨_, rfl⟩
                  have tz16 : z16.toInt = L5_1.toInt + (-1) := ai_add rfl (by decide) ez16 (by omega) (by omega)
                  refine lv_iinc (v := z16) (lv' := [(5, .int z16), (8, .int 0), (7, .int z10), (6, .int L6_1), (0, .ref ru), (1, .int x1), (2, .int x2), (3, .int x3), (4, .ref r)]) hx hb dX4_reckon_152 hl (k := 3) rfl (by rw [ez16]; rfl) (by decide) rfl (fun ls hl => ?_)
                  refine lv_aload_n hx hb dX4_reckon_155 rfl (lv_at hl 4 rfl) ?_
                  refine va_get (D := D) (ci := 3) (v := .ref ru_astack) (C := RX4) (T := TX4) (N := 8) hx hb hts in4 hown hG.1 hP 0 rfl rfl 4 (by decide) (hts (.fieldLink RX4 24 "ChairCane$Rule" "stack" "[J") (by decide +kernel)) (fun _ h9 => h9) rfl dX4_reckon_156 ?_
                  refine lv_iload hx hb dX4_reckon_159 (lv_at hl 0 rfl) ?_
                  refine lv_iconst (v := 1) hx hb dX4_reckon_161 (by decide) ?_
                  refine lv_isub hx hb dX4_reckon_162 ?_
                  refine lv_topi (fun z17 ez17 => ?_)
                  have tz17 : z17.toInt = z16.toInt - 1 := ai_sub rfl (by decide) ez17 (by omega) (by omega)
                  refine lv_iload hx hb dX4_reckon_163 (lv_at hl 2 rfl) ?_
                  refine lv_aload_n hx hb dX4_reckon_165 rfl (lv_at hl 4 rfl) ?_
                  refine va_get (D := D) (ci := 3) (v := .ref ru_astack) (C := RX4) (T := TX4) (N := 8) hx hb hts in4 hown hG.1 hP 0 rfl rfl 4 (by decide) (hts (.fieldLink RX4 24 "ChairCane$Rule" "stack" "[J") (by decide +kernel)) (fun _ h9 => h9) rfl dX4_reckon_166 ?_
                  refine lv_iload hx hb dX4_reckon_169 (lv_at hl 0 rfl) ?_
                  refine lv_iconst (v := 1) hx hb dX4_reckon_171 (by decide) ?_
                  refine lv_isub hx hb dX4_reckon_172 ?_
                  refine lv_topi (fun z18 ez18 => ?_)
                  have tz18 : z18.toInt = z16.toInt - 1 := ai_sub rfl (by decide) ez18 (by omega) (by omega)
                  refine va_lald hx hb hG.1 hP 2 3 rfl rfl (vp_in_iff.mpr ⟨by omega, by omega⟩) dX4_reckon_173 ?_
                  refine lv_topl (fun y19 ey19 => ?_)
                  refine lv_aload_n hx hb dX4_reckon_174 rfl (lv_at hl 4 rfl) ?_
                  refine va_get (D := D) (ci := 3) (v := .ref ru_astack) (C := RX4) (T := TX4) (N := 8) hx hb hts in4 hown hG.1 hP 0 rfl rfl 4 (by decide) (hts (.fieldLink RX4 24 "ChairCane$Rule" "stack" "[J") (by decide +kernel)) (fun _ h9 => h9) rfl dX4_reckon_175 ?_
                  refine lv_iload hx hb dX4_reckon_178 (lv_at hl 0 rfl) ?_
                  refine va_lald hx hb hG.1 hP 2 3 rfl rfl (vp_in_iff.mpr ⟨by omega, by omega⟩) dX4_reckon_180 ?_
                  refine lv_topl (fun y20 ey20 => ?_)
                  refine hc_Sl (As := [.int z10, .long y19, .long y20]) (rest := [.int z17, .ref ru_astack]) (n := 3) (wr := [(ru, .inr (3, [.ref ru_asteps, .ref ru_asumFrom, .ref ru_asumTo, .ref ru_atestTo, .ref ru_astack, .int ru_length, .int ru_clauses, .int ru_units])), (ru_asteps, hcI k 400 ru_rsteps), (ru_astack, hcJ k 60 g_1ru_astack), (r, .inr (2, [.int r_told, .int r_strands, .int r_chairs, .int r_sitters, .ref r_atoldCane, .ref r_aheight, .ref r_astrandOf, .ref r_achairOf, .ref r_aweight, .ref r_acane, .int r_sits, .int r_dropped, .int r_minute, .ref r_aload, .ref r_aheads, .int r_held, .int r_heldDown])), (r_aheight, hcI k 8 r_rheight), (r_astrandOf, hcI k 8 r_rstrandOf), (r_achairOf, hcI k 8 r_rchairOf), (r_aweight, hcI k 8 r_rweight), (r_acane, hcI k 4 r_rcane), (r_aload, hcI k 4 r_rload), (r_aheads, hcI k 4 r_rheads)]) hx hb hml hown hts hG hA hP hD hS hl.1 [] [0, 1, 2, 3, 4, 5, 6, 7, 8, 9, 10] (i_X4_combine l D k _ z10 y19 y20 ) gX4_reckon_X4_combine rfl ⟨rfl, rfl, Nat.le_of_ble_eq_true rfl, Nat.le_of_ble_eq_true rfl⟩ (by decide +kernel) rfl rfl ⟨by decide, by decide, by decide⟩ ⟨rfl, rfl, Nat.le_of_ble_eq_true rfl, Nat.le_of_ble_eq_true rfl, Nat.le_of_ble_eq_true rfl⟩ dX4_reckon_181 (fun r22 u21 H locs hw hP hD hS => ?_)
                  have hP : va_P D vwCl ([(ru, .inr (3, [.ref ru_asteps, .ref ru_asumFrom, .ref ru_asumTo, .ref ru_atestTo, .ref ru_astack, .int ru_length, .int ru_clauses, .int ru_units])), (ru_asteps, hcI k 400 ru_rsteps), (ru_astack, hcJ k 60 g_1ru_astack), (r, .inr (2, [.int r_told, .int r_strands, .int r_chairs, .int r_sitters, .ref r_atoldCane, .ref r_aheight, .ref r_astrandOf, .ref r_achairOf, .ref r_aweight, .ref r_acane, .int r_sits, .int r_dropped, .int r_minute, .ref r_aload, .ref r_aheads, .int r_held, .int r_heldDown])), (r_aheight, hcI k 8 r_rheight), (r_astrandOf, hcI k 8 r_rstrandOf), (r_achairOf, hcI k 8 r_rchairOf), (r_aweight, hcI k 8 r_rweight), (r_acane, hcI k 4 r_rcane), (r_aload, hcI k 4 r_rload), (r_aheads, hcI k 4 r_rheads)]) H := hP
                  have hD : va_D A ([(ru, .inr (3, [.ref ru_asteps, .ref ru_asumFrom, .ref ru_asumTo, .ref ru_atestTo, .ref ru_astack, .int ru_length, .int ru_clauses, .int ru_units])), (ru_asteps, hcI k 400 ru_rsteps), (ru_astack, hcJ k 60 g_1ru_astack), (r, .inr (2, [.int r_told, .int r_strands, .int r_chairs, .int r_sitters, .ref r_atoldCane, .ref r_aheight, .ref r_astrandOf, .ref r_achairOf, .ref r_aweight, .ref r_acane, .int r_sits, .int r_dropped, .int r_minute, .ref r_aload, .ref r_aheads, .int r_held, .int r_heldDown])), (r_aheight, hcI k 8 r_rheight), (r_astrandOf, hcI k 8 r_rstrandOf), (r_achairOf, hcI k 8 r_rchairOf), (r_aweight, hcI k 8 r_rweight), (r_acane, hcI k 4 r_rcane), (r_aload, hcI k 4 r_rload), (r_aheads, hcI k 4 r_rheads)]) := hD
                  refine va_last hx hb hG.1 hP hD hS 2 3 rfl rfl (vp_in_iff.mpr ⟨by omega, by omega⟩) dX4_reckon_184 (fun H locs hP hD hS => ?_)
                  obtain ⟨f23, ef23⟩ : ∃ f : Nat → Int64, f = vp_updL g_1ru_astack (Int32.toNatClampNeg z17) (r22) := ⟨_, rfl⟩
                  rw [← ef23] at hP hD
                  have hP : va_P D vwCl ([(ru, .inr (3, [.ref ru_asteps, .ref ru_asumFrom, .ref ru_asumTo, .ref ru_atestTo, .ref ru_astack, .int ru_length, .int ru_clauses, .int ru_units])), (ru_asteps, hcI k 400 ru_rsteps), (ru_astack, hcJ k 60 f23), (r, .inr (2, [.int r_told, .int r_strands, .int r_chairs, .int r_sitters, .ref r_atoldCane, .ref r_aheight, .ref r_astrandOf, .ref r_achairOf, .ref r_aweight, .ref r_acane, .int r_sits, .int r_dropped, .int r_minute, .ref r_aload, .ref r_aheads, .int r_held, .int r_heldDown])), (r_aheight, hcI k 8 r_rheight), (r_astrandOf, hcI k 8 r_rstrandOf), (r_achairOf, hcI k 8 r_rchairOf), (r_aweight, hcI k 8 r_rweight), (r_acane, hcI k 4 r_rcane), (r_aload, hcI k 4 r_rload), (r_aheads, hcI k 4 r_rheads)]) H := hP
                  have hD : va_D A ([(ru, .inr (3, [.ref ru_asteps, .ref ru_asumFrom, .ref ru_asumTo, .ref ru_atestTo, .ref ru_astack, .int ru_length, .int ru_clauses, .int ru_units])), (ru_asteps, hcI k 400 ru_rsteps), (ru_astack, hcJ k 60 f23), (r, .inr (2, [.int r_told, .int r_strands, .int r_chairs, .int r_sitters, .ref r_atoldCane, .ref r_aheight, .ref r_astrandOf, .ref r_achairOf, .ref r_aweight, .ref r_acane, .int r_sits, .int r_dropped, .int r_minute, .ref r_aload, .ref r_aheads, .int r_held, .int r_heldDown])), (r_aheight, hcI k 8 r_rheight), (r_astrandOf, hcI k 8 r_rstrandOf), (r_achairOf, hcI k 8 r_rchairOf), (r_aweight, hcI k 8 r_rweight), (r_acane, hcI k 4 r_rcane), (r_aload, hcI k 4 r_rload), (r_aheads, hcI k 4 r_rheads)]) := hD
                  obtain ⟨z24, ez24⟩ : ∃ z : Int32, z = L6_1 + 1 := ⟨_, rfl⟩
                  have tz24 : z24.toInt = L6_1.toInt + (1) := ai_add rfl (by decide) ez24 (by omega) (by omega)
                  refine lv_iinc (v := z24) (lv' := [(6, .int z24), (5, .int z16), (8, .int 0), (7, .int z10), (0, .ref ru), (1, .int x1), (2, .int x2), (3, .int x3), (4, .ref r)]) hx hb dX4_reckon_185 hl (k := 3) rfl (by rw [ez24]; rfl) (by decide) rfl (fun ls hl => ?_)
                  refine lv_goto (tgt := 6) hx hb dX4_reckon_188 (by decide) ?_
                  exact ih1 z16 z24 f23 ⟨by omega, by omega⟩ ⟨by omega, by omega⟩ (by omega) _ _ _ hP hD hS (lv_sub hl [0, 1, 4, 5, 6, 7, 8] rfl)
              · have fc13 := cx_ne_f (a := z10.toInt) (b := 277) rfl (by decide) c13
                refine lv_iload hx hb dX4_reckon_118 (lv_at hl 3 rfl) ?_
                refine lv_if_le (tgt := 185) hx hb dX4_reckon_120 (by decide) (fun c25 => ?_) (fun c25 => ?_)
                · have fc25 := cx_le_t (a := L5_1.toInt) (b := 0) rfl (by decide) c25
                  obtain ⟨z26, ez26⟩ : ∃ z : Int32, z = L6_1 + 1 := ⟨_, rfl⟩
                  have tz26 : z26.toInt = L6_1.toInt + (1) := ai_add rfl (by decide) ez26 (by omega) (by omega)
                  refine lv_iinc (v := z26) (lv' := [(6, .int z26), (8, .int 0), (7, .int z10), (5, .int L5_1), (0, .ref ru), (1, .int x1), (2, .int x2), (3, .int x3), (4, .ref r)]) hx hb dX4_reckon_185 hl (k := 2) rfl (by rw [ez26]; rfl) (by decide) rfl (fun ls hl => ?_)
                  refine lv_goto (tgt := 6) hx hb dX4_reckon_188 (by decide) ?_
                  exact ih1 L5_1 z26 g_1ru_astack ⟨by omega, by omega⟩ ⟨by omega, by omega⟩ (by omega) _ _ _ hP hD hS (lv_sub hl [0, 3, 4, 5, 6, 7, 8] rfl)
                · have fc25 := cx_le_f (a := L5_1.toInt) (b := 0) rfl (by decide) c25
                  refine lv_aload_n hx hb dX4_reckon_123 rfl (lv_at hl 4 rfl) ?_
                  refine va_get (D := D) (ci := 3) (v := .ref ru_astack) (C := RX4) (T := TX4) (N := 8) hx hb hts in4 hown hG.1 hP 0 rfl rfl 4 (by decide) (hts (.fieldLink RX4 24 "ChairCane$Rule" "stack" "[J") (by decide +kernel)) (fun _ h9 => h9) rfl dX4_reckon_124 ?_
                  refine lv_iload hx hb dX4_reckon_127 (lv_at hl 3 rfl) ?_
                  refine lv_iconst (v := 1) hx hb dX4_reckon_129 (by decide) ?_
                  refine lv_isub hx hb dX4_reckon_130 ?_
                  refine lv_topi (fun z27 ez27 => ?_)
                  have tz27 : z27.toInt = L5_1.toInt - 1 := ai_sub rfl (by decide) ez27 (by omega) (by omega)
                  refine lv_lconst (v := 1) hx hb dX4_reckon_131 (by decide) ?_
                  refine lv_aload_n hx hb dX4_reckon_132 rfl (lv_at hl 4 rfl) ?_
                  refine va_get (D := D) (ci := 3) (v := .ref ru_astack) (C := RX4) (T := TX4) (N := 8) hx hb hts in4 hown hG.1 hP 0 rfl rfl 4 (by decide) (hts (.fieldLink RX4 24 "ChairCane$Rule" "stack" "[J") (by decide +kernel)) (fun _ h9 => h9) rfl dX4_reckon_133 ?_
                  refine lv_iload hx hb dX4_reckon_136 (lv_at hl 3 rfl) ?_
                  refine lv_iconst (v := 1) hx hb dX4_reckon_138 (by decide) ?_
                  refine lv_isub hx hb dX4_reckon_139 ?_
                  refine lv_topi (fun z28 ez28 => ?_)
                  have tz28 : z28.toInt = L5_1.toInt - 1 := ai_sub rfl (by decide) ez28 (by omega) (by omega)
                  refine va_lald hx hb hG.1 hP 2 3 rfl rfl (vp_in_iff.mpr ⟨by omega, by omega⟩) dX4_reckon_140 ?_
                  refine lv_topl (fun y29 ey29 => ?_)
                  refine lv_lsub hx hb dX4_reckon_141 ?_
                  refine lv_topl (fun y30 ey30 => ?_)
                  refine va_last hx hb hG.1 hP hD hS 2 3 rfl rfl (vp_in_iff.mpr ⟨by omega, by omega⟩) dX4_reckon_142 (fun H locs hP hD hS => ?_)
                  obtain ⟨f31, ef31⟩ : ∃ f : Nat → Int64, f = vp_updL g_1ru_astack (Int32.toNatClampNeg z27) (y30) := ⟨_, rfl⟩
                  rw [← ef31] at hP hD
                  have hP : va_P D vwCl ([(ru, .inr (3, [.ref ru_asteps, .ref ru_asumFrom, .ref ru_asumTo, .ref ru_atestTo, .ref ru_astack, .int ru_length, .int ru_clauses, .int ru_units])), (ru_asteps, hcI k 400 ru_rsteps), (ru_astack, hcJ k 60 f31), (r, .inr (2, [.int r_told, .int r_strands, .int r_chairs, .int r_sitters, .ref r_atoldCane, .ref r_aheight, .ref r_astrandOf, .ref r_achairOf, .ref r_aweight, .ref r_acane, .int r_sits, .int r_dropped, .int r_minute, .ref r_aload, .ref r_aheads, .int r_held, .int r_heldDown])), (r_aheight, hcI k 8 r_rheight), (r_astrandOf, hcI k 8 r_rstrandOf), (r_achairOf, hcI k 8 r_rchairOf), (r_aweight, hcI k 8 r_rweight), (r_acane, hcI k 4 r_rcane), (r_aload, hcI k 4 r_rload), (r_aheads, hcI k 4 r_rheads)]) H := hP
                  have hD : va_D A ([(ru, .inr (3, [.ref ru_asteps, .ref ru_asumFrom, .ref ru_asumTo, .ref ru_atestTo, .ref ru_astack, .int ru_length, .int ru_clauses, .int ru_units])), (ru_asteps, hcI k 400 ru_rsteps), (ru_astack, hcJ k 60 f31), (r, .inr (2, [.int r_told, .int r_strands, .int r_chairs, .int r_sitters, .ref r_atoldCane, .ref r_aheight, .ref r_astrandOf, .ref r_achairOf, .ref r_aweight, .ref r_acane, .int r_sits, .int r_dropped, .int r_minute, .ref r_aload, .ref r_aheads, .int r_held, .int r_heldDown])), (r_aheight, hcI k 8 r_rheight), (r_astrandOf, hcI k 8 r_rstrandOf), (r_achairOf, hcI k 8 r_rchairOf), (r_aweight, hcI k 8 r_rweight), (r_acane, hcI k 4 r_rcane), (r_aload, hcI k 4 r_rload), (r_aheads, hcI k 4 r_rheads)]) := hD
                  refine lv_goto (tgt := 185) hx hb dX4_reckon_143 (by decide) ?_
                  obtain ⟨z32, ez32⟩ : ∃ z : Int32, z = L6_1 + 1 := ⟨_, rfl⟩
                  have tz32 : z32.toInt = L6_1.toInt + (1) := ai_add rfl (by decide) ez32 (by omega) (by omega)
                  refine lv_iinc (v := z32) (lv' := [(6, .int z32), (8, .int 0), (7, .int z10), (5, .int L5_1), (0, .ref ru), (1, .int x1), (2, .int x2), (3, .int x3), (4, .ref r)]) hx hb dX4_reckon_185 hl (k := 2) rfl (by rw [ez32]; rfl) (by decide) rfl (fun ls hl => ?_)
                  refine lv_goto (tgt := 6) hx hb dX4_reckon_188 (by decide) ?_
                  exact ih1 L5_1 z32 f31 ⟨by omega, by omega⟩ ⟨by omega, by omega⟩ (by omega) _ _ _ hP hD hS (lv_sub hl [0, 3, 4, 5, 6, 7, 8] rfl)
            · have fc12 := cx_lt_f (a := z10.toInt) (b := 260) rfl (by decide) c12
              refine lv_iload hx hb dX4_reckon_58 (lv_at hl 1 rfl) ?_
              refine lv_sipush (v := 270) hx hb dX4_reckon_60 (by decide) ?_
              refine lv_icmp_gt (tgt := 110) hx hb dX4_reckon_63 (by decide) (fun c33 => ?_) (fun c33 => ?_)
              · have fc33 := cx_gt_t (a := z10.toInt) (b := 270) rfl (by decide) c33
                refine lv_iload hx hb dX4_reckon_110 (lv_at hl 1 rfl) ?_
                refine lv_sipush (v := 277) hx hb dX4_reckon_112 (by decide) ?_
                refine lv_icmp_ne (tgt := 146) hx hb dX4_reckon_115 (by decide) (fun c34 => ?_) (fun c34 => ?_)
                · have fc34 := cx_ne_t (a := z10.toInt) (b := 277) rfl (by decide) c34
                  refine lv_iload hx hb dX4_reckon_146 (lv_at hl 3 rfl) ?_
                  refine lv_iconst (v := 1) hx hb dX4_reckon_148 (by decide) ?_
                  refine lv_icmp_le (tgt := 185) hx hb dX4_reckon_149 (by decide) (fun c35 => ?_) (fun c35 => ?_)
                  · have fc35 := cx_le_t (a := L5_1.toInt) (b := 1) rfl (by decide) c35
                    obtain ⟨z36, ez36⟩ : ∃ z : Int32, z = L6_1 + 1 := ⟨_, rfl⟩
                    have tz36 : z36.toInt = L6_1.toInt + (1) := ai_add rfl (by decide) ez36 (by omega) (by omega)
                    refine lv_iinc (v := z36) (lv' := [(6, .int z36), (8, .int 0), (7, .int z10), (5, .int L5_1), (0, .ref ru), (1, .int x1), (2, .int x2), (3, .int x3), (4, .ref r)]) hx hb dX4_reckon_185 hl (k := 2) rfl (by rw [ez36]; rfl) (by decide) rfl (fun ls hl => ?_)
                    refine lv_goto (tgt := 6) hx hb dX4_reckon_188 (by decide) ?_
                    exact ih1 L5_1 z36 g_1ru_astack ⟨by omega, by omega⟩ ⟨by omega, by omega⟩ (by omega) _ _ _ hP hD hS (lv_sub hl [0, 3, 4, 5, 6, 7, 8] rfl)
                  · have fc35 := cx_le_f (a := L5_1.toInt) (b := 1) rfl (by decide) c35
                    obtain ⟨z37, ez37⟩ : ∃ z : Int32, z = L5_1 + (-1) := ⟨_, rfl⟩
                    have tz37 : z37.toInt = L5_1.toInt + (-1) := ai_add rfl (by decide) ez37 (by omega) (by omega)
                    refine lv_iinc (v := z37) (lv' := [(5, .int z37), (8, .int 0), (7, .int z10), (6, .int L6_1), (0, .ref ru), (1, .int x1), (2, .int x2), (3, .int x3), (4, .ref r)]) hx hb dX4_reckon_152 hl (k := 3) rfl (by rw [ez37]; rfl) (by decide) rfl (fun ls hl => ?_)
                    refine lv_aload_n hx hb dX4_reckon_155 rfl (lv_at hl 4 rfl) ?_
                    refine va_get (D := D) (ci := 3) (v := .ref ru_astack) (C := RX4) (T := TX4) (N := 8) hx hb hts in4 hown hG.1 hP 0 rfl rfl 4 (by decide) (hts (.fieldLink RX4 24 "ChairCane$Rule" "stack" "[J") (by decide +kernel)) (fun _ h9 => h9) rfl dX4_reckon_156 ?_
                    refine lv_iload hx hb dX4_reckon_159 (lv_at hl 0 rfl) ?_
                    refine lv_iconst (v := 1) hx hb dX4_reckon_161 (by decide) ?_
                    refine lv_isub hx hb dX4_reckon_162 ?_
                    refine lv_topi (fun z38 ez38 => ?_)
                    have tz38 : z38.toInt = z37.toInt - 1 := ai_sub rfl (by decide) ez38 (by omega) (by omega)
                    refine lv_iload hx hb dX4_reckon_163 (lv_at hl 2 rfl) ?_
                    refine lv_aload_n hx hb dX4_reckon_165 rfl (lv_at hl 4 rfl) ?_
                    refine va_get (D := D) (ci := 3) (v := .ref ru_astack) (C := RX4) (T := TX4) (N := 8) hx hb hts in4 hown hG.1 hP 0 rfl rfl 4 (by decide) (hts (.fieldLink RX4 24 "ChairCane$Rule" "stack" "[J") (by decide +kernel)) (fun _ h9 => h9) rfl dX4_reckon_166 ?_
                    refine lv_iload hx hb dX4_reckon_169 (lv_at hl 0 rfl) ?_
                    refine lv_iconst (v := 1) hx hb dX4_reckon_171 (by decide) ?_
                    refine lv_isub hx hb dX4_reckon_172 ?_
                    refine lv_topi (fun z39 ez39 => ?_)
                    have tz39 : z39.toInt = z37.toInt - 1 := ai_sub rfl (by decide) ez39 (by omega) (by omega)
                    refine va_lald hx hb hG.1 hP 2 3 rfl rfl (vp_in_iff.mpr ⟨by omega, by omega⟩) dX4_reckon_173 ?_
                    refine lv_topl (fun y40 ey40 => ?_)
                    refine lv_aload_n hx hb dX4_reckon_174 rfl (lv_at hl 4 rfl) ?_
                    refine va_get (D := D) (ci := 3) (v := .ref ru_astack) (C := RX4) (T := TX4) (N := 8) hx hb hts in4 hown hG.1 hP 0 rfl rfl 4 (by decide) (hts (.fieldLink RX4 24 "ChairCane$Rule" "stack" "[J") (by decide +kernel)) (fun _ h9 => h9) rfl dX4_reckon_175 ?_
                    refine lv_iload hx hb dX4_reckon_178 (lv_at hl 0 rfl) ?_
                    refine va_lald hx hb hG.1 hP 2 3 rfl rfl (vp_in_iff.mpr ⟨by omega, by omega⟩) dX4_reckon_180 ?_
                    refine lv_topl (fun y41 ey41 => ?_)
                    refine hc_Sl (As := [.int z10, .long y40, .long y41]) (rest := [.int z38, .ref ru_astack]) (n := 3) (wr := [(ru, .inr (3, [.ref ru_asteps, .ref ru_asumFrom, .ref ru_asumTo, .ref ru_atestTo, .ref ru_astack, .int ru_length, .int ru_clauses, .int ru_units])), (ru_asteps, hcI k 400 ru_rsteps), (ru_astack, hcJ k 60 g_1ru_astack), (r, .inr (2, [.int r_told, .int r_strands, .int r_chairs, .int r_sitters, .ref r_atoldCane, .ref r_aheight, .ref r_astrandOf, .ref r_achairOf, .ref r_aweight, .ref r_acane, .int r_sits, .int r_dropped, .int r_minute, .ref r_aload, .ref r_aheads, .int r_held, .int r_heldDown])), (r_aheight, hcI k 8 r_rheight), (r_astrandOf, hcI k 8 r_rstrandOf), (r_achairOf, hcI k 8 r_rchairOf), (r_aweight, hcI k 8 r_rweight), (r_acane, hcI k 4 r_rcane), (r_aload, hcI k 4 r_rload), (r_aheads, hcI k 4 r_rheads)]) hx hb hml hown hts hG hA hP hD hS hl.1 [] [0, 1, 2, 3, 4, 5, 6, 7, 8, 9, 10] (i_X4_combine l D k _ z10 y40 y41 ) gX4_reckon_X4_combine rfl ⟨rfl, rfl, Nat.le_of_ble_eq_true rfl, Nat.le_of_ble_eq_true rfl⟩ (by decide +kernel) rfl rfl ⟨by decide, by decide, by decide⟩ ⟨rfl, rfl, Nat.le_of_ble_eq_true rfl, Nat.le_of_ble_eq_true rfl, Nat.le_of_ble_eq_true rfl⟩ dX4_reckon_181 (fun r43 u42 H locs hw hP hD hS => ?_)
                    have hP : va_P D vwCl ([(ru, .inr (3, [.ref ru_asteps, .ref ru_asumFrom, .ref ru_asumTo, .ref ru_atestTo, .ref ru_astack, .int ru_length, .int ru_clauses, .int ru_units])), (ru_asteps, hcI k 400 ru_rsteps), (ru_astack, hcJ k 60 g_1ru_astack), (r, .inr (2, [.int r_told, .int r_strands, .int r_chairs, .int r_sitters, .ref r_atoldCane, .ref r_aheight, .ref r_astrandOf, .ref r_achairOf, .ref r_aweight, .ref r_acane, .int r_sits, .int r_dropped, .int r_minute, .ref r_aload, .ref r_aheads, .int r_held, .int r_heldDown])), (r_aheight, hcI k 8 r_rheight), (r_astrandOf, hcI k 8 r_rstrandOf), (r_achairOf, hcI k 8 r_rchairOf), (r_aweight, hcI k 8 r_rweight), (r_acane, hcI k 4 r_rcane), (r_aload, hcI k 4 r_rload), (r_aheads, hcI k 4 r_rheads)]) H := hP
                    have hD : va_D A ([(ru, .inr (3, [.ref ru_asteps, .ref ru_asumFrom, .ref ru_asumTo, .ref ru_atestTo, .ref ru_astack, .int ru_length, .int ru_clauses, .int ru_units])), (ru_asteps, hcI k 400 ru_rsteps), (ru_astack, hcJ k 60 g_1ru_astack), (r, .inr (2, [.int r_told, .int r_strands, .int r_chairs, .int r_sitters, .ref r_atoldCane, .ref r_aheight, .ref r_astrandOf, .ref r_achairOf, .ref r_aweight, .ref r_acane, .int r_sits, .int r_dropped, .int r_minute, .ref r_aload, .ref r_aheads, .int r_held, .int r_heldDown])), (r_aheight, hcI k 8 r_rheight), (r_astrandOf, hcI k 8 r_rstrandOf), (r_achairOf, hcI k 8 r_rchairOf), (r_aweight, hcI k 8 r_rweight), (r_acane, hcI k 4 r_rcane), (r_aload, hcI k 4 r_rload), (r_aheads, hcI k 4 r_rheads)]) := hD
                    refine va_last hx hb hG.1 hP hD hS 2 3 rfl rfl (vp_in_iff.mpr ⟨by omega, by omega⟩) dX4_reckon_184 (fun H locs hP hD hS => ?_)
                    obtain ⟨f44, ef44⟩ : ∃ f : Nat → Int64, f = vp_updL g_1ru_astack (Int32.toNatClampNeg z38) (r43) := ⟨_, rfl⟩
                    rw [← ef44] at hP hD
                    have hP : va_P D vwCl ([(ru, .inr (3, [.ref ru_asteps, .ref ru_asumFrom, .ref ru_asumTo, .ref ru_atestTo, .ref ru_astack, .int ru_length, .int ru_clauses, .int ru_units])), (ru_asteps, hcI k 400 ru_rsteps), (ru_astack, hcJ k 60 f44), (r, .inr (2, [.int r_told, .int r_strands, .int r_chairs, .int r_sitters, .ref r_atoldCane, .ref r_aheight, .ref r_astrandOf, .ref r_achairOf, .ref r_aweight, .ref r_acane, .int r_sits, .int r_dropped, .int r_minute, .ref r_aload, .ref r_aheads, .int r_held, .int r_heldDown])), (r_aheight, hcI k 8 r_rheight), (r_astrandOf, hcI k 8 r_rstrandOf), (r_achairOf, hcI k 8 r_rchairOf), (r_aweight, hcI k 8 r_rweight), (r_acane, hcI k 4 r_rcane), (r_aload, hcI k 4 r_rload), (r_aheads, hcI k 4 r_rheads)]) H := hP
                    have hD : va_D A ([(ru, .inr (3, [.ref ru_asteps, .ref ru_asumFrom, .ref ru_asumTo, .ref ru_atestTo, .ref ru_astack, .int ru_length, .int ru_clauses, .int ru_units])), (ru_asteps, hcI k 400 ru_rsteps), (ru_astack, hcJ k 60 f44), (r, .inr (2, [.int r_told, .int r_strands, .int r_chairs, .int r_sitters, .ref r_atoldCane, .ref r_aheight, .ref r_astrandOf, .ref r_achairOf, .ref r_aweight, .ref r_acane, .int r_sits, .int r_dropped, .int r_minute, .ref r_aload, .ref r_aheads, .int r_held, .int r_heldDown])), (r_aheight, hcI k 8 r_rheight), (r_astrandOf, hcI k 8 r_rstrandOf), (r_achairOf, hcI k 8 r_rchairOf), (r_aweight, hcI k 8 r_rweight), (r_acane, hcI k 4 r_rcane), (r_aload, hcI k 4 r_rload), (r_aheads, hcI k 4 r_rheads)]) := hD
                    obtain ⟨z45, ez45⟩ : ∃ z : Int32, z = L6_1 + 1 := ⟨_, rfl⟩
                    have tz45 : z45.toInt = L6_1.toInt + (1) := ai_add rfl (by decide) ez45 (by omega) (by omega)
                    refine lv_iinc (v := z45) (lv' := [(6, .int z45), (5, .int z37), (8, .int 0), (7, .int z10), (0, .ref ru), (1, .int x1), (2, .int x2), (3, .int x3), (4, .ref r)]) hx hb dX4_reckon_185 hl (k := 3) rfl (by rw [ez45]; rfl) (by decide) rfl (fun ls hl => ?_)
                    refine lv_goto (tgt := 6) hx hb dX4_reckon_188 (by decide) ?_
                    exact ih1 z37 z45 f44 ⟨by omega, by omega⟩ ⟨by omega, by omega⟩ (by omega) _ _ _ hP hD hS (lv_sub hl [0, 1, 4, 5, 6, 7, 8] rfl)
                · have fc34 := cx_ne_f (a := z10.toInt) (b := 277) rfl (by decide) c34
                  refine lv_iload hx hb dX4_reckon_118 (lv_at hl 3 rfl) ?_
                  refine lv_if_le (tgt := 185) hx hb dX4_reckon_120 (by decide) (fun c46 => ?_) (fun c46 => ?_)
                  · have fc46 := cx_le_t (a := L5_1.toInt) (b := 0) rfl (by decide) c46
                    obtain ⟨z47, ez47⟩ : ∃ z : Int32, z = L6_1 + 1 := ⟨_, rfl⟩
                    have tz47 : z47.toInt = L6_1.toInt + (1) := ai_add rfl (by decide) ez47 (by omega) (by omega)
                    refine lv_iinc (v := z47) (lv' := [(6, .int z47), (8, .int 0), (7, .int z10), (5, .int L5_1), (0, .ref ru), (1, .int x1), (2, .int x2), (3, .int x3), (4, .ref r)]) hx hb dX4_reckon_185 hl (k := 2) rfl (by rw [ez47]; rfl) (by decide) rfl (fun ls hl => ?_)
                    refine lv_goto (tgt := 6) hx hb dX4_reckon_188 (by decide) ?_
                    exact ih1 L5_1 z47 g_1ru_astack ⟨by omega, by omega⟩ ⟨by omega, by omega⟩ (by omega) _ _ _ hP hD hS (lv_sub hl [0, 3, 4, 5, 6, 7, 8] rfl)
                  · have fc46 := cx_le_f (a := L5_1.toInt) (b := 0) rfl (by decide) c46
                    refine lv_aload_n hx hb dX4_reckon_123 rfl (lv_at hl 4 rfl) ?_
                    refine va_get (D := D) (ci := 3) (v := .ref ru_astack) (C := RX4) (T := TX4) (N := 8) hx hb hts in4 hown hG.1 hP 0 rfl rfl 4 (by decide) (hts (.fieldLink RX4 24 "ChairCane$Rule" "stack" "[J") (by decide +kernel)) (fun _ h9 => h9) rfl dX4_reckon_124 ?_
                    refine lv_iload hx hb dX4_reckon_127 (lv_at hl 3 rfl) ?_
                    refine lv_iconst (v := 1) hx hb dX4_reckon_129 (by decide) ?_
                    refine lv_isub hx hb dX4_reckon_130 ?_
                    refine lv_topi (fun z48 ez48 => ?_)
                    have tz48 : z48.toInt = L5_1.toInt - 1 := ai_sub rfl (by decide) ez48 (by omega) (by omega)
                    refine lv_lconst (v := 1) hx hb dX4_reckon_131 (by decide) ?_
                    refine lv_aload_n hx hb dX4_reckon_132 rfl (lv_at hl 4 rfl) ?_
                    refine va_get (D := D) (ci := 3) (v := .ref ru_astack) (C := RX4) (T := TX4) (N := 8) hx hb hts in4 hown hG.1 hP 0 rfl rfl 4 (by decide) (hts (.fieldLink RX4 24 "ChairCane$Rule" "stack" "[J") (by decide +kernel)) (fun _ h9 => h9) rfl dX4_reckon_133 ?_
                    refine lv_iload hx hb dX4_reckon_136 (lv_at hl 3 rfl) ?_
                    refine lv_iconst (v := 1) hx hb dX4_reckon_138 (by decide) ?_
                    refine lv_isub hx hb dX4_reckon_139 ?_
                    refine lv_topi (fun z49 ez49 => ?_)
                    have tz49 : z49.toInt = L5_1.toInt - 1 := ai_sub rfl (by decide) ez49 (by omega) (by omega)
                    refine va_lald hx hb hG.1 hP 2 3 rfl rfl (vp_in_iff.mpr ⟨by omega, by omega⟩) dX4_reckon_140 ?_
                    refine lv_topl (fun y50 ey50 => ?_)
                    refine lv_lsub hx hb dX4_reckon_141 ?_
                    refine lv_topl (fun y51 ey51 => ?_)
                    refine va_last hx hb hG.1 hP hD hS 2 3 rfl rfl (vp_in_iff.mpr ⟨by omega, by omega⟩) dX4_reckon_142 (fun H locs hP hD hS => ?_)
                    obtain ⟨f52, ef52⟩ : ∃ f : Nat → Int64, f = vp_updL g_1ru_astack (Int32.toNatClampNeg z48) (y51) := ⟨_, rfl⟩
                    rw [← ef52] at hP hD
                    have hP : va_P D vwCl ([(ru, .inr (3, [.ref ru_asteps, .ref ru_asumFrom, .ref ru_asumTo, .ref ru_atestTo, .ref ru_astack, .int ru_length, .int ru_clauses, .int ru_units])), (ru_asteps, hcI k 400 ru_rsteps), (ru_astack, hcJ k 60 f52), (r, .inr (2, [.int r_told, .int r_strands, .int r_chairs, .int r_sitters, .ref r_atoldCane, .ref r_aheight, .ref r_astrandOf, .ref r_achairOf, .ref r_aweight, .ref r_acane, .int r_sits, .int r_dropped, .int r_minute, .ref r_aload, .ref r_aheads, .int r_held, .int r_heldDown])), (r_aheight, hcI k 8 r_rheight), (r_astrandOf, hcI k 8 r_rstrandOf), (r_achairOf, hcI k 8 r_rchairOf), (r_aweight, hcI k 8 r_rweight), (r_acane, hcI k 4 r_rcane), (r_aload, hcI k 4 r_rload), (r_aheads, hcI k 4 r_rheads)]) H := hP
                    have hD : va_D A ([(ru, .inr (3, [.ref ru_asteps, .ref ru_asumFrom, .ref ru_asumTo, .ref ru_atestTo, .ref ru_astack, .int ru_length, .int ru_clauses, .int ru_units])), (ru_asteps, hcI k 400 ru_rsteps), (ru_astack, hcJ k 60 f52), (r, .inr (2, [.int r_told, .int r_strands, .int r_chairs, .int r_sitters, .ref r_atoldCane, .ref r_aheight, .ref r_astrandOf, .ref r_achairOf, .ref r_aweight, .ref r_acane, .int r_sits, .int r_dropped, .int r_minute, .ref r_aload, .ref r_aheads, .int r_held, .int r_heldDown])), (r_aheight, hcI k 8 r_rheight), (r_astrandOf, hcI k 8 r_rstrandOf), (r_achairOf, hcI k 8 r_rchairOf), (r_aweight, hcI k 8 r_rweight), (r_acane, hcI k 4 r_rcane), (r_aload, hcI k 4 r_rload), (r_aheads, hcI k 4 r_rheads)]) := hD
                    refine lv_goto (tgt := 185) hx hb dX4_reckon_143 (by decide) ?_
                    obtain ⟨z53, ez53⟩ : ∃ z : Int32, z = L6_1 + 1 := ⟨_, rfl⟩
                    have tz53 : z53.toInt = L6_1.toInt + (1) := ai_add rfl (by decide) ez53 (by omega) (by omega)
                    refine lv_iinc (v := z53) (lv' := [(6, .int z53), (8, .int 0), (7, .int z10), (5, .int L5_1), (0, .ref ru), (1, .int x1), (2, .int x2), (3, .int x3), (4, .ref r)]) hx hb dX4_reckon_185 hl (k := 2) rfl (by rw [ez53]; rfl) (by decide) rfl (fun ls hl => ?_)
                    refine lv_goto (tgt := 6) hx hb dX4_reckon_188 (by decide) ?_
                    exact ih1 L5_1 z53 f52 ⟨by omega, by omega⟩ ⟨by omega, by omega⟩ (by omega) _ _ _ hP hD hS (lv_sub hl [0, 3, 4, 5, 6, 7, 8] rfl)
              · have fc33 := cx_gt_f (a := z10.toInt) (b := 270) rfl (by decide) c33
                refine lv_iload hx hb dX4_reckon_66 (lv_at hl 3 rfl) ?_
                refine lv_bipush (v := 60) hx hb dX4_reckon_68 (by decide) ?_
                refine lv_icmp_ge (tgt := 185) hx hb dX4_reckon_70 (by decide) (fun c54 => ?_) (fun c54 => ?_)
                · have fc54 := cx_ge_t (a := L5_1.toInt) (b := 60) rfl (by decide) c54
                  obtain ⟨z55, ez55⟩ : ∃ z : Int32, z = L6_1 + 1 := ⟨_, rfl⟩
                  have tz55 : z55.toInt = L6_1.toInt + (1) := ai_add rfl (by decide) ez55 (by omega) (by omega)
                  refine lv_iinc (v := z55) (lv' := [(6, .int z55), (8, .int 0), (7, .int z10), (5, .int L5_1), (0, .ref ru), (1, .int x1), (2, .int x2), (3, .int x3), (4, .ref r)]) hx hb dX4_reckon_185 hl (k := 2) rfl (by rw [ez55]; rfl) (by decide) rfl (fun ls hl => ?_)
                  refine lv_goto (tgt := 6) hx hb dX4_reckon_188 (by decide) ?_
                  exact ih1 L5_1 z55 g_1ru_astack ⟨by omega, by omega⟩ ⟨by omega, by omega⟩ (by omega) _ _ _ hP hD hS (lv_sub hl [0, 3, 4, 5, 6, 7, 8] rfl)
                · have fc54 := cx_ge_f (a := L5_1.toInt) (b := 60) rfl (by decide) c54
                  refine lv_aload_n hx hb dX4_reckon_73 rfl (lv_at hl 4 rfl) ?_
                  refine va_get (D := D) (ci := 3) (v := .ref ru_astack) (C := RX4) (T := TX4) (N := 8) hx hb hts in4 hown hG.1 hP 0 rfl rfl 4 (by decide) (hts (.fieldLink RX4 24 "ChairCane$Rule" "stack" "[J") (by decide +kernel)) (fun _ h9 => h9) rfl dX4_reckon_74 ?_
                  refine lv_iload hx hb dX4_reckon_77 (lv_at hl 3 rfl) ?_
                  refine lv_iload hx hb dX4_reckon_79 (lv_at hl 0 rfl) ?_
                  refine lv_if_eq (tgt := 94) hx hb dX4_reckon_81 (by decide) (fun _ => ?_) (fun h => absurd (by decide) h)
                  refine lv_aload hx hb dX4_reckon_94 (lv_at hl 8 rfl) ?_
                  refine lv_iload hx hb dX4_reckon_96 (lv_at hl 1 rfl) ?_
                  refine lv_iload_n hx hb dX4_reckon_98 rfl (lv_at hl 7 rfl) ?_
                  refine hc_Vi (As := [.int z10, .int x3]) (rest := [.int L5_1, .ref ru_astack]) (n := 2) (wr := [(ru, .inr (3, [.ref ru_asteps, .ref ru_asumFrom, .ref ru_asumTo, .ref ru_atestTo, .ref ru_astack, .int ru_length, .int ru_clauses, .int ru_units])), (ru_asteps, hcI k 400 ru_rsteps), (ru_astack, hcJ k 60 g_1ru_astack)]) hx hb hml hown hts hG hA hP hD hS hl.1 [3, 4, 5, 6, 7, 8, 9, 10] [0, 1, 2] (i_X3_wordOf l D k _ z10 x3 r r_told r_strands r_chairs r_sitters r_atoldCane r_aheight r_astrandOf r_achairOf r_aweight r_acane r_sits r_dropped r_minute r_aload r_aheads r_held r_heldDown r_rheight r_rstrandOf r_rchairOf r_rweight r_rcane r_rload r_rheads ⟨by omega, by omega⟩ ⟨by omega, by omega⟩ ⟨by omega, by omega⟩ ⟨by omega, by omega⟩ h_r_rstrandOf h_r_rchairOf) (ci := 2) (q0 := 3) rfl rfl gX4_reckon_X3_wordOf rfl ⟨rfl, rfl, Nat.le_of_ble_eq_true rfl, Nat.le_of_ble_eq_true rfl⟩ (by decide +kernel) rfl rfl ⟨by decide, by decide, by decide⟩ ⟨rfl, rfl, Nat.le_of_ble_eq_true rfl, Nat.le_of_ble_eq_true rfl, Nat.le_of_ble_eq_true rfl⟩ dX4_reckon_99 (fun r57 u56 H locs hw hP hD hS => ?_)
                  have hP : va_P D vwCl ([(ru, .inr (3, [.ref ru_asteps, .ref ru_asumFrom, .ref ru_asumTo, .ref ru_atestTo, .ref ru_astack, .int ru_length, .int ru_clauses, .int ru_units])), (ru_asteps, hcI k 400 ru_rsteps), (ru_astack, hcJ k 60 g_1ru_astack), (r, .inr (2, [.int r_told, .int r_strands, .int r_chairs, .int r_sitters, .ref r_atoldCane, .ref r_aheight, .ref r_astrandOf, .ref r_achairOf, .ref r_aweight, .ref r_acane, .int r_sits, .int r_dropped, .int r_minute, .ref r_aload, .ref r_aheads, .int r_held, .int r_heldDown])), (r_aheight, hcI k 8 r_rheight), (r_astrandOf, hcI k 8 r_rstrandOf), (r_achairOf, hcI k 8 r_rchairOf), (r_aweight, hcI k 8 r_rweight), (r_acane, hcI k 4 r_rcane), (r_aload, hcI k 4 r_rload), (r_aheads, hcI k 4 r_rheads)]) H := hP
                  have hD : va_D A ([(ru, .inr (3, [.ref ru_asteps, .ref ru_asumFrom, .ref ru_asumTo, .ref ru_atestTo, .ref ru_astack, .int ru_length, .int ru_clauses, .int ru_units])), (ru_asteps, hcI k 400 ru_rsteps), (ru_astack, hcJ k 60 g_1ru_astack), (r, .inr (2, [.int r_told, .int r_strands, .int r_chairs, .int r_sitters, .ref r_atoldCane, .ref r_aheight, .ref r_astrandOf, .ref r_achairOf, .ref r_aweight, .ref r_acane, .int r_sits, .int r_dropped, .int r_minute, .ref r_aload, .ref r_aheads, .int r_held, .int r_heldDown])), (r_aheight, hcI k 8 r_rheight), (r_astrandOf, hcI k 8 r_rstrandOf), (r_achairOf, hcI k 8 r_rchairOf), (r_aweight, hcI k 8 r_rweight), (r_acane, hcI k 4 r_rcane), (r_aload, hcI k 4 r_rload), (r_aheads, hcI k 4 r_rheads)]) := hD
                  refine lv_i2l hx hb dX4_reckon_102 rfl ?_
                  refine lv_topl (fun y58 ey58 => ?_)
                  refine va_last hx hb hG.1 hP hD hS 2 3 rfl rfl (vp_in_iff.mpr ⟨by omega, by omega⟩) dX4_reckon_103 (fun H locs hP hD hS => ?_)
                  obtain ⟨f59, ef59⟩ : ∃ f : Nat → Int64, f = vp_updL g_1ru_astack (Int32.toNatClampNeg L5_1) (y58) := ⟨_, rfl⟩
                  rw [← ef59] at hP hD
                  have hP : va_P D vwCl ([(ru, .inr (3, [.ref ru_asteps, .ref ru_asumFrom, .ref ru_asumTo, .ref ru_atestTo, .ref ru_astack, .int ru_length, .int ru_clauses, .int ru_units])), (ru_asteps, hcI k 400 ru_rsteps), (ru_astack, hcJ k 60 f59), (r, .inr (2, [.int r_told, .int r_strands, .int r_chairs, .int r_sitters, .ref r_atoldCane, .ref r_aheight, .ref r_astrandOf, .ref r_achairOf, .ref r_aweight, .ref r_acane, .int r_sits, .int r_dropped, .int r_minute, .ref r_aload, .ref r_aheads, .int r_held, .int r_heldDown])), (r_aheight, hcI k 8 r_rheight), (r_astrandOf, hcI k 8 r_rstrandOf), (r_achairOf, hcI k 8 r_rchairOf), (r_aweight, hcI k 8 r_rweight), (r_acane, hcI k 4 r_rcane), (r_aload, hcI k 4 r_rload), (r_aheads, hcI k 4 r_rheads)]) H := hP
                  have hD : va_D A ([(ru, .inr (3, [.ref ru_asteps, .ref ru_asumFrom, .ref ru_asumTo, .ref ru_atestTo, .ref ru_astack, .int ru_length, .int ru_clauses, .int ru_units])), (ru_asteps, hcI k 400 ru_rsteps), (ru_astack, hcJ k 60 f59), (r, .inr (2, [.int r_told, .int r_strands, .int r_chairs, .int r_sitters, .ref r_atoldCane, .ref r_aheight, .ref r_astrandOf, .ref r_achairOf, .ref r_aweight, .ref r_acane, .int r_sits, .int r_dropped, .int r_minute, .ref r_aload, .ref r_aheads, .int r_held, .int r_heldDown])), (r_aheight, hcI k 8 r_rheight), (r_astrandOf, hcI k 8 r_rstrandOf), (r_achairOf, hcI k 8 r_rchairOf), (r_aweight, hcI k 8 r_rweight), (r_acane, hcI k 4 r_rcane), (r_aload, hcI k 4 r_rload), (r_aheads, hcI k 4 r_rheads)]) := hD
                  obtain ⟨z60, ez60⟩ : ∃ z : Int32, z = L5_1 + 1 := ⟨_, rfl⟩
                  have tz60 : z60.toInt = L5_1.toInt + (1) := ai_add rfl (by decide) ez60 (by omega) (by omega)
                  refine lv_iinc (v := z60) (lv' := [(5, .int z60), (8, .int 0), (7, .int z10), (6, .int L6_1), (0, .ref ru), (1, .int x1), (2, .int x2), (3, .int x3), (4, .ref r)]) hx hb dX4_reckon_104 hl (k := 3) rfl (by rw [ez60]; rfl) (by decide) rfl (fun ls hl => ?_)
                  refine lv_goto (tgt := 185) hx hb dX4_reckon_107 (by decide) ?_
                  obtain ⟨z61, ez61⟩ : ∃ z : Int32, z = L6_1 + 1 := ⟨_, rfl⟩
                  have tz61 : z61.toInt = L6_1.toInt + (1) := ai_add rfl (by decide) ez61 (by omega) (by omega)
                  refine lv_iinc (v := z61) (lv' := [(6, .int z61), (5, .int z60), (8, .int 0), (7, .int z10), (0, .ref ru), (1, .int x1), (2, .int x2), (3, .int x3), (4, .ref r)]) hx hb dX4_reckon_185 hl (k := 3) rfl (by rw [ez61]; rfl) (by decide) rfl (fun ls hl => ?_)
                  refine lv_goto (tgt := 6) hx hb dX4_reckon_188 (by decide) ?_
                  exact ih1 z60 z61 f59 ⟨by omega, by omega⟩ ⟨by omega, by omega⟩ (by omega) _ _ _ hP hD hS (lv_sub hl [0, 1, 4, 5, 6, 7, 8] rfl)
          · have fc11 := cx_lt_f (a := z10.toInt) (b := 1000) rfl (by decide) c11
            refine lv_iconst (v := 1) hx hb dX4_reckon_38 (by decide) ?_
            refine lv_goto (tgt := 43) hx hb dX4_reckon_39 (by decide) ?_
            refine lv_istore (lv' := [(8, .int 1), (7, .int z10), (6, .int L6_1), (5, .int L5_1), (0, .ref ru), (1, .int x1), (2, .int x2), (3, .int x3), (4, .ref r)]) hx hb dX4_reckon_43 hl (by decide) rfl (fun ls hl => ?_)
            refine lv_iload hx hb dX4_reckon_45 (lv_at hl 0 rfl) ?_
            refine lv_if_ne (tgt := 66) hx hb dX4_reckon_47 (by decide) (fun _ => ?_) (fun h => absurd h (by decide))
            refine lv_iload hx hb dX4_reckon_66 (lv_at hl 3 rfl) ?_
            refine lv_bipush (v := 60) hx hb dX4_reckon_68 (by decide) ?_
            refine lv_icmp_ge (tgt := 185) hx hb dX4_reckon_70 (by decide) (fun c62 => ?_) (fun c62 => ?_)
            · have fc62 := cx_ge_t (a := L5_1.toInt) (b := 60) rfl (by decide) c62
              obtain ⟨z63, ez63⟩ : ∃ z : Int32, z = L6_1 + 1 := ⟨_, rfl⟩
              have tz63 : z63.toInt = L6_1.toInt + (1) := ai_add rfl (by decide) ez63 (by omega) (by omega)
              refine lv_iinc (v := z63) (lv' := [(6, .int z63), (8, .int 1), (7, .int z10), (5, .int L5_1), (0, .ref ru), (1, .int x1), (2, .int x2), (3, .int x3), (4, .ref r)]) hx hb dX4_reckon_185 hl (k := 2) rfl (by rw [ez63]; rfl) (by decide) rfl (fun ls hl => ?_)
              refine lv_goto (tgt := 6) hx hb dX4_reckon_188 (by decide) ?_
              exact ih1 L5_1 z63 g_1ru_astack ⟨by omega, by omega⟩ ⟨by omega, by omega⟩ (by omega) _ _ _ hP hD hS (lv_sub hl [0, 3, 4, 5, 6, 7, 8] rfl)
            · have fc62 := cx_ge_f (a := L5_1.toInt) (b := 60) rfl (by decide) c62
              refine lv_aload_n hx hb dX4_reckon_73 rfl (lv_at hl 4 rfl) ?_
              refine va_get (D := D) (ci := 3) (v := .ref ru_astack) (C := RX4) (T := TX4) (N := 8) hx hb hts in4 hown hG.1 hP 0 rfl rfl 4 (by decide) (hts (.fieldLink RX4 24 "ChairCane$Rule" "stack" "[J") (by decide +kernel)) (fun _ h9 => h9) rfl dX4_reckon_74 ?_
              refine lv_iload hx hb dX4_reckon_77 (lv_at hl 3 rfl) ?_
              refine lv_iload hx hb dX4_reckon_79 (lv_at hl 0 rfl) ?_
              refine lv_if_eq (tgt := 94) hx hb dX4_reckon_81 (by decide) (fun h => absurd h (by decide)) (fun _ => ?_)
              refine lv_iload hx hb dX4_reckon_84 (lv_at hl 1 rfl) ?_
              refine lv_sipush (v := 1000) hx hb dX4_reckon_86 (by decide) ?_
              refine lv_isub hx hb dX4_reckon_89 ?_
              refine lv_topi (fun z64 ez64 => ?_)
              refine lv_i2l hx hb dX4_reckon_90 rfl ?_
              refine lv_topl (fun y65 ey65 => ?_)
              refine lv_goto (tgt := 103) hx hb dX4_reckon_91 (by decide) ?_
              refine va_last hx hb hG.1 hP hD hS 2 3 rfl rfl (vp_in_iff.mpr ⟨by omega, by omega⟩) dX4_reckon_103 (fun H locs hP hD hS => ?_)
              obtain ⟨f66, ef66⟩ : ∃ f : Nat → Int64, f = vp_updL g_1ru_astack (Int32.toNatClampNeg L5_1) (y65) := ⟨_, rfl⟩
              rw [← ef66] at hP hD
              have hP : va_P D vwCl ([(ru, .inr (3, [.ref ru_asteps, .ref ru_asumFrom, .ref ru_asumTo, .ref ru_atestTo, .ref ru_astack, .int ru_length, .int ru_clauses, .int ru_units])), (ru_asteps, hcI k 400 ru_rsteps), (ru_astack, hcJ k 60 f66), (r, .inr (2, [.int r_told, .int r_strands, .int r_chairs, .int r_sitters, .ref r_atoldCane, .ref r_aheight, .ref r_astrandOf, .ref r_achairOf, .ref r_aweight, .ref r_acane, .int r_sits, .int r_dropped, .int r_minute, .ref r_aload, .ref r_aheads, .int r_held, .int r_heldDown])), (r_aheight, hcI k 8 r_rheight), (r_astrandOf, hcI k 8 r_rstrandOf), (r_achairOf, hcI k 8 r_rchairOf), (r_aweight, hcI k 8 r_rweight), (r_acane, hcI k 4 r_rcane), (r_aload, hcI k 4 r_rload), (r_aheads, hcI k 4 r_rheads)]) H := hP
              have hD : va_D A ([(ru, .inr (3, [.ref ru_asteps, .ref ru_asumFrom, .ref ru_asumTo, .ref ru_atestTo, .ref ru_astack, .int ru_length, .int ru_clauses, .int ru_units])), (ru_asteps, hcI k 400 ru_rsteps), (ru_astack, hcJ k 60 f66), (r, .inr (2, [.int r_told, .int r_strands, .int r_chairs, .int r_sitters, .ref r_atoldCane, .ref r_aheight, .ref r_astrandOf, .ref r_achairOf, .ref r_aweight, .ref r_acane, .int r_sits, .int r_dropped, .int r_minute, .ref r_aload, .ref r_aheads, .int r_held, .int r_heldDown])), (r_aheight, hcI k 8 r_rheight), (r_astrandOf, hcI k 8 r_rstrandOf), (r_achairOf, hcI k 8 r_rchairOf), (r_aweight, hcI k 8 r_rweight), (r_acane, hcI k 4 r_rcane), (r_aload, hcI k 4 r_rload), (r_aheads, hcI k 4 r_rheads)]) := hD
              obtain ⟨z67, ez67⟩ : ∃ z : Int32, z = L5_1 + 1 := ⟨_, rfl⟩
              have tz67 : z67.toInt = L5_1.toInt + (1) := ai_add rfl (by decide) ez67 (by omega) (by omega)
              refine lv_iinc (v := z67) (lv' := [(5, .int z67), (8, .int 1), (7, .int z10), (6, .int L6_1), (0, .ref ru), (1, .int x1), (2, .int x2), (3, .int x3), (4, .ref r)]) hx hb dX4_reckon_104 hl (k := 3) rfl (by rw [ez67]; rfl) (by decide) rfl (fun ls hl => ?_)
              refine lv_goto (tgt := 185) hx hb dX4_reckon_107 (by decide) ?_
              obtain ⟨z68, ez68⟩ : ∃ z : Int32, z = L6_1 + 1 := ⟨_, rfl⟩
              have tz68 : z68.toInt = L6_1.toInt + (1) := ai_add rfl (by decide) ez68 (by omega) (by omega)
              refine lv_iinc (v := z68) (lv' := [(6, .int z68), (5, .int z67), (8, .int 1), (7, .int z10), (0, .ref ru), (1, .int x1), (2, .int x2), (3, .int x3), (4, .ref r)]) hx hb dX4_reckon_185 hl (k := 3) rfl (by rw [ez68]; rfl) (by decide) rfl (fun ls hl => ?_)
              refine lv_goto (tgt := 6) hx hb dX4_reckon_188 (by decide) ?_
              exact ih1 z67 z68 f66 ⟨by omega, by omega⟩ ⟨by omega, by omega⟩ (by omega) _ _ _ hP hD hS (lv_sub hl [0, 1, 4, 5, 6, 7, 8] rfl)
  exact loop1 1000 0 x1 ru_rstack (iv_lit (by decide) (by decide)) ⟨by omega, by omega⟩ (by have q0 : (0 : Int32).toInt = 0 := (by decide); omega) _ _ _ hP hD hS hl
set_option maxHeartbeats 4000000 in
set_option maxRecDepth 100000 in
theorem i_X4_seats (l : Launch) (D : va_G) (k : Nat → ClassId) (sz : Nat) (x1 : Int32) (ru : Nat) (ru_asteps : Nat) (ru_asumFrom : Nat) (ru_asumTo : Nat) (ru_atestTo : Nat) (ru_astack : Nat) (ru_length : Int32) (ru_clauses : Int32) (ru_units : Int32) (ru_rsteps : Nat → Int32) (ru_rsumFrom : Nat → Int32) (ru_rsumTo : Nat → Int32) (ru_rtestTo : Nat → Int32) (ru_rstack : Nat → Int64) (r : Nat) (r_told : Int32) (r_strands : Int32) (r_chairs : Int32) (r_sitters : Int32) (r_atoldCane : Nat) (r_aheight : Nat) (r_astrandOf : Nat) (r_achairOf : Nat) (r_aweight : Nat) (r_acane : Nat) (r_sits : Int32) (r_dropped : Int32) (r_minute : Int32) (r_aload : Nat) (r_aheads : Nat) (r_held : Int32) (r_heldDown : Int32) (r_rheight : Nat → Int32) (r_rstrandOf : Nat → Int32) (r_rchairOf : Nat → Int32) (r_rweight : Nat → Int32) (r_rcane : Nat → Int32) (r_rload : Nat → Int32) (r_rheads : Nat → Int32) (h_ru_length : iv (0) (400) ru_length) (h_ru_clauses : iv (0) (12) ru_clauses) (h_ru_rsumFrom : rowIn (0) (400) ru_rsumFrom) (h_ru_rsumTo : rowIn (0) (400) ru_rsumTo) (h_ru_rtestTo : rowIn (0) (400) ru_rtestTo) (h_r_told : iv (0) (1) r_told) (h_r_strands : iv (0) (4) r_strands) (h_r_chairs : iv (0) (8) r_chairs) (h_r_sitters : iv (0) (8) r_sitters) (h_r_rstrandOf : rowIn (0) (3) r_rstrandOf) (h_r_rchairOf : rowIn (0) (7) r_rchairOf) : CtI l yX4_seats wsX4_seats (rmK 4 0 0) [.ref ru, .int x1, .ref r] D k sz ([(ru, .inr (3, [.ref ru_asteps, .ref ru_asumFrom, .ref ru_asumTo, .ref ru_atestTo, .ref ru_astack, .int ru_length, .int ru_clauses, .int ru_units])), (ru_asteps, hcI k 400 ru_rsteps), (ru_asumFrom, hcI k 12 ru_rsumFrom), (ru_asumTo, hcI k 12 ru_rsumTo), (ru_atestTo, hcI k 12 ru_rtestTo), (ru_astack, hcJ k 60 ru_rstack), (r, .inr (2, [.int r_told, .int r_strands, .int r_chairs, .int r_sitters, .ref r_atoldCane, .ref r_aheight, .ref r_astrandOf, .ref r_achairOf, .ref r_aweight, .ref r_acane, .int r_sits, .int r_dropped, .int r_minute, .ref r_aload, .ref r_aheads, .int r_held, .int r_heldDown])), (r_aheight, hcI k 8 r_rheight), (r_astrandOf, hcI k 8 r_rstrandOf), (r_achairOf, hcI k 8 r_rchairOf), (r_aweight, hcI k 8 r_rweight), (r_acane, hcI k 4 r_rcane), (r_aload, hcI k 4 r_rload), (r_aheads, hcI k 4 r_rheads)]) (fun (r : Int32) (u : (Nat → Int64)) => iv (0) (1) r) (fun u : (Nat → Int64) => [(ru, .inr (3, [.ref ru_asteps, .ref ru_asumFrom, .ref ru_asumTo, .ref ru_atestTo, .ref ru_astack, .int ru_length, .int ru_clauses, .int ru_units])), (ru_asteps, hcI k 400 ru_rsteps), (ru_asumFrom, hcI k 12 ru_rsumFrom), (ru_asumTo, hcI k 12 ru_rsumTo), (ru_atestTo, hcI k 12 ru_rtestTo), (ru_astack, hcJ k 60 (u)), (r, .inr (2, [.int r_told, .int r_strands, .int r_chairs, .int r_sitters, .ref r_atoldCane, .ref r_aheight, .ref r_astrandOf, .ref r_achairOf, .ref r_aweight, .ref r_acane, .int r_sits, .int r_dropped, .int r_minute, .ref r_aload, .ref r_aheads, .int r_held, .int r_heldDown])), (r_aheight, hcI k 8 r_rheight), (r_astrandOf, hcI k 8 r_rstrandOf), (r_achairOf, hcI k 8 r_rchairOf), (r_aweight, hcI k 8 r_rweight), (r_acane, hcI k 4 r_rcane), (r_aload, hcI k 4 r_rload), (r_aheads, hcI k 4 r_rheads)]) 0 0 := by
  have h_ru_length_l := h_ru_length.1
  have h_ru_length_u := h_ru_length.2
  have h_ru_clauses_l := h_ru_clauses.1
  have h_ru_clauses_u := h_ru_clauses.2
  have h_r_told_l := h_r_told.1
  have h_r_told_u := h_r_told.2
  have h_r_strands_l := h_r_strands.1
  have h_r_strands_u := h_r_strands.2
  have h_r_chairs_l := h_r_chairs.1
  have h_r_chairs_u := h_r_chairs.2
  have h_r_sitters_l := h_r_sitters.1
  have h_r_sitters_u := h_r_sitters.2
  refine CtI.mk (cc := cX4_seats) (maxL := 5) (ret := (some .boolean)) (by decide) rfl (Nat.le_of_ble_eq_true rfl) ?_
  intro p e s m below meth c A ls E hP hD hS hl
  obtain ⟨hx, hb, hr, hml, hown, hts, hlocks, hin, hG, hA⟩ := E
  have hown : s.vm.findClass RX4 = some m.cls := hown
  have in3 : ∀ w ∈ u_ws RX3 TX3 17, w ∈ wsX4_seats := fun _ h => List.mem_cons_of_mem _ (List.mem_append_right _ h)
  have in4 : ∀ w ∈ u_ws RX4 TX4 8, w ∈ wsX4_seats := fun _ h => List.mem_cons_of_mem _ (List.mem_append_left _ (List.mem_append_right _ h))
  have hl : lv_has ls 5 [(0, .ref ru), (1, .int x1), (2, .ref r)] := hl
  refine lv_iconst (v := 0) hx hb dX4_seats_0 (by decide) ?_
  refine lv_istore_n (lv' := [(3, .int 0), (0, .ref ru), (1, .int x1), (2, .ref r)]) hx hb dX4_seats_1 rfl hl (by decide) rfl (fun ls hl => ?_)
  have loop1 : ∀ (fu : Nat) (L3_1 : Int32) (g_1ru_astack : Nat → Int64), iv (0) (12) L3_1 → 13 - L3_1.toInt < (fu : Int) → ∀ (H : Heap) (locs : List Loc) (ls : Array Slot), va_P D vwCl ([(ru, .inr (3, [.ref ru_asteps, .ref ru_asumFrom, .ref ru_asumTo, .ref ru_atestTo, .ref ru_astack, .int ru_length, .int ru_clauses, .int ru_units])), (ru_asteps, hcI k 400 ru_rsteps), (ru_asumFrom, hcI k 12 ru_rsumFrom), (ru_asumTo, hcI k 12 ru_rsumTo), (ru_atestTo, hcI k 12 ru_rtestTo), (ru_astack, hcJ k 60 g_1ru_astack), (r, .inr (2, [.int r_told, .int r_strands, .int r_chairs, .int r_sitters, .ref r_atoldCane, .ref r_aheight, .ref r_astrandOf, .ref r_achairOf, .ref r_aweight, .ref r_acane, .int r_sits, .int r_dropped, .int r_minute, .ref r_aload, .ref r_aheads, .int r_held, .int r_heldDown])), (r_aheight, hcI k 8 r_rheight), (r_astrandOf, hcI k 8 r_rstrandOf), (r_achairOf, hcI k 8 r_rchairOf), (r_aweight, hcI k 8 r_rweight), (r_acane, hcI k 4 r_rcane), (r_aload, hcI k 4 r_rload), (r_aheads, hcI k 4 r_rheads)]) H → va_D A ([(ru, .inr (3, [.ref ru_asteps, .ref ru_asumFrom, .ref ru_asumTo, .ref ru_atestTo, .ref ru_astack, .int ru_length, .int ru_clauses, .int ru_units])), (ru_asteps, hcI k 400 ru_rsteps), (ru_asumFrom, hcI k 12 ru_rsumFrom), (ru_asumTo, hcI k 12 ru_rsumTo), (ru_atestTo, hcI k 12 ru_rtestTo), (ru_astack, hcJ k 60 g_1ru_astack), (r, .inr (2, [.int r_told, .int r_strands, .int r_chairs, .int r_sitters, .ref r_atoldCane, .ref r_aheight, .ref r_astrandOf, .ref r_achairOf, .ref r_aweight, .ref r_acane, .int r_sits, .int r_dropped, .int r_minute, .ref r_aload, .ref r_aheads, .int r_held, .int r_heldDown])), (r_aheight, hcI k 8 r_rheight), (r_astrandOf, hcI k 8 r_rstrandOf), (r_achairOf, hcI k 8 r_rchairOf), (r_aweight, hcI k 8 r_rweight), (r_acane, hcI k 4 r_rcane), (r_aload, hcI k 4 r_rload), (r_aheads, hcI k 4 r_rheads)]) → va_S A s.heap H locs → lv_has ls 5 [(3, .int L3_1), (0, .ref ru), (1, .int x1), (2, .ref r)] → W p l e (rmK 4 0 0) s m (List.toArray [.ref ru, .int x1, .ref r]) below meth c H locs 0 0 (MQ below (va_Qi (fun (r : Int32) (u : (Nat → Int64)) => iv (0) (1) r) (hcB D (fun u : (Nat → Int64) => [(ru, .inr (3, [.ref ru_asteps, .ref ru_asumFrom, .ref ru_asumTo, .ref ru_atestTo, .ref ru_astack, .int ru_length, .int ru_clauses, .int ru_units])), (ru_asteps, hcI k 400 ru_rsteps), (ru_asumFrom, hcI k 12 ru_rsumFrom), (ru_asumTo, hcI k 12 ru_rsumTo), (ru_atestTo, hcI k 12 ru_rtestTo), (ru_astack, hcJ k 60 (u)), (r, .inr (2, [.int r_told, .int r_strands, .int r_chairs, .int r_sitters, .ref r_atoldCane, .ref r_aheight, .ref r_astrandOf, .ref r_achairOf, .ref r_aweight, .ref r_acane, .int r_sits, .int r_dropped, .int r_minute, .ref r_aload, .ref r_aheads, .int r_held, .int r_heldDown])), (r_aheight, hcI k 8 r_rheight), (r_astrandOf, hcI k 8 r_rstrandOf), (r_achairOf, hcI k 8 r_rchairOf), (r_aweight, hcI k 8 r_rweight), (r_acane, hcI k 4 r_rcane), (r_aload, hcI k 4 r_rload), (r_aheads, hcI k 4 r_rheads)]) A) A) (List.toArray [.ref ru, .int x1, .ref r]) s 0 0 A) (F0 m 2 ls []) := by
    intro fu
    induction fu with
    | zero =>
      intro L3_1 g_1ru_astack bL3_1 hm
      have bL3_1_l := bL3_1.1
      have bL3_1_u := bL3_1.2
      exact absurd hm (by omega)
    | succ fu ih1 =>
      intro L3_1 g_1ru_astack bL3_1 hm H locs ls hP hD hS hl
      have bL3_1_l := bL3_1.1
      have bL3_1_u := bL3_1.2
      refine lv_iload_n hx hb dX4_seats_2 rfl (lv_at hl 0 rfl) ?_
      refine lv_aload_n hx hb dX4_seats_3 rfl (lv_at hl 1 rfl) ?_
      refine va_get (D := D) (ci := 3) (v := .int ru_clauses) (C := RX4) (T := TX4) (N := 8) hx hb hts in4 hown hG.1 hP 0 rfl rfl 6 (by decide) (hts (.fieldLink RX4 32 "ChairCane$Rule" "clauses" "I") (by decide +kernel)) (fun _ h9 => h9) rfl dX4_seats_4 ?_
      refine lv_icmp_ge (tgt := 95) hx hb dX4_seats_7 (by decide) (fun c2 => ?_) (fun c2 => ?_)
      · have fc2 := cx_ge_t (a := L3_1.toInt) (b := ru_clauses.toInt) rfl rfl c2
        refine lv_iconst (v := 0) hx hb dX4_seats_95 (by decide) ?_
        exact hc_endZ hx hb hr hlocks rfl (g_1ru_astack) (iv_lit (by decide) (by decide)) hP hD hS dX4_seats_96
      · have fc2 := cx_ge_f (a := L3_1.toInt) (b := ru_clauses.toInt) rfl rfl c2
        refine lv_aload_n hx hb dX4_seats_10 rfl (lv_at hl 1 rfl) ?_
        refine va_get (D := D) (ci := 3) (v := .ref ru_asumTo) (C := RX4) (T := TX4) (N := 8) hx hb hts in4 hown hG.1 hP 0 rfl rfl 2 (by decide) (hts (.fieldLink RX4 18 "ChairCane$Rule" "sumTo" "[I") (by decide +kernel)) (fun _ h9 => h9) rfl dX4_seats_11 ?_
        refine lv_iload_n hx hb dX4_seats_14 rfl (lv_at hl 0 rfl) ?_
        refine va_iald hx hb hG.1 hP 3 0 rfl rfl (vp_in_iff.mpr ⟨by omega, by omega⟩) dX4_seats_15 ?_
        refine lv_topi (fun z3 ez3 => ?_)
        have bz3 : iv (0) (400) z3 := by rw [ez3]; exact h_ru_rsumTo _
        have bz3_l := bz3.1
        have bz3_u := bz3.2
        refine lv_aload_n hx hb dX4_seats_16 rfl (lv_at hl 1 rfl) ?_
        refine va_get (D := D) (ci := 3) (v := .ref ru_atestTo) (C := RX4) (T := TX4) (N := 8) hx hb hts in4 hown hG.1 hP 0 rfl rfl 3 (by decide) (hts (.fieldLink RX4 21 "ChairCane$Rule" "testTo" "[I") (by decide +kernel)) (fun _ h9 => h9) rfl dX4_seats_17 ?_
        refine lv_iload_n hx hb dX4_seats_20 rfl (lv_at hl 0 rfl) ?_
        refine va_iald hx hb hG.1 hP 4 0 rfl rfl (vp_in_iff.mpr ⟨by omega, by omega⟩) dX4_seats_21 ?_
        refine lv_topi (fun z4 ez4 => ?_)
        have bz4 : iv (0) (400) z4 := by rw [ez4]; exact h_ru_rtestTo _
        have bz4_l := bz4.1
        have bz4_u := bz4.2
        refine lv_icmp_ge (tgt := 29) hx hb dX4_seats_22 (by decide) (fun c5 => ?_) (fun c5 => ?_)
        · have fc5 := cx_ge_t (a := z3.toInt) (b := z4.toInt) rfl rfl c5
          refine lv_iconst (v := 0) hx hb dX4_seats_29 (by decide) ?_
          refine lv_istore (lv' := [(4, .int 0), (3, .int L3_1), (0, .ref ru), (1, .int x1), (2, .ref r)]) hx hb dX4_seats_30 hl (by decide) rfl (fun ls hl => ?_)
          refine lv_iload hx hb dX4_seats_32 (lv_at hl 0 rfl) ?_
          refine lv_if_eq (tgt := 60) hx hb dX4_seats_34 (by decide) (fun _ => ?_) (fun h => absurd (by decide) h)
          refine lv_aload_n hx hb dX4_seats_60 rfl (lv_at hl 2 rfl) ?_
          refine lv_aload_n hx hb dX4_seats_61 rfl (lv_at hl 2 rfl) ?_
          refine va_get (D := D) (ci := 3) (v := .ref ru_asumFrom) (C := RX4) (T := TX4) (N := 8) hx hb hts in4 hown hG.1 hP 0 rfl rfl 1 (by decide) (hts (.fieldLink RX4 15 "ChairCane$Rule" "sumFrom" "[I") (by decide +kernel)) (fun _ h9 => h9) rfl dX4_seats_62 ?_
          refine lv_iload_n hx hb dX4_seats_65 rfl (lv_at hl 1 rfl) ?_
          refine va_iald hx hb hG.1 hP 2 0 rfl rfl (vp_in_iff.mpr ⟨by omega, by omega⟩) dX4_seats_66 ?_
          refine lv_topi (fun z6 ez6 => ?_)
          have bz6 : iv (0) (400) z6 := by rw [ez6]; exact h_ru_rsumFrom _
          have bz6_l := bz6.1
          have bz6_u := bz6.2
          refine lv_aload_n hx hb dX4_seats_67 rfl (lv_at hl 2 rfl) ?_
          refine va_get (D := D) (ci := 3) (v := .ref ru_asumTo) (C := RX4) (T := TX4) (N := 8) hx hb hts in4 hown hG.1 hP 0 rfl rfl 2 (by decide) (hts (.fieldLink RX4 18 "ChairCane$Rule" "sumTo" "[I") (by decide +kernel)) (fun _ h9 => h9) rfl dX4_seats_68 ?_
          refine lv_iload_n hx hb dX4_seats_71 rfl (lv_at hl 1 rfl) ?_
          refine va_iald hx hb hG.1 hP 3 0 rfl rfl (vp_in_iff.mpr ⟨by omega, by omega⟩) dX4_seats_72 ?_
          refine hc_is (z := z3) ez3.symm ?_
          refine lv_iload_n hx hb dX4_seats_73 rfl (lv_at hl 3 rfl) ?_
          refine lv_aload_n hx hb dX4_seats_74 rfl (lv_at hl 4 rfl) ?_
          refine hc_Vl (As := [.int z6, .int z3, .int x1, .ref r]) (rest := []) (n := 4) (wr := [(ru_asumFrom, hcI k 12 ru_rsumFrom), (ru_asumTo, hcI k 12 ru_rsumTo), (ru_atestTo, hcI k 12 ru_rtestTo)]) hx hb hml hown hts hG hA hP hD hS hl.1 [0, 1, 5, 6, 7, 8, 9, 10, 11, 12, 13] [2, 3, 4] (i_X4_reckon l D k _ z6 z3 x1 ru ru_asteps ru_asumFrom ru_asumTo ru_atestTo ru_astack ru_length ru_clauses ru_units ru_rsteps g_1ru_astack r r_told r_strands r_chairs r_sitters r_atoldCane r_aheight r_astrandOf r_achairOf r_aweight r_acane r_sits r_dropped r_minute r_aload r_aheads r_held r_heldDown r_rheight r_rstrandOf r_rchairOf r_rweight r_rcane r_rload r_rheads ⟨by omega, by omega⟩ ⟨by omega, by omega⟩ ⟨by omega, by omega⟩ ⟨by omega, by omega⟩ ⟨by omega, by omega⟩ ⟨by omega, by omega⟩ ⟨by omega, by omega⟩ ⟨by omega, by omega⟩ h_r_rstrandOf h_r_rchairOf) (ci := 3) (q0 := 0) rfl rfl gX4_seats_X4_reckon rfl ⟨rfl, rfl, Nat.le_of_ble_eq_true rfl, Nat.le_of_ble_eq_true rfl⟩ (by decide +kernel) rfl rfl ⟨by decide, by decide, by decide⟩ ⟨rfl, rfl, Nat.le_of_ble_eq_true rfl, Nat.le_of_ble_eq_true rfl, Nat.le_of_ble_eq_true rfl⟩ dX4_seats_75 (fun r8 u7 H locs hw hP hD hS => ?_)
          obtain ⟨w9, rfl⟩ : ∃ z, z = u7 := ⟨_, rfl⟩
          have hP : va_P D vwCl ([(ru_asumFrom, hcI k 12 ru_rsumFrom), (ru_asumTo, hcI k 12 ru_rsumTo), (ru_atestTo, hcI k 12 ru_rtestTo), (ru, .inr (3, [.ref ru_asteps, .ref ru_asumFrom, .ref ru_asumTo, .ref ru_atestTo, .ref ru_astack, .int ru_length, .int ru_clauses, .int ru_units])), (ru_asteps, hcI k 400 ru_rsteps), (ru_astack, hcJ k 60 w9), (r, .inr (2, [.int r_told, .int r_strands, .int r_chairs, .int r_sitters, .ref r_atoldCane, .ref r_aheight, .ref r_astrandOf, .ref r_achairOf, .ref r_aweight, .ref r_acane, .int r_sits, .int r_dropped, .int r_minute, .ref r_aload, .ref r_aheads, .int r_held, .int r_heldDown])), (r_aheight, hcI k 8 r_rheight), (r_astrandOf, hcI k 8 r_rstrandOf), (r_achairOf, hcI k 8 r_rchairOf), (r_aweight, hcI k 8 r_rweight), (r_acane, hcI k 4 r_rcane), (r_aload, hcI k 4 r_rload), (r_aheads, hcI k 4 r_rheads)]) H := hP
          have hD : va_D A ([(ru_asumFrom, hcI k 12 ru_rsumFrom), (ru_asumTo, hcI k 12 ru_rsumTo), (ru_atestTo, hcI k 12 ru_rtestTo), (ru, .inr (3, [.ref ru_asteps, .ref ru_asumFrom, .ref ru_asumTo, .ref ru_atestTo, .ref ru_astack, .int ru_length, .int ru_clauses, .int ru_units])), (ru_asteps, hcI k 400 ru_rsteps), (ru_astack, hcJ k 60 w9), (r, .inr (2, [.int r_told, .int r_strands, .int r_chairs, .int r_sitters, .ref r_atoldCane, .ref r_aheight, .ref r_astrandOf, .ref r_achairOf, .ref r_aweight, .ref r_acane, .int r_sits, .int r_dropped, .int r_minute, .ref r_aload, .ref r_aheads, .int r_held, .int r_heldDown])), (r_aheight, hcI k 8 r_rheight), (r_astrandOf, hcI k 8 r_rstrandOf), (r_achairOf, hcI k 8 r_rchairOf), (r_aweight, hcI k 8 r_rweight), (r_acane, hcI k 4 r_rcane), (r_aload, hcI k 4 r_rload), (r_aheads, hcI k 4 r_rheads)]) := hD
          refine lv_lconst (v := 0) hx hb dX4_seats_78 (by decide) ?_
          refine W.lcmp hx hb dX4_seats_79 ?_
          refine lv_topi (fun z10 ez10 => ?_)
          refine lv_if_le (tgt := 87) hx hb dX4_seats_80 (by decide) (fun c11 => ?_) (fun c11 => ?_)
          · have fc11 := cx_le_t (a := z10.toInt) (b := 0) rfl (by decide) c11
            refine lv_iconst (v := 0) hx hb dX4_seats_87 (by decide) ?_
            exact hc_endZ hx hb hr hlocks rfl (w9) (iv_lit (by decide) (by decide)) (hP.sub [3, 4, 0, 1, 2, 5, 6, 7, 8, 9, 10, 11, 12, 13] rfl) (hD.sub [3, 4, 0, 1, 2, 5, 6, 7, 8, 9, 10, 11, 12, 13] (by decide) rfl) hS dX4_seats_88
          · have fc11 := cx_le_f (a := z10.toInt) (b := 0) rfl (by decide) c11
            refine lv_iconst (v := 1) hx hb dX4_seats_83 (by decide) ?_
            refine lv_goto (tgt := 88) hx hb dX4_seats_84 (by decide) ?_
            exact hc_endZ hx hb hr hlocks rfl (w9) (iv_lit (by decide) (by decide)) (hP.sub [3, 4, 0, 1, 2, 5, 6, 7, 8, 9, 10, 11, 12, 13] rfl) (hD.sub [3, 4, 0, 1, 2, 5, 6, 7, 8, 9, 10, 11, 12, 13] (by decide) rfl) hS dX4_seats_88
        · have fc5 := cx_ge_f (a := z3.toInt) (b := z4.toInt) rfl rfl c5
          refine lv_iconst (v := 1) hx hb dX4_seats_25 (by decide) ?_
          refine lv_goto (tgt := 30) hx hb dX4_seats_26 (by decide) ?_
          refine lv_istore (lv' := [(4, .int 1), (3, .int L3_1), (0, .ref ru), (1, .int x1), (2, .ref r)]) hx hb dX4_seats_30 hl (by decide) rfl (fun ls hl => ?_)
          refine lv_iload hx hb dX4_seats_32 (lv_at hl 0 rfl) ?_
          refine lv_if_eq (tgt := 60) hx hb dX4_seats_34 (by decide) (fun h => absurd h (by decide)) (fun _ => ?_)
          refine lv_aload_n hx hb dX4_seats_37 rfl (lv_at hl 2 rfl) ?_
          refine lv_aload_n hx hb dX4_seats_38 rfl (lv_at hl 2 rfl) ?_
          refine va_get (D := D) (ci := 3) (v := .ref ru_asumTo) (C := RX4) (T := TX4) (N := 8) hx hb hts in4 hown hG.1 hP 0 rfl rfl 2 (by decide) (hts (.fieldLink RX4 18 "ChairCane$Rule" "sumTo" "[I") (by decide +kernel)) (fun _ h9 => h9) rfl dX4_seats_39 ?_
          refine lv_iload_n hx hb dX4_seats_42 rfl (lv_at hl 1 rfl) ?_
          refine va_iald hx hb hG.1 hP 3 0 rfl rfl (vp_in_iff.mpr ⟨by omega, by omega⟩) dX4_seats_43 ?_
          refine hc_is (z := z3) ez3.symm ?_
          refine lv_aload_n hx hb dX4_seats_44 rfl (lv_at hl 2 rfl) ?_
          refine va_get (D := D) (ci := 3) (v := .ref ru_atestTo) (C := RX4) (T := TX4) (N := 8) hx hb hts in4 hown hG.1 hP 0 rfl rfl 3 (by decide) (hts (.fieldLink RX4 21 "ChairCane$Rule" "testTo" "[I") (by decide +kernel)) (fun _ h9 => h9) rfl dX4_seats_45 ?_
          refine lv_iload_n hx hb dX4_seats_48 rfl (lv_at hl 1 rfl) ?_
          refine va_iald hx hb hG.1 hP 4 0 rfl rfl (vp_in_iff.mpr ⟨by omega, by omega⟩) dX4_seats_49 ?_
          refine hc_is (z := z4) ez4.symm ?_
          refine lv_iload_n hx hb dX4_seats_50 rfl (lv_at hl 3 rfl) ?_
          refine lv_aload_n hx hb dX4_seats_51 rfl (lv_at hl 4 rfl) ?_
          refine hc_Vl (As := [.int z3, .int z4, .int x1, .ref r]) (rest := []) (n := 4) (wr := [(ru_asumFrom, hcI k 12 ru_rsumFrom), (ru_asumTo, hcI k 12 ru_rsumTo), (ru_atestTo, hcI k 12 ru_rtestTo)]) hx hb hml hown hts hG hA hP hD hS hl.1 [0, 1, 5, 6, 7, 8, 9, 10, 11, 12, 13] [2, 3, 4] (i_X4_reckon l D k _ z3 z4 x1 ru ru_asteps ru_asumFrom ru_asumTo ru_atestTo ru_astack ru_length ru_clauses ru_units ru_rsteps g_1ru_astack r r_told r_strands r_chairs r_sitters r_atoldCane r_aheight r_astrandOf r_achairOf r_aweight r_acane r_sits r_dropped r_minute r_aload r_aheads r_held r_heldDown r_rheight r_rstrandOf r_rchairOf r_rweight r_rcane r_rload r_rheads ⟨by omega, by omega⟩ ⟨by omega, by omega⟩ ⟨by omega, by omega⟩ ⟨by omega, by omega⟩ ⟨by omega, by omega⟩ ⟨by omega, by omega⟩ ⟨by omega, by omega⟩ ⟨by omega, by omega⟩ h_r_rstrandOf h_r_rchairOf) (ci := 3) (q0 := 0) rfl rfl gX4_seats_X4_reckon rfl ⟨rfl, rfl, Nat.le_of_ble_eq_true rfl, Nat.le_of_ble_eq_true rfl⟩ (by decide +kernel) rfl rfl ⟨by decide, by decide, by decide⟩ ⟨rfl, rfl, Nat.le_of_ble_eq_true rfl, Nat.le_of_ble_eq_true rfl, Nat.le_of_ble_eq_true rfl⟩ dX4_seats_52 (fun r13 u12 H locs hw hP hD hS => ?_)
          obtain ⟨w14, rfl⟩ : ∃ z, z = u12 := ⟨_, rfl⟩
          have hP : va_P D vwCl ([(ru_asumFrom, hcI k 12 ru_rsumFrom), (ru_asumTo, hcI k 12 ru_rsumTo), (ru_atestTo, hcI k 12 ru_rtestTo), (ru, .inr (3, [.ref ru_asteps, .ref ru_asumFrom, .ref ru_asumTo, .ref ru_atestTo, .ref ru_astack, .int ru_length, .int ru_clauses, .int ru_units])), (ru_asteps, hcI k 400 ru_rsteps), (ru_astack, hcJ k 60 w14), (r, .inr (2, [.int r_told, .int r_strands, .int r_chairs, .int r_sitters, .ref r_atoldCane, .ref r_aheight, .ref r_astrandOf, .ref r_achairOf, .ref r_aweight, .ref r_acane, .int r_sits, .int r_dropped, .int r_minute, .ref r_aload, .ref r_aheads, .int r_held, .int r_heldDown])), (r_aheight, hcI k 8 r_rheight), (r_astrandOf, hcI k 8 r_rstrandOf), (r_achairOf, hcI k 8 r_rchairOf), (r_aweight, hcI k 8 r_rweight), (r_acane, hcI k 4 r_rcane), (r_aload, hcI k 4 r_rload), (r_aheads, hcI k 4 r_rheads)]) H := hP
          have hD : va_D A ([(ru_asumFrom, hcI k 12 ru_rsumFrom), (ru_asumTo, hcI k 12 ru_rsumTo), (ru_atestTo, hcI k 12 ru_rtestTo), (ru, .inr (3, [.ref ru_asteps, .ref ru_asumFrom, .ref ru_asumTo, .ref ru_atestTo, .ref ru_astack, .int ru_length, .int ru_clauses, .int ru_units])), (ru_asteps, hcI k 400 ru_rsteps), (ru_astack, hcJ k 60 w14), (r, .inr (2, [.int r_told, .int r_strands, .int r_chairs, .int r_sitters, .ref r_atoldCane, .ref r_aheight, .ref r_astrandOf, .ref r_achairOf, .ref r_aweight, .ref r_acane, .int r_sits, .int r_dropped, .int r_minute, .ref r_aload, .ref r_aheads, .int r_held, .int r_heldDown])), (r_aheight, hcI k 8 r_rheight), (r_astrandOf, hcI k 8 r_rstrandOf), (r_achairOf, hcI k 8 r_rchairOf), (r_aweight, hcI k 8 r_rweight), (r_acane, hcI k 4 r_rcane), (r_aload, hcI k 4 r_rload), (r_aheads, hcI k 4 r_rheads)]) := hD
          refine lv_lconst (v := 0) hx hb dX4_seats_55 (by decide) ?_
          refine W.lcmp hx hb dX4_seats_56 ?_
          refine lv_topi (fun z15 ez15 => ?_)
          refine lv_if_eq (tgt := 89) hx hb dX4_seats_57 (by decide) (fun c16 => ?_) (fun c16 => ?_)
          · have fc16 := cx_eq_t (a := z15.toInt) (b := 0) rfl (by decide) c16
            obtain ⟨z17, ez17⟩ : ∃ z : Int32, z = L3_1 + 1 := ⟨_, rfl⟩
            have tz17 : z17.toInt = L3_1.toInt + (1) := ai_add rfl (by decide) ez17 (by omega) (by omega)
            refine lv_iinc (v := z17) (lv' := [(3, .int z17), (4, .int 1), (0, .ref ru), (1, .int x1), (2, .ref r)]) hx hb dX4_seats_89 hl (k := 1) rfl (by rw [ez17]; rfl) (by decide) rfl (fun ls hl => ?_)
            refine lv_goto (tgt := 2) hx hb dX4_seats_92 (by decide) ?_
            exact ih1 z17 w14 ⟨by omega, by omega⟩ (by omega) _ _ _ (hP.sub [3, 4, 0, 1, 2, 5, 6, 7, 8, 9, 10, 11, 12, 13] rfl) (hD.sub [3, 4, 0, 1, 2, 5, 6, 7, 8, 9, 10, 11, 12, 13] (by decide) rfl) hS (lv_sub hl [0, 2, 3, 4] rfl)
          · have fc16 := cx_eq_f (a := z15.toInt) (b := 0) rfl (by decide) c16
            have nzc16 : ¬ r13 = 0 := lcmp_nz ez15 c16
            refine lv_aload_n hx hb dX4_seats_60 rfl (lv_at hl 2 rfl) ?_
            refine lv_aload_n hx hb dX4_seats_61 rfl (lv_at hl 2 rfl) ?_
            refine va_get (D := D) (ci := 3) (v := .ref ru_asumFrom) (C := RX4) (T := TX4) (N := 8) hx hb hts in4 hown hG.1 hP 3 rfl rfl 1 (by decide) (hts (.fieldLink RX4 15 "ChairCane$Rule" "sumFrom" "[I") (by decide +kernel)) (fun _ h9 => h9) rfl dX4_seats_62 ?_
            refine lv_iload_n hx hb dX4_seats_65 rfl (lv_at hl 1 rfl) ?_
            refine va_iald hx hb hG.1 hP 0 0 rfl rfl (vp_in_iff.mpr ⟨by omega, by omega⟩) dX4_seats_66 ?_
            refine lv_topi (fun z18 ez18 => ?_)
            have bz18 : iv (0) (400) z18 := by rw [ez18]; exact h_ru_rsumFrom _
            have bz18_l := bz18.1
            have bz18_u := bz18.2
            refine lv_aload_n hx hb dX4_seats_67 rfl (lv_at hl 2 rfl) ?_
            refine va_get (D := D) (ci := 3) (v := .ref ru_asumTo) (C := RX4) (T := TX4) (N := 8) hx hb hts in4 hown hG.1 hP 3 rfl rfl 2 (by decide) (hts (.fieldLink RX4 18 "ChairCane$Rule" "sumTo" "[I") (by decide +kernel)) (fun _ h9 => h9) rfl dX4_seats_68 ?_
            refine lv_iload_n hx hb dX4_seats_71 rfl (lv_at hl 1 rfl) ?_
            refine va_iald hx hb hG.1 hP 1 0 rfl rfl (vp_in_iff.mpr ⟨by omega, by omega⟩) dX4_seats_72 ?_
            refine hc_is (z := z3) ez3.symm ?_
            refine lv_iload_n hx hb dX4_seats_73 rfl (lv_at hl 3 rfl) ?_
            refine lv_aload_n hx hb dX4_seats_74 rfl (lv_at hl 4 rfl) ?_
            refine hc_Vl (As := [.int z18, .int z3, .int x1, .ref r]) (rest := []) (n := 4) (wr := [(ru_asumFrom, hcI k 12 ru_rsumFrom), (ru_asumTo, hcI k 12 ru_rsumTo), (ru_atestTo, hcI k 12 ru_rtestTo)]) hx hb hml hown hts hG hA hP hD hS hl.1 [3, 4, 5, 6, 7, 8, 9, 10, 11, 12, 13] [0, 1, 2] (i_X4_reckon l D k _ z18 z3 x1 ru ru_asteps ru_asumFrom ru_asumTo ru_atestTo ru_astack ru_length ru_clauses ru_units ru_rsteps w14 r r_told r_strands r_chairs r_sitters r_atoldCane r_aheight r_astrandOf r_achairOf r_aweight r_acane r_sits r_dropped r_minute r_aload r_aheads r_held r_heldDown r_rheight r_rstrandOf r_rchairOf r_rweight r_rcane r_rload r_rheads ⟨by omega, by omega⟩ ⟨by omega, by omega⟩ ⟨by omega, by omega⟩ ⟨by omega, by omega⟩ ⟨by omega, by omega⟩ ⟨by omega, by omega⟩ ⟨by omega, by omega⟩ ⟨by omega, by omega⟩ h_r_rstrandOf h_r_rchairOf) (ci := 3) (q0 := 3) rfl rfl gX4_seats_X4_reckon rfl ⟨rfl, rfl, Nat.le_of_ble_eq_true rfl, Nat.le_of_ble_eq_true rfl⟩ (by decide +kernel) rfl rfl ⟨by decide, by decide, by decide⟩ ⟨rfl, rfl, Nat.le_of_ble_eq_true rfl, Nat.le_of_ble_eq_true rfl, Nat.le_of_ble_eq_true rfl⟩ dX4_seats_75 (fun r20 u19 H locs hw hP hD hS => ?_)
            obtain ⟨w21, rfl⟩ : ∃ z, z = u19 := ⟨_, rfl⟩
            have hP : va_P D vwCl ([(ru_asumFrom, hcI k 12 ru_rsumFrom), (ru_asumTo, hcI k 12 ru_rsumTo), (ru_atestTo, hcI k 12 ru_rtestTo), (ru, .inr (3, [.ref ru_asteps, .ref ru_asumFrom, .ref ru_asumTo, .ref ru_atestTo, .ref ru_astack, .int ru_length, .int ru_clauses, .int ru_units])), (ru_asteps, hcI k 400 ru_rsteps), (ru_astack, hcJ k 60 w21), (r, .inr (2, [.int r_told, .int r_strands, .int r_chairs, .int r_sitters, .ref r_atoldCane, .ref r_aheight, .ref r_astrandOf, .ref r_achairOf, .ref r_aweight, .ref r_acane, .int r_sits, .int r_dropped, .int r_minute, .ref r_aload, .ref r_aheads, .int r_held, .int r_heldDown])), (r_aheight, hcI k 8 r_rheight), (r_astrandOf, hcI k 8 r_rstrandOf), (r_achairOf, hcI k 8 r_rchairOf), (r_aweight, hcI k 8 r_rweight), (r_acane, hcI k 4 r_rcane), (r_aload, hcI k 4 r_rload), (r_aheads, hcI k 4 r_rheads)]) H := hP
            have hD : va_D A ([(ru_asumFrom, hcI k 12 ru_rsumFrom), (ru_asumTo, hcI k 12 ru_rsumTo), (ru_atestTo, hcI k 12 ru_rtestTo), (ru, .inr (3, [.ref ru_asteps, .ref ru_asumFrom, .ref ru_asumTo, .ref ru_atestTo, .ref ru_astack, .int ru_length, .int ru_clauses, .int ru_units])), (ru_asteps, hcI k 400 ru_rsteps), (ru_astack, hcJ k 60 w21), (r, .inr (2, [.int r_told, .int r_strands, .int r_chairs, .int r_sitters, .ref r_atoldCane, .ref r_aheight, .ref r_astrandOf, .ref r_achairOf, .ref r_aweight, .ref r_acane, .int r_sits, .int r_dropped, .int r_minute, .ref r_aload, .ref r_aheads, .int r_held, .int r_heldDown])), (r_aheight, hcI k 8 r_rheight), (r_astrandOf, hcI k 8 r_rstrandOf), (r_achairOf, hcI k 8 r_rchairOf), (r_aweight, hcI k 8 r_rweight), (r_acane, hcI k 4 r_rcane), (r_aload, hcI k 4 r_rload), (r_aheads, hcI k 4 r_rheads)]) := hD
            refine lv_lconst (v := 0) hx hb dX4_seats_78 (by decide) ?_
            refine W.lcmp hx hb dX4_seats_79 ?_
            refine lv_topi (fun z22 ez22 => ?_)
            refine lv_if_le (tgt := 87) hx hb dX4_seats_80 (by decide) (fun c23 => ?_) (fun c23 => ?_)
            · have fc23 := cx_le_t (a := z22.toInt) (b := 0) rfl (by decide) c23
              refine lv_iconst (v := 0) hx hb dX4_seats_87 (by decide) ?_
              exact hc_endZ hx hb hr hlocks rfl (w21) (iv_lit (by decide) (by decide)) (hP.sub [3, 4, 0, 1, 2, 5, 6, 7, 8, 9, 10, 11, 12, 13] rfl) (hD.sub [3, 4, 0, 1, 2, 5, 6, 7, 8, 9, 10, 11, 12, 13] (by decide) rfl) hS dX4_seats_88
            · have fc23 := cx_le_f (a := z22.toInt) (b := 0) rfl (by decide) c23
              refine lv_iconst (v := 1) hx hb dX4_seats_83 (by decide) ?_
              refine lv_goto (tgt := 88) hx hb dX4_seats_84 (by decide) ?_
              exact hc_endZ hx hb hr hlocks rfl (w21) (iv_lit (by decide) (by decide)) (hP.sub [3, 4, 0, 1, 2, 5, 6, 7, 8, 9, 10, 11, 12, 13] rfl) (hD.sub [3, 4, 0, 1, 2, 5, 6, 7, 8, 9, 10, 11, 12, 13] (by decide) rfl) hS dX4_seats_88
  exact loop1 100 0 ru_rstack (iv_lit (by decide) (by decide)) (by have q0 : (0 : Int32).toInt = 0 := (by decide); omega) _ _ _ hP hD hS hl
set_option maxHeartbeats 4000000 in
set_option maxRecDepth 100000 in
theorem i_X3_passMinute_n (l : Launch) (D : va_G) (k : Nat → ClassId) (sz : Nat) (r : Nat) (r_told : Int32) (r_strands : Int32) (r_chairs : Int32) (r_sitters : Int32) (r_atoldCane : Nat) (r_aheight : Nat) (r_astrandOf : Nat) (r_achairOf : Nat) (r_aweight : Nat) (r_acane : Nat) (r_sits : Int32) (r_dropped : Int32) (r_minute : Int32) (r_aload : Nat) (r_aheads : Nat) (r_held : Int32) (r_heldDown : Int32) (r_rheight : Nat → Int32) (r_rstrandOf : Nat → Int32) (r_rchairOf : Nat → Int32) (r_rweight : Nat → Int32) (r_rcane : Nat → Int32) (r_rload : Nat → Int32) (r_rheads : Nat → Int32) (h_r_told : iv (0) (1) r_told) (h_r_strands : iv (0) (4) r_strands) (h_r_chairs : iv (0) (8) r_chairs) (h_r_sitters : iv (0) (8) r_sitters) (h_r_rstrandOf : rowIn (0) (3) r_rstrandOf) (h_r_rchairOf : rowIn (0) (7) r_rchairOf) : CtI l yX3_passMinute wsX3_passMinute (rmK 5 0 0) [.ref r, .null] D k sz ([(r, .inr (2, [.int r_told, .int r_strands, .int r_chairs, .int r_sitters, .ref r_atoldCane, .ref r_aheight, .ref r_astrandOf, .ref r_achairOf, .ref r_aweight, .ref r_acane, .int r_sits, .int r_dropped, .int r_minute, .ref r_aload, .ref r_aheads, .int r_held, .int r_heldDown])), (r_aheight, hcI k 8 r_rheight), (r_astrandOf, hcI k 8 r_rstrandOf), (r_achairOf, hcI k 8 r_rchairOf), (r_aweight, hcI k 8 r_rweight), (r_acane, hcI k 4 r_rcane), (r_aload, hcI k 4 r_rload), (r_aheads, hcI k 4 r_rheads)]) (fun (r : Int32) (u : (Int32) × (Int32) × (Int32) × (Nat → Int32) × (Nat → Int32)) => True) (fun u : (Int32) × (Int32) × (Int32) × (Nat → Int32) × (Nat → Int32) => [(r, .inr (2, [.int r_told, .int r_strands, .int r_chairs, .int r_sitters, .ref r_atoldCane, .ref r_aheight, .ref r_astrandOf, .ref r_achairOf, .ref r_aweight, .ref r_acane, .int (u.1), .int (u.2.1), .int (u.2.2.1), .ref r_aload, .ref r_aheads, .int r_held, .int r_heldDown])), (r_aheight, hcI k 8 r_rheight), (r_astrandOf, hcI k 8 r_rstrandOf), (r_achairOf, hcI k 8 r_rchairOf), (r_aweight, hcI k 8 r_rweight), (r_acane, hcI k 4 r_rcane), (r_aload, hcI k 4 (u.2.2.2.1)), (r_aheads, hcI k 4 (u.2.2.2.2))]) 0 0 := by
  have h_r_told_l := h_r_told.1
  have h_r_told_u := h_r_told.2
  have h_r_strands_l := h_r_strands.1
  have h_r_strands_u := h_r_strands.2
  have h_r_chairs_l := h_r_chairs.1
  have h_r_chairs_u := h_r_chairs.2
  have h_r_sitters_l := h_r_sitters.1
  have h_r_sitters_u := h_r_sitters.2
  refine CtI.mk (cc := cX3_passMinute) (maxL := 3) (ret := (some .int)) (by decide) rfl (Nat.le_of_ble_eq_true rfl) ?_
  intro p e s m below meth c A ls E hP hD hS hl
  obtain ⟨hx, hb, hr, hml, hown, hts, hlocks, hin, hG, hA⟩ := E
  have hown : s.vm.findClass RX3 = some m.cls := hown
  have in3 : ∀ w ∈ u_ws RX3 TX3 17, w ∈ wsX3_passMinute := fun _ h => List.mem_cons_of_mem _ (List.mem_append_left _ (List.mem_append_right _ h))
  have in4 : ∀ w ∈ u_ws RX4 TX4 8, w ∈ wsX3_passMinute := fun _ h => List.mem_cons_of_mem _ (List.mem_append_right _ h)
  have hl : lv_has ls 3 [(0, .ref r), (1, .null)] := hl
  refine lv_iconst (v := 0) hx hb dX3_passMinute_0 (by decide) ?_
  refine lv_istore_n (lv' := [(2, .int 0), (0, .ref r), (1, .null)]) hx hb dX3_passMinute_1 rfl hl (by decide) rfl (fun ls hl => ?_)
  have loop1 : ∀ (fu : Nat) (L2_1 : Int32) (K10_1r : Int32) (g_1r_aload : Nat → Int32) (g_1r_aheads : Nat → Int32), iv (0) (8) L2_1 → 9 - L2_1.toInt < (fu : Int) → ∀ (H : Heap) (locs : List Loc) (ls : Array Slot), va_P D vwCl ([(r, .inr (2, [.int r_told, .int r_strands, .int r_chairs, .int r_sitters, .ref r_atoldCane, .ref r_aheight, .ref r_astrandOf, .ref r_achairOf, .ref r_aweight, .ref r_acane, .int K10_1r, .int r_dropped, .int r_minute, .ref r_aload, .ref r_aheads, .int r_held, .int r_heldDown])), (r_aheight, hcI k 8 r_rheight), (r_astrandOf, hcI k 8 r_rstrandOf), (r_achairOf, hcI k 8 r_rchairOf), (r_aweight, hcI k 8 r_rweight), (r_acane, hcI k 4 r_rcane), (r_aload, hcI k 4 g_1r_aload), (r_aheads, hcI k 4 g_1r_aheads)]) H → va_D A ([(r, .inr (2, [.int r_told, .int r_strands, .int r_chairs, .int r_sitters, .ref r_atoldCane, .ref r_aheight, .ref r_astrandOf, .ref r_achairOf, .ref r_aweight, .ref r_acane, .int K10_1r, .int r_dropped, .int r_minute, .ref r_aload, .ref r_aheads, .int r_held, .int r_heldDown])), (r_aheight, hcI k 8 r_rheight), (r_astrandOf, hcI k 8 r_rstrandOf), (r_achairOf, hcI k 8 r_rchairOf), (r_aweight, hcI k 8 r_rweight), (r_acane, hcI k 4 r_rcane), (r_aload, hcI k 4 g_1r_aload), (r_aheads, hcI k 4 g_1r_aheads)]) → va_S A s.heap H locs → lv_has ls 3 [(2, .int L2_1), (0, .ref r), (1, .null)] → W p l e (rmK 5 0 0) s m (List.toArray [.ref r, .null]) below meth c H locs 0 0 (MQ below (va_Qi (fun (r : Int32) (u : (Int32) × (Int32) × (Int32) × (Nat → Int32) × (Nat → Int32)) => True) (hcB D (fun u : (Int32) × (Int32) × (Int32) × (Nat → Int32) × (Nat → Int32) => [(r, .inr (2, [.int r_told, .int r_strands, .int r_chairs, .int r_sitters, .ref r_atoldCane, .ref r_aheight, .ref r_astrandOf, .ref r_achairOf, .ref r_aweight, .ref r_acane, .int (u.1), .int (u.2.1), .int (u.2.2.1), .ref r_aload, .ref r_aheads, .int r_held, .int r_heldDown])), (r_aheight, hcI k 8 r_rheight), (r_astrandOf, hcI k 8 r_rstrandOf), (r_achairOf, hcI k 8 r_rchairOf), (r_aweight, hcI k 8 r_rweight), (r_acane, hcI k 4 r_rcane), (r_aload, hcI k 4 (u.2.2.2.1)), (r_aheads, hcI k 4 (u.2.2.2.2))]) A) A) (List.toArray [.ref r, .null]) s 0 0 A) (F0 m 2 ls []) := by
    intro fu
    induction fu with
    | zero =>
      intro L2_1 K10_1r g_1r_aload g_1r_aheads bL2_1 hm
      have bL2_1_l := bL2_1.1
      have bL2_1_u := bL2_1.2
      exact absurd hm (by omega)
    | succ fu ih1 =>
      intro L2_1 K10_1r g_1r_aload g_1r_aheads bL2_1 hm H locs ls hP hD hS hl
      have bL2_1_l := bL2_1.1
      have bL2_1_u := bL2_1.2
      refine lv_iload_n hx hb dX3_passMinute_2 rfl (lv_at hl 0 rfl) ?_
      refine lv_aload_n hx hb dX3_passMinute_3 rfl (lv_at hl 1 rfl) ?_
      refine va_get (D := D) (ci := 2) (v := .int r_sitters) (C := RX3) (T := TX3) (N := 17) hx hb hts in3 hown hG.1 hP 0 rfl rfl 3 (by decide) (hts (.fieldLink RX3 22 "ChairCane$Room" "sitters" "I") (by decide +kernel)) (fun _ h9 => h9) rfl dX3_passMinute_4 ?_
      refine lv_icmp_ge (tgt := 74) hx hb dX3_passMinute_7 (by decide) (fun c2 => ?_) (fun c2 => ?_)
      · have fc2 := cx_ge_t (a := L2_1.toInt) (b := r_sitters.toInt) rfl rfl c2
        refine lv_aload_n hx hb dX3_passMinute_74 rfl (lv_at hl 1 rfl) ?_
        refine hc_Vi (As := []) (rest := []) (n := 0) (wr := []) hx hb hml hown hts hG hA hP hD hS hl.1 [0, 1, 2, 3, 4, 5, 6, 7] [] (i_X3_settle l D k _ r r_told r_strands r_chairs r_sitters r_atoldCane r_aheight r_astrandOf r_achairOf r_aweight r_acane K10_1r r_dropped r_minute r_aload r_aheads r_held r_heldDown r_rheight r_rstrandOf r_rchairOf r_rweight r_rcane g_1r_aload g_1r_aheads ⟨by omega, by omega⟩ ⟨by omega, by omega⟩ ⟨by omega, by omega⟩ ⟨by omega, by omega⟩ h_r_rstrandOf h_r_rchairOf) (ci := 2) (q0 := 0) rfl rfl gX3_passMinute_X3_settle rfl ⟨rfl, rfl, Nat.le_of_ble_eq_true rfl, Nat.le_of_ble_eq_true rfl⟩ (by decide +kernel) rfl rfl ⟨by decide, by decide, by decide⟩ ⟨rfl, rfl, Nat.le_of_ble_eq_true rfl, Nat.le_of_ble_eq_true rfl, Nat.le_of_ble_eq_true rfl⟩ dX3_passMinute_75 (fun r4 u3 H locs hw hP hD hS => ?_)
        obtain ⟨w5, w6, w7, w8⟩ := u3
        have hP : va_P D vwCl ([(r, .inr (2, [.int r_told, .int r_strands, .int r_chairs, .int r_sitters, .ref r_atoldCane, .ref r_aheight, .ref r_astrandOf, .ref r_achairOf, .ref r_aweight, .ref r_acane, .int w5, .int w6, .int r_minute, .ref r_aload, .ref r_aheads, .int r_held, .int r_heldDown])), (r_aheight, hcI k 8 r_rheight), (r_astrandOf, hcI k 8 r_rstrandOf), (r_achairOf, hcI k 8 r_rchairOf), (r_aweight, hcI k 8 r_rweight), (r_acane, hcI k 4 r_rcane), (r_aload, hcI k 4 w7), (r_aheads, hcI k 4 w8)]) H := hP
        have hD : va_D A ([(r, .inr (2, [.int r_told, .int r_strands, .int r_chairs, .int r_sitters, .ref r_atoldCane, .ref r_aheight, .ref r_astrandOf, .ref r_achairOf, .ref r_aweight, .ref r_acane, .int w5, .int w6, .int r_minute, .ref r_aload, .ref r_aheads, .int r_held, .int r_heldDown])), (r_aheight, hcI k 8 r_rheight), (r_astrandOf, hcI k 8 r_rstrandOf), (r_achairOf, hcI k 8 r_rchairOf), (r_aweight, hcI k 8 r_rweight), (r_acane, hcI k 4 r_rcane), (r_aload, hcI k 4 w7), (r_aheads, hcI k 4 w8)]) := hD
        refine lv_istore_n (lv' := [(2, .int r4), (0, .ref r), (1, .null)]) hx hb dX3_passMinute_78 rfl hl (by decide) rfl (fun ls hl => ?_)
        refine lv_aload_n hx hb dX3_passMinute_79 rfl (lv_at hl 1 rfl) ?_
        refine lv_dup hx hb dX3_passMinute_80 rfl ?_
        refine va_get (D := D) (ci := 2) (v := .int r_minute) (C := RX3) (T := TX3) (N := 17) hx hb hts in3 hown hG.1 hP 0 rfl rfl 12 (by decide) (hts (.fieldLink RX3 50 "ChairCane$Room" "minute" "I") (by decide +kernel)) (fun _ h9 => h9) rfl dX3_passMinute_81 ?_
        refine lv_iconst (v := 1) hx hb dX3_passMinute_84 (by decide) ?_
        refine lv_iadd hx hb dX3_passMinute_85 ?_
        refine lv_topi (fun z9 ez9 => ?_)
        refine va_put (D := D) (ci := 2) (v := .int z9) (C := RX3) (T := TX3) (N := 17) hx hb hts in3 tyX3 tyX3_ok nmX3 hown hG.1 hP hD hS 0 rfl rfl 12 (by decide) (hts (.fieldLink RX3 50 "ChairCane$Room" "minute" "I") (by decide +kernel)) (fun _ h9 => h9) rfl (tyX3_ok 12 (by decide)) rfl rfl (Nat.le_of_ble_eq_true rfl) dX3_passMinute_86 (fun H locs hP hD hS => ?_)
        have hP : va_P D vwCl ([(r, .inr (2, [.int r_told, .int r_strands, .int r_chairs, .int r_sitters, .ref r_atoldCane, .ref r_aheight, .ref r_astrandOf, .ref r_achairOf, .ref r_aweight, .ref r_acane, .int w5, .int w6, .int z9, .ref r_aload, .ref r_aheads, .int r_held, .int r_heldDown])), (r_aheight, hcI k 8 r_rheight), (r_astrandOf, hcI k 8 r_rstrandOf), (r_achairOf, hcI k 8 r_rchairOf), (r_aweight, hcI k 8 r_rweight), (r_acane, hcI k 4 r_rcane), (r_aload, hcI k 4 w7), (r_aheads, hcI k 4 w8)]) H := hP
        have hD : va_D A ([(r, .inr (2, [.int r_told, .int r_strands, .int r_chairs, .int r_sitters, .ref r_atoldCane, .ref r_aheight, .ref r_astrandOf, .ref r_achairOf, .ref r_aweight, .ref r_acane, .int w5, .int w6, .int z9, .ref r_aload, .ref r_aheads, .int r_held, .int r_heldDown])), (r_aheight, hcI k 8 r_rheight), (r_astrandOf, hcI k 8 r_rstrandOf), (r_achairOf, hcI k 8 r_rchairOf), (r_aweight, hcI k 8 r_rweight), (r_acane, hcI k 4 r_rcane), (r_aload, hcI k 4 w7), (r_aheads, hcI k 4 w8)]) := hD
        refine lv_iload_n hx hb dX3_passMinute_89 rfl (lv_at hl 0 rfl) ?_
        exact hc_end hx hb hr hlocks (w5, w6, z9, w7, w8) trivial hP hD hS dX3_passMinute_90
      · have fc2 := cx_ge_f (a := L2_1.toInt) (b := r_sitters.toInt) rfl rfl c2
        refine lv_aload_n hx hb dX3_passMinute_10 rfl (lv_at hl 1 rfl) ?_
        refine va_get (D := D) (ci := 2) (v := .int r_held) (C := RX3) (T := TX3) (N := 17) hx hb hts in3 hown hG.1 hP 0 rfl rfl 15 (by decide) (hts (.fieldLink RX3 59 "ChairCane$Room" "held" "I") (by decide +kernel)) (fun _ h9 => h9) rfl dX3_passMinute_11 ?_
        refine lv_iload_n hx hb dX3_passMinute_14 rfl (lv_at hl 0 rfl) ?_
        refine lv_ishr hx hb dX3_passMinute_15 ?_
        refine lv_topi (fun z10 ez10 => ?_)
        refine lv_iconst (v := 1) hx hb dX3_passMinute_16 (by decide) ?_
        refine lv_iand hx hb dX3_passMinute_17 ?_
        refine lv_topi (fun z11 ez11 => ?_)
        have bz11 : iv (0) (1) z11 := ai_mask 1 (by decide) (by decide) ez11
        have bz11_l := bz11.1
        have bz11_u := bz11.2
        refine lv_if_eq (tgt := 45) hx hb dX3_passMinute_18 (by decide) (fun c12 => ?_) (fun c12 => ?_)
        · have fc12 := cx_eq_t (a := z11.toInt) (b := 0) rfl (by decide) c12
          refine lv_aload_nN hx hb dX3_passMinute_45 rfl (lv_at hl 2 rfl) ?_
          refine lv_ifnullN (tgt := 68) hx hb dX3_passMinute_46 (by decide) ?_
          obtain ⟨z13, ez13⟩ : ∃ z : Int32, z = L2_1 + 1 := ⟨_, rfl⟩
          have tz13 : z13.toInt = L2_1.toInt + (1) := ai_add rfl (by decide) ez13 (by omega) (by omega)
          refine lv_iinc (v := z13) (lv' := [(2, .int z13), (0, .ref r), (1, .null)]) hx hb dX3_passMinute_68 hl (k := 0) rfl (by rw [ez13]; rfl) (by decide) rfl (fun ls hl => ?_)
          refine lv_goto (tgt := 2) hx hb dX3_passMinute_71 (by decide) ?_
          exact ih1 z13 K10_1r g_1r_aload g_1r_aheads ⟨by omega, by omega⟩ (by omega) _ _ _ hP hD hS (lv_sub hl [0, 1, 2] rfl)
        · have fc12 := cx_eq_f (a := z11.toInt) (b := 0) rfl (by decide) c12
          refine lv_aload_n hx hb dX3_passMinute_21 rfl (lv_at hl 1 rfl) ?_
          refine lv_iload_n hx hb dX3_passMinute_22 rfl (lv_at hl 0 rfl) ?_
          refine lv_aload_n hx hb dX3_passMinute_23 rfl (lv_at hl 1 rfl) ?_
          refine va_get (D := D) (ci := 2) (v := .int r_heldDown) (C := RX3) (T := TX3) (N := 17) hx hb hts in3 hown hG.1 hP 0 rfl rfl 16 (by decide) (hts (.fieldLink RX3 62 "ChairCane$Room" "heldDown" "I") (by decide +kernel)) (fun _ h9 => h9) rfl dX3_passMinute_24 ?_
          refine lv_iload_n hx hb dX3_passMinute_27 rfl (lv_at hl 0 rfl) ?_
          refine lv_ishr hx hb dX3_passMinute_28 ?_
          refine lv_topi (fun z14 ez14 => ?_)
          refine lv_iconst (v := 1) hx hb dX3_passMinute_29 (by decide) ?_
          refine lv_iand hx hb dX3_passMinute_30 ?_
          refine lv_topi (fun z15 ez15 => ?_)
          have bz15 : iv (0) (1) z15 := ai_mask 1 (by decide) (by decide) ez15
          have bz15_l := bz15.1
          have bz15_u := bz15.2
          refine lv_if_eq (tgt := 38) hx hb dX3_passMinute_31 (by decide) (fun c16 => ?_) (fun c16 => ?_)
          · have fc16 := cx_eq_t (a := z15.toInt) (b := 0) rfl (by decide) c16
            refine lv_iconst (v := 0) hx hb dX3_passMinute_38 (by decide) ?_
            refine hc_Vv (As := [.int L2_1, .int 0]) (rest := []) (n := 2) (wr := [(r_aheight, hcI k 8 r_rheight), (r_acane, hcI k 4 r_rcane)]) hx hb hml hown hts hG hA hP hD hS hl.1 [0, 2, 3, 4, 6, 7] [1, 5] (i_X3_seat l D k _ L2_1 0 r r_told r_strands r_chairs r_sitters r_atoldCane r_aheight r_astrandOf r_achairOf r_aweight r_acane K10_1r r_dropped r_minute r_aload r_aheads r_held r_heldDown r_rstrandOf r_rchairOf r_rweight g_1r_aload g_1r_aheads (iv_lit (by decide) (by decide)) ⟨by omega, by omega⟩ ⟨by omega, by omega⟩ ⟨by omega, by omega⟩ ⟨by omega, by omega⟩ h_r_rstrandOf h_r_rchairOf) (ci := 2) (q0 := 0) rfl rfl gX3_passMinute_X3_seat rfl ⟨rfl, rfl, Nat.le_of_ble_eq_true rfl, Nat.le_of_ble_eq_true rfl⟩ (by decide +kernel) rfl rfl ⟨by decide, by decide, by decide⟩ ⟨rfl, rfl, Nat.le_of_ble_eq_true rfl, Nat.le_of_ble_eq_true rfl, Nat.le_of_ble_eq_true rfl⟩ dX3_passMinute_39 (fun u17 H locs hw hP hD hS => ?_)
            obtain ⟨w19, w20, w21⟩ := u17
            have hP : va_P D vwCl ([(r_aheight, hcI k 8 r_rheight), (r_acane, hcI k 4 r_rcane), (r, .inr (2, [.int r_told, .int r_strands, .int r_chairs, .int r_sitters, .ref r_atoldCane, .ref r_aheight, .ref r_astrandOf, .ref r_achairOf, .ref r_aweight, .ref r_acane, .int w19, .int r_dropped, .int r_minute, .ref r_aload, .ref r_aheads, .int r_held, .int r_heldDown])), (r_astrandOf, hcI k 8 r_rstrandOf), (r_achairOf, hcI k 8 r_rchairOf), (r_aweight, hcI k 8 r_rweight), (r_aload, hcI k 4 w20), (r_aheads, hcI k 4 w21)]) H := hP
            have hD : va_D A ([(r_aheight, hcI k 8 r_rheight), (r_acane, hcI k 4 r_rcane), (r, .inr (2, [.int r_told, .int r_strands, .int r_chairs, .int r_sitters, .ref r_atoldCane, .ref r_aheight, .ref r_astrandOf, .ref r_achairOf, .ref r_aweight, .ref r_acane, .int w19, .int r_dropped, .int r_minute, .ref r_aload, .ref r_aheads, .int r_held, .int r_heldDown])), (r_astrandOf, hcI k 8 r_rstrandOf), (r_achairOf, hcI k 8 r_rchairOf), (r_aweight, hcI k 8 r_rweight), (r_aload, hcI k 4 w20), (r_aheads, hcI k 4 w21)]) := hD
            refine lv_goto (tgt := 68) hx hb dX3_passMinute_42 (by decide) ?_
            obtain ⟨z22, ez22⟩ : ∃ z : Int32, z = L2_1 + 1 := ⟨_, rfl⟩
            have tz22 : z22.toInt = L2_1.toInt + (1) := ai_add rfl (by decide) ez22 (by omega) (by omega)
            refine lv_iinc (v := z22) (lv' := [(2, .int z22), (0, .ref r), (1, .null)]) hx hb dX3_passMinute_68 hl (k := 0) rfl (by rw [ez22]; rfl) (by decide) rfl (fun ls hl => ?_)
            refine lv_goto (tgt := 2) hx hb dX3_passMinute_71 (by decide) ?_
            exact ih1 z22 w19 w20 w21 ⟨by omega, by omega⟩ (by omega) _ _ _ (hP.sub [2, 0, 3, 4, 5, 1, 6, 7] rfl) (hD.sub [2, 0, 3, 4, 5, 1, 6, 7] (by decide) rfl) hS (lv_sub hl [0, 1, 2] rfl)
          · have fc16 := cx_eq_f (a := z15.toInt) (b := 0) rfl (by decide) c16
            refine lv_iconst (v := 1) hx hb dX3_passMinute_34 (by decide) ?_
            refine lv_goto (tgt := 39) hx hb dX3_passMinute_35 (by decide) ?_
            refine hc_Vv (As := [.int L2_1, .int 1]) (rest := []) (n := 2) (wr := [(r_aheight, hcI k 8 r_rheight), (r_acane, hcI k 4 r_rcane)]) hx hb hml hown hts hG hA hP hD hS hl.1 [0, 2, 3, 4, 6, 7] [1, 5] (i_X3_seat l D k _ L2_1 1 r r_told r_strands r_chairs r_sitters r_atoldCane r_aheight r_astrandOf r_achairOf r_aweight r_acane K10_1r r_dropped r_minute r_aload r_aheads r_held r_heldDown r_rstrandOf r_rchairOf r_rweight g_1r_aload g_1r_aheads (iv_lit (by decide) (by decide)) ⟨by omega, by omega⟩ ⟨by omega, by omega⟩ ⟨by omega, by omega⟩ ⟨by omega, by omega⟩ h_r_rstrandOf h_r_rchairOf) (ci := 2) (q0 := 0) rfl rfl gX3_passMinute_X3_seat rfl ⟨rfl, rfl, Nat.le_of_ble_eq_true rfl, Nat.le_of_ble_eq_true rfl⟩ (by decide +kernel) rfl rfl ⟨by decide, by decide, by decide⟩ ⟨rfl, rfl, Nat.le_of_ble_eq_true rfl, Nat.le_of_ble_eq_true rfl, Nat.le_of_ble_eq_true rfl⟩ dX3_passMinute_39 (fun u23 H locs hw hP hD hS => ?_)
            obtain ⟨w25, w26, w27⟩ := u23
            have hP : va_P D vwCl ([(r_aheight, hcI k 8 r_rheight), (r_acane, hcI k 4 r_rcane), (r, .inr (2, [.int r_told, .int r_strands, .int r_chairs, .int r_sitters, .ref r_atoldCane, .ref r_aheight, .ref r_astrandOf, .ref r_achairOf, .ref r_aweight, .ref r_acane, .int w25, .int r_dropped, .int r_minute, .ref r_aload, .ref r_aheads, .int r_held, .int r_heldDown])), (r_astrandOf, hcI k 8 r_rstrandOf), (r_achairOf, hcI k 8 r_rchairOf), (r_aweight, hcI k 8 r_rweight), (r_aload, hcI k 4 w26), (r_aheads, hcI k 4 w27)]) H := hP
            have hD : va_D A ([(r_aheight, hcI k 8 r_rheight), (r_acane, hcI k 4 r_rcane), (r, .inr (2, [.int r_told, .int r_strands, .int r_chairs, .int r_sitters, .ref r_atoldCane, .ref r_aheight, .ref r_astrandOf, .ref r_achairOf, .ref r_aweight, .ref r_acane, .int w25, .int r_dropped, .int r_minute, .ref r_aload, .ref r_aheads, .int r_held, .int r_heldDown])), (r_astrandOf, hcI k 8 r_rstrandOf), (r_achairOf, hcI k 8 r_rchairOf), (r_aweight, hcI k 8 r_rweight), (r_aload, hcI k 4 w26), (r_aheads, hcI k 4 w27)]) := hD
            refine lv_goto (tgt := 68) hx hb dX3_passMinute_42 (by decide) ?_
            obtain ⟨z28, ez28⟩ : ∃ z : Int32, z = L2_1 + 1 := ⟨_, rfl⟩
            have tz28 : z28.toInt = L2_1.toInt + (1) := ai_add rfl (by decide) ez28 (by omega) (by omega)
            refine lv_iinc (v := z28) (lv' := [(2, .int z28), (0, .ref r), (1, .null)]) hx hb dX3_passMinute_68 hl (k := 0) rfl (by rw [ez28]; rfl) (by decide) rfl (fun ls hl => ?_)
            refine lv_goto (tgt := 2) hx hb dX3_passMinute_71 (by decide) ?_
            exact ih1 z28 w25 w26 w27 ⟨by omega, by omega⟩ (by omega) _ _ _ (hP.sub [2, 0, 3, 4, 5, 1, 6, 7] rfl) (hD.sub [2, 0, 3, 4, 5, 1, 6, 7] (by decide) rfl) hS (lv_sub hl [0, 1, 2] rfl)
  exact loop1 100 0 r_sits r_rload r_rheads (iv_lit (by decide) (by decide)) (by have q0 : (0 : Int32).toInt = 0 := (by decide); omega) _ _ _ hP hD hS hl
set_option maxHeartbeats 4000000 in
set_option maxRecDepth 100000 in
theorem i_X3_passMinute_r (l : Launch) (D : va_G) (k : Nat → ClassId) (sz : Nat) (r : Nat) (r_told : Int32) (r_strands : Int32) (r_chairs : Int32) (r_sitters : Int32) (r_atoldCane : Nat) (r_aheight : Nat) (r_astrandOf : Nat) (r_achairOf : Nat) (r_aweight : Nat) (r_acane : Nat) (r_sits : Int32) (r_dropped : Int32) (r_minute : Int32) (r_aload : Nat) (r_aheads : Nat) (r_held : Int32) (r_heldDown : Int32) (r_rheight : Nat → Int32) (r_rstrandOf : Nat → Int32) (r_rchairOf : Nat → Int32) (r_rweight : Nat → Int32) (r_rcane : Nat → Int32) (r_rload : Nat → Int32) (r_rheads : Nat → Int32) (ru : Nat) (ru_asteps : Nat) (ru_asumFrom : Nat) (ru_asumTo : Nat) (ru_atestTo : Nat) (ru_astack : Nat) (ru_length : Int32) (ru_clauses : Int32) (ru_units : Int32) (ru_rsteps : Nat → Int32) (ru_rsumFrom : Nat → Int32) (ru_rsumTo : Nat → Int32) (ru_rtestTo : Nat → Int32) (ru_rstack : Nat → Int64) (h_r_told : iv (0) (1) r_told) (h_r_strands : iv (0) (4) r_strands) (h_r_chairs : iv (0) (8) r_chairs) (h_r_sitters : iv (0) (8) r_sitters) (h_r_rstrandOf : rowIn (0) (3) r_rstrandOf) (h_r_rchairOf : rowIn (0) (7) r_rchairOf) (h_ru_length : iv (0) (400) ru_length) (h_ru_clauses : iv (0) (12) ru_clauses) (h_ru_rsumFrom : rowIn (0) (400) ru_rsumFrom) (h_ru_rsumTo : rowIn (0) (400) ru_rsumTo) (h_ru_rtestTo : rowIn (0) (400) ru_rtestTo) : CtI l yX3_passMinute wsX3_passMinute (rmK 5 0 0) [.ref r, .ref ru] D k sz ([(r, .inr (2, [.int r_told, .int r_strands, .int r_chairs, .int r_sitters, .ref r_atoldCane, .ref r_aheight, .ref r_astrandOf, .ref r_achairOf, .ref r_aweight, .ref r_acane, .int r_sits, .int r_dropped, .int r_minute, .ref r_aload, .ref r_aheads, .int r_held, .int r_heldDown])), (r_aheight, hcI k 8 r_rheight), (r_astrandOf, hcI k 8 r_rstrandOf), (r_achairOf, hcI k 8 r_rchairOf), (r_aweight, hcI k 8 r_rweight), (r_acane, hcI k 4 r_rcane), (r_aload, hcI k 4 r_rload), (r_aheads, hcI k 4 r_rheads), (ru, .inr (3, [.ref ru_asteps, .ref ru_asumFrom, .ref ru_asumTo, .ref ru_atestTo, .ref ru_astack, .int ru_length, .int ru_clauses, .int ru_units])), (ru_asteps, hcI k 400 ru_rsteps), (ru_asumFrom, hcI k 12 ru_rsumFrom), (ru_asumTo, hcI k 12 ru_rsumTo), (ru_atestTo, hcI k 12 ru_rtestTo), (ru_astack, hcJ k 60 ru_rstack)]) (fun (r : Int32) (u : (Int32) × (Int32) × (Int32) × (Nat → Int32) × (Nat → Int32) × (Nat → Int64)) => True) (fun u : (Int32) × (Int32) × (Int32) × (Nat → Int32) × (Nat → Int32) × (Nat → Int64) => [(r, .inr (2, [.int r_told, .int r_strands, .int r_chairs, .int r_sitters, .ref r_atoldCane, .ref r_aheight, .ref r_astrandOf, .ref r_achairOf, .ref r_aweight, .ref r_acane, .int (u.1), .int (u.2.1), .int (u.2.2.1), .ref r_aload, .ref r_aheads, .int r_held, .int r_heldDown])), (r_aheight, hcI k 8 r_rheight), (r_astrandOf, hcI k 8 r_rstrandOf), (r_achairOf, hcI k 8 r_rchairOf), (r_aweight, hcI k 8 r_rweight), (r_acane, hcI k 4 r_rcane), (r_aload, hcI k 4 (u.2.2.2.1)), (r_aheads, hcI k 4 (u.2.2.2.2.1)), (ru, .inr (3, [.ref ru_asteps, .ref ru_asumFrom, .ref ru_asumTo, .ref ru_atestTo, .ref ru_astack, .int ru_length, .int ru_clauses, .int ru_units])), (ru_asteps, hcI k 400 ru_rsteps), (ru_asumFrom, hcI k 12 ru_rsumFrom), (ru_asumTo, hcI k 12 ru_rsumTo), (ru_atestTo, hcI k 12 ru_rtestTo), (ru_astack, hcJ k 60 (u.2.2.2.2.2))]) 0 0 := by
  have h_r_told_l := h_r_told.1
  have h_r_told_u := h_r_told.2
  have h_r_strands_l := h_r_strands.1
  have h_r_strands_u := h_r_strands.2
  have h_r_chairs_l := h_r_chairs.1
  have h_r_chairs_u := h_r_chairs.2
  have h_r_sitters_l := h_r_sitters.1
  have h_r_sitters_u := h_r_sitters.2
  have h_ru_length_l := h_ru_length.1
  have h_ru_length_u := h_ru_length.2
  have h_ru_clauses_l := h_ru_clauses.1
  have h_ru_clauses_u := h_ru_clauses.2
  refine CtI.mk (cc := cX3_passMinute) (maxL := 3) (ret := (some .int)) (by decide) rfl (Nat.le_of_ble_eq_true rfl) ?_
  intro p e s m below meth c A ls E hP hD hS hl
  obtain ⟨hx, hb, hr, hml, hown, hts, hlocks, hin, hG, hA⟩ := E
  have hown : s.vm.findClass RX3 = some m.cls := hown
  have in3 : ∀ w ∈ u_ws RX3 TX3 17, w ∈ wsX3_passMinute := fun _ h => List.mem_cons_of_mem _ (List.mem_append_left _ (List.mem_append_right _ h))
  have in4 : ∀ w ∈ u_ws RX4 TX4 8, w ∈ wsX3_passMinute := fun _ h => List.mem_cons_of_mem _ (List.mem_append_right _ h)
  have hl : lv_has ls 3 [(0, .ref r), (1, .ref ru)] := hl
  refine lv_iconst (v := 0) hx hb dX3_passMinute_0 (by decide) ?_
  refine lv_istore_n (lv' := [(2, .int 0), (0, .ref r), (1, .ref ru)]) hx hb dX3_passMinute_1 rfl hl (by decide) rfl (fun ls hl => ?_)
  have loop1 : ∀ (fu : Nat) (L2_1 : Int32) (K10_1r : Int32) (g_1r_aload : Nat → Int32) (g_1r_aheads : Nat → Int32) (g_1ru_astack : Nat → Int64), iv (0) (8) L2_1 → 9 - L2_1.toInt < (fu : Int) → ∀ (H : Heap) (locs : List Loc) (ls : Array Slot), va_P D vwCl ([(r, .inr (2, [.int r_told, .int r_strands, .int r_chairs, .int r_sitters, .ref r_atoldCane, .ref r_aheight, .ref r_astrandOf, .ref r_achairOf, .ref r_aweight, .ref r_acane, .int K10_1r, .int r_dropped, .int r_minute, .ref r_aload, .ref r_aheads, .int r_held, .int r_heldDown])), (r_aheight, hcI k 8 r_rheight), (r_astrandOf, hcI k 8 r_rstrandOf), (r_achairOf, hcI k 8 r_rchairOf), (r_aweight, hcI k 8 r_rweight), (r_acane, hcI k 4 r_rcane), (r_aload, hcI k 4 g_1r_aload), (r_aheads, hcI k 4 g_1r_aheads), (ru, .inr (3, [.ref ru_asteps, .ref ru_asumFrom, .ref ru_asumTo, .ref ru_atestTo, .ref ru_astack, .int ru_length, .int ru_clauses, .int ru_units])), (ru_asteps, hcI k 400 ru_rsteps), (ru_asumFrom, hcI k 12 ru_rsumFrom), (ru_asumTo, hcI k 12 ru_rsumTo), (ru_atestTo, hcI k 12 ru_rtestTo), (ru_astack, hcJ k 60 g_1ru_astack)]) H → va_D A ([(r, .inr (2, [.int r_told, .int r_strands, .int r_chairs, .int r_sitters, .ref r_atoldCane, .ref r_aheight, .ref r_astrandOf, .ref r_achairOf, .ref r_aweight, .ref r_acane, .int K10_1r, .int r_dropped, .int r_minute, .ref r_aload, .ref r_aheads, .int r_held, .int r_heldDown])), (r_aheight, hcI k 8 r_rheight), (r_astrandOf, hcI k 8 r_rstrandOf), (r_achairOf, hcI k 8 r_rchairOf), (r_aweight, hcI k 8 r_rweight), (r_acane, hcI k 4 r_rcane), (r_aload, hcI k 4 g_1r_aload), (r_aheads, hcI k 4 g_1r_aheads), (ru, .inr (3, [.ref ru_asteps, .ref ru_asumFrom, .ref ru_asumTo, .ref ru_atestTo, .ref ru_astack, .int ru_length, .int ru_clauses, .int ru_units])), (ru_asteps, hcI k 400 ru_rsteps), (ru_asumFrom, hcI k 12 ru_rsumFrom), (ru_asumTo, hcI k 12 ru_rsumTo), (ru_atestTo, hcI k 12 ru_rtestTo), (ru_astack, hcJ k 60 g_1ru_astack)]) → va_S A s.heap H locs → lv_has ls 3 [(2, .int L2_1), (0, .ref r), (1, .ref ru)] → W p l e (rmK 5 0 0) s m (List.toArray [.ref r, .ref ru]) below meth c H locs 0 0 (MQ below (va_Qi (fun (r : Int32) (u : (Int32) × (Int32) × (Int32) × (Nat → Int32) × (Nat → Int32) × (Nat → Int64)) => True) (hcB D (fun u : (Int32) × (Int32) × (Int32) × (Nat → Int32) × (Nat → Int32) × (Nat → Int64) => [(r, .inr (2, [.int r_told, .int r_strands, .int r_chairs, .int r_sitters, .ref r_atoldCane, .ref r_aheight, .ref r_astrandOf, .ref r_achairOf, .ref r_aweight, .ref r_acane, .int (u.1), .int (u.2.1), .int (u.2.2.1), .ref r_aload, .ref r_aheads, .int r_held, .int r_heldDown])), (r_aheight, hcI k 8 r_rheight), (r_astrandOf, hcI k 8 r_rstrandOf), (r_achairOf, hcI k 8 r_rchairOf), (r_aweight, hcI k 8 r_rweight), (r_acane, hcI k 4 r_rcane), (r_aload, hcI k 4 (u.2.2.2.1)), (r_aheads, hcI k 4 (u.2.2.2.2.1)), (ru, .inr (3, [.ref ru_asteps, .ref ru_asumFrom, .ref ru_asumTo, .ref ru_atestTo, .ref ru_astack, .int ru_length, .int ru_clauses, .int ru_units])), (ru_asteps, hcI k 400 ru_rsteps), (ru_asumFrom, hcI k 12 ru_rsumFrom), (ru_asumTo, hcI k 12 ru_rsumTo), (ru_atestTo, hcI k 12 ru_rtestTo), (ru_astack, hcJ k 60 (u.2.2.2.2.2))]) A) A) (List.toArray [.ref r, .ref ru]) s 0 0 A) (F0 m 2 ls []) := by
    intro fu
    induction fu with
    | zero =>
      intro L2_1 K10_1r g_1r_aload g_1r_aheads g_1ru_astack bL2_1 hm
      have bL2_1_l := bL2_1.1
      have bL2_1_u := bL2_1.2
      exact absurd hm (by omega)
    | succ fu ih1 =>
      intro L2_1 K10_1r g_1r_aload g_1r_aheads g_1ru_astack bL2_1 hm H locs ls hP hD hS hl
      have bL2_1_l := bL2_1.1
      have bL2_1_u := bL2_1.2
      refine lv_iload_n hx hb dX3_passMinute_2 rfl (lv_at hl 0 rfl) ?_
      refine lv_aload_n hx hb dX3_passMinute_3 rfl (lv_at hl 1 rfl) ?_
      refine va_get (D := D) (ci := 2) (v := .int r_sitters) (C := RX3) (T := TX3) (N := 17) hx hb hts in3 hown hG.1 hP 0 rfl rfl 3 (by decide) (hts (.fieldLink RX3 22 "ChairCane$Room" "sitters" "I") (by decide +kernel)) (fun _ h9 => h9) rfl dX3_passMinute_4 ?_
      refine lv_icmp_ge (tgt := 74) hx hb dX3_passMinute_7 (by decide) (fun c2 => ?_) (fun c2 => ?_)
      · have fc2 := cx_ge_t (a := L2_1.toInt) (b := r_sitters.toInt) rfl rfl c2
        refine lv_aload_n hx hb dX3_passMinute_74 rfl (lv_at hl 1 rfl) ?_
        refine hc_Vi (As := []) (rest := []) (n := 0) (wr := [(ru, .inr (3, [.ref ru_asteps, .ref ru_asumFrom, .ref ru_asumTo, .ref ru_atestTo, .ref ru_astack, .int ru_length, .int ru_clauses, .int ru_units])), (ru_asteps, hcI k 400 ru_rsteps), (ru_asumFrom, hcI k 12 ru_rsumFrom), (ru_asumTo, hcI k 12 ru_rsumTo), (ru_atestTo, hcI k 12 ru_rtestTo), (ru_astack, hcJ k 60 g_1ru_astack)]) hx hb hml hown hts hG hA hP hD hS hl.1 [0, 1, 2, 3, 4, 5, 6, 7] [8, 9, 10, 11, 12, 13] (i_X3_settle l D k _ r r_told r_strands r_chairs r_sitters r_atoldCane r_aheight r_astrandOf r_achairOf r_aweight r_acane K10_1r r_dropped r_minute r_aload r_aheads r_held r_heldDown r_rheight r_rstrandOf r_rchairOf r_rweight r_rcane g_1r_aload g_1r_aheads ⟨by omega, by omega⟩ ⟨by omega, by omega⟩ ⟨by omega, by omega⟩ ⟨by omega, by omega⟩ h_r_rstrandOf h_r_rchairOf) (ci := 2) (q0 := 0) rfl rfl gX3_passMinute_X3_settle rfl ⟨rfl, rfl, Nat.le_of_ble_eq_true rfl, Nat.le_of_ble_eq_true rfl⟩ (by decide +kernel) rfl rfl ⟨by decide, by decide, by decide⟩ ⟨rfl, rfl, Nat.le_of_ble_eq_true rfl, Nat.le_of_ble_eq_true rfl, Nat.le_of_ble_eq_true rfl⟩ dX3_passMinute_75 (fun r4 u3 H locs hw hP hD hS => ?_)
        obtain ⟨w5, w6, w7, w8⟩ := u3
        have hP : va_P D vwCl ([(ru, .inr (3, [.ref ru_asteps, .ref ru_asumFrom, .ref ru_asumTo, .ref ru_atestTo, .ref ru_astack, .int ru_length, .int ru_clauses, .int ru_units])), (ru_asteps, hcI k 400 ru_rsteps), (ru_asumFrom, hcI k 12 ru_rsumFrom), (ru_asumTo, hcI k 12 ru_rsumTo), (ru_atestTo, hcI k 12 ru_rtestTo), (ru_astack, hcJ k 60 g_1ru_astack), (r, .inr (2, [.int r_told, .int r_strands, .int r_chairs, .int r_sitters, .ref r_atoldCane, .ref r_aheight, .ref r_astrandOf, .ref r_achairOf, .ref r_aweight, .ref r_acane, .int w5, .int w6, .int r_minute, .ref r_aload, .ref r_aheads, .int r_held, .int r_heldDown])), (r_aheight, hcI k 8 r_rheight), (r_astrandOf, hcI k 8 r_rstrandOf), (r_achairOf, hcI k 8 r_rchairOf), (r_aweight, hcI k 8 r_rweight), (r_acane, hcI k 4 r_rcane), (r_aload, hcI k 4 w7), (r_aheads, hcI k 4 w8)]) H := hP
        have hD : va_D A ([(ru, .inr (3, [.ref ru_asteps, .ref ru_asumFrom, .ref ru_asumTo, .ref ru_atestTo, .ref ru_astack, .int ru_length, .int ru_clauses, .int ru_units])), (ru_asteps, hcI k 400 ru_rsteps), (ru_asumFrom, hcI k 12 ru_rsumFrom), (ru_asumTo, hcI k 12 ru_rsumTo), (ru_atestTo, hcI k 12 ru_rtestTo), (ru_astack, hcJ k 60 g_1ru_astack), (r, .inr (2, [.int r_told, .int r_strands, .int r_chairs, .int r_sitters, .ref r_atoldCane, .ref r_aheight, .ref r_astrandOf, .ref r_achairOf, .ref r_aweight, .ref r_acane, .int w5, .int w6, .int r_minute, .ref r_aload, .ref r_aheads, .int r_held, .int r_heldDown])), (r_aheight, hcI k 8 r_rheight), (r_astrandOf, hcI k 8 r_rstrandOf), (r_achairOf, hcI k 8 r_rchairOf), (r_aweight, hcI k 8 r_rweight), (r_acane, hcI k 4 r_rcane), (r_aload, hcI k 4 w7), (r_aheads, hcI k 4 w8)]) := hD
        refine lv_istore_n (lv' := [(2, .int r4), (0, .ref r), (1, .ref ru)]) hx hb dX3_passMinute_78 rfl hl (by decide) rfl (fun ls hl => ?_)
        refine lv_aload_n hx hb dX3_passMinute_79 rfl (lv_at hl 1 rfl) ?_
        refine lv_dup hx hb dX3_passMinute_80 rfl ?_
        refine va_get (D := D) (ci := 2) (v := .int r_minute) (C := RX3) (T := TX3) (N := 17) hx hb hts in3 hown hG.1 hP 6 rfl rfl 12 (by decide) (hts (.fieldLink RX3 50 "ChairCane$Room" "minute" "I") (by decide +kernel)) (fun _ h9 => h9) rfl dX3_passMinute_81 ?_
        refine lv_iconst (v := 1) hx hb dX3_passMinute_84 (by decide) ?_
        refine lv_iadd hx hb dX3_passMinute_85 ?_
        refine lv_topi (fun z9 ez9 => ?_)
        refine va_put (D := D) (ci := 2) (v := .int z9) (C := RX3) (T := TX3) (N := 17) hx hb hts in3 tyX3 tyX3_ok nmX3 hown hG.1 hP hD hS 6 rfl rfl 12 (by decide) (hts (.fieldLink RX3 50 "ChairCane$Room" "minute" "I") (by decide +kernel)) (fun _ h9 => h9) rfl (tyX3_ok 12 (by decide)) rfl rfl (Nat.le_of_ble_eq_true rfl) dX3_passMinute_86 (fun H locs hP hD hS => ?_)
        have hP : va_P D vwCl ([(ru, .inr (3, [.ref ru_asteps, .ref ru_asumFrom, .ref ru_asumTo, .ref ru_atestTo, .ref ru_astack, .int ru_length, .int ru_clauses, .int ru_units])), (ru_asteps, hcI k 400 ru_rsteps), (ru_asumFrom, hcI k 12 ru_rsumFrom), (ru_asumTo, hcI k 12 ru_rsumTo), (ru_atestTo, hcI k 12 ru_rtestTo), (ru_astack, hcJ k 60 g_1ru_astack), (r, .inr (2, [.int r_told, .int r_strands, .int r_chairs, .int r_sitters, .ref r_atoldCane, .ref r_aheight, .ref r_astrandOf, .ref r_achairOf, .ref r_aweight, .ref r_acane, .int w5, .int w6, .int z9, .ref r_aload, .ref r_aheads, .int r_held, .int r_heldDown])), (r_aheight, hcI k 8 r_rheight), (r_astrandOf, hcI k 8 r_rstrandOf), (r_achairOf, hcI k 8 r_rchairOf), (r_aweight, hcI k 8 r_rweight), (r_acane, hcI k 4 r_rcane), (r_aload, hcI k 4 w7), (r_aheads, hcI k 4 w8)]) H := hP
        have hD : va_D A ([(ru, .inr (3, [.ref ru_asteps, .ref ru_asumFrom, .ref ru_asumTo, .ref ru_atestTo, .ref ru_astack, .int ru_length, .int ru_clauses, .int ru_units])), (ru_asteps, hcI k 400 ru_rsteps), (ru_asumFrom, hcI k 12 ru_rsumFrom), (ru_asumTo, hcI k 12 ru_rsumTo), (ru_atestTo, hcI k 12 ru_rtestTo), (ru_astack, hcJ k 60 g_1ru_astack), (r, .inr (2, [.int r_told, .int r_strands, .int r_chairs, .int r_sitters, .ref r_atoldCane, .ref r_aheight, .ref r_astrandOf, .ref r_achairOf, .ref r_aweight, .ref r_acane, .int w5, .int w6, .int z9, .ref r_aload, .ref r_aheads, .int r_held, .int r_heldDown])), (r_aheight, hcI k 8 r_rheight), (r_astrandOf, hcI k 8 r_rstrandOf), (r_achairOf, hcI k 8 r_rchairOf), (r_aweight, hcI k 8 r_rweight), (r_acane, hcI k 4 r_rcane), (r_aload, hcI k 4 w7), (r_aheads, hcI k 4 w8)]) := hD
        refine lv_iload_n hx hb dX3_passMinute_89 rfl (lv_at hl 0 rfl) ?_
        exact hc_end hx hb hr hlocks (w5, w6, z9, w7, w8, g_1ru_astack) trivial (hP.sub [6, 7, 8, 9, 10, 11, 12, 13, 0, 1, 2, 3, 4, 5] rfl) (hD.sub [6, 7, 8, 9, 10, 11, 12, 13, 0, 1, 2, 3, 4, 5] (by decide) rfl) hS dX3_passMinute_90
      · have fc2 := cx_ge_f (a := L2_1.toInt) (b := r_sitters.toInt) rfl rfl c2
        refine lv_aload_n hx hb dX3_passMinute_10 rfl (lv_at hl 1 rfl) ?_
        refine va_get (D := D) (ci := 2) (v := .int r_held) (C := RX3) (T := TX3) (N := 17) hx hb hts in3 hown hG.1 hP 0 rfl rfl 15 (by decide) (hts (.fieldLink RX3 59 "ChairCane$Room" "held" "I") (by decide +kernel)) (fun _ h9 => h9) rfl dX3_passMinute_11 ?_
        refine lv_iload_n hx hb dX3_passMinute_14 rfl (lv_at hl 0 rfl) ?_
        refine lv_ishr hx hb dX3_passMinute_15 ?_
        refine lv_topi (fun z10 ez10 => ?_)
        refine lv_iconst (v := 1) hx hb dX3_passMinute_16 (by decide) ?_
        refine lv_iand hx hb dX3_passMinute_17 ?_
        refine lv_topi (fun z11 ez11 => ?_)
        have bz11 : iv (0) (1) z11 := ai_mask 1 (by decide) (by decide) ez11
        have bz11_l := bz11.1
        have bz11_u := bz11.2
        refine lv_if_eq (tgt := 45) hx hb dX3_passMinute_18 (by decide) (fun c12 => ?_) (fun c12 => ?_)
        · have fc12 := cx_eq_t (a := z11.toInt) (b := 0) rfl (by decide) c12
          refine lv_aload_n hx hb dX3_passMinute_45 rfl (lv_at hl 2 rfl) ?_
          refine lv_ifnull hx hb dX3_passMinute_46 ?_
          refine lv_aload_n hx hb dX3_passMinute_49 rfl (lv_at hl 1 rfl) ?_
          refine lv_iload_n hx hb dX3_passMinute_50 rfl (lv_at hl 0 rfl) ?_
          refine hc_Vi (As := [.int L2_1]) (rest := []) (n := 1) (wr := [(r_aheight, hcI k 8 r_rheight), (r_astrandOf, hcI k 8 r_rstrandOf), (r_achairOf, hcI k 8 r_rchairOf), (r_aweight, hcI k 8 r_rweight), (r_acane, hcI k 4 r_rcane), (r_aload, hcI k 4 g_1r_aload), (r_aheads, hcI k 4 g_1r_aheads), (ru, .inr (3, [.ref ru_asteps, .ref ru_asumFrom, .ref ru_asumTo, .ref ru_atestTo, .ref ru_astack, .int ru_length, .int ru_clauses, .int ru_units])), (ru_asteps, hcI k 400 ru_rsteps), (ru_asumFrom, hcI k 12 ru_rsumFrom), (ru_asumTo, hcI k 12 ru_rsumTo), (ru_atestTo, hcI k 12 ru_rtestTo), (ru_astack, hcJ k 60 g_1ru_astack)]) hx hb hml hown hts hG hA hP hD hS hl.1 [0] [1, 2, 3, 4, 5, 6, 7, 8, 9, 10, 11, 12, 13] (i_X3_isUp l D k _ L2_1 r r_told r_strands r_chairs r_sitters r_atoldCane r_aheight r_astrandOf r_achairOf r_aweight r_acane K10_1r r_dropped r_minute r_aload r_aheads r_held r_heldDown ⟨by omega, by omega⟩ ⟨by omega, by omega⟩ ⟨by omega, by omega⟩ ⟨by omega, by omega⟩) (ci := 2) (q0 := 0) rfl rfl gX3_passMinute_X3_isUp rfl ⟨rfl, rfl, Nat.le_of_ble_eq_true rfl, Nat.le_of_ble_eq_true rfl⟩ (by decide +kernel) rfl rfl ⟨by decide, by decide, by decide⟩ ⟨rfl, rfl, Nat.le_of_ble_eq_true rfl, Nat.le_of_ble_eq_true rfl, Nat.le_of_ble_eq_true rfl⟩ dX3_passMinute_51 (fun r14 u13 H locs hw hP hD hS => ?_)
          have hP : va_P D vwCl ([(r_aheight, hcI k 8 r_rheight), (r_astrandOf, hcI k 8 r_rstrandOf), (r_achairOf, hcI k 8 r_rchairOf), (r_aweight, hcI k 8 r_rweight), (r_acane, hcI k 4 r_rcane), (r_aload, hcI k 4 g_1r_aload), (r_aheads, hcI k 4 g_1r_aheads), (ru, .inr (3, [.ref ru_asteps, .ref ru_asumFrom, .ref ru_asumTo, .ref ru_atestTo, .ref ru_astack, .int ru_length, .int ru_clauses, .int ru_units])), (ru_asteps, hcI k 400 ru_rsteps), (ru_asumFrom, hcI k 12 ru_rsumFrom), (ru_asumTo, hcI k 12 ru_rsumTo), (ru_atestTo, hcI k 12 ru_rtestTo), (ru_astack, hcJ k 60 g_1ru_astack), (r, .inr (2, [.int r_told, .int r_strands, .int r_chairs, .int r_sitters, .ref r_atoldCane, .ref r_aheight, .ref r_astrandOf, .ref r_achairOf, .ref r_aweight, .ref r_acane, .int K10_1r, .int r_dropped, .int r_minute, .ref r_aload, .ref r_aheads, .int r_held, .int r_heldDown]))]) H := hP
          have hD : va_D A ([(r_aheight, hcI k 8 r_rheight), (r_astrandOf, hcI k 8 r_rstrandOf), (r_achairOf, hcI k 8 r_rchairOf), (r_aweight, hcI k 8 r_rweight), (r_acane, hcI k 4 r_rcane), (r_aload, hcI k 4 g_1r_aload), (r_aheads, hcI k 4 g_1r_aheads), (ru, .inr (3, [.ref ru_asteps, .ref ru_asumFrom, .ref ru_asumTo, .ref ru_atestTo, .ref ru_astack, .int ru_length, .int ru_clauses, .int ru_units])), (ru_asteps, hcI k 400 ru_rsteps), (ru_asumFrom, hcI k 12 ru_rsumFrom), (ru_asumTo, hcI k 12 ru_rsumTo), (ru_atestTo, hcI k 12 ru_rtestTo), (ru_astack, hcJ k 60 g_1ru_astack), (r, .inr (2, [.int r_told, .int r_strands, .int r_chairs, .int r_sitters, .ref r_atoldCane, .ref r_aheight, .ref r_astrandOf, .ref r_achairOf, .ref r_aweight, .ref r_acane, .int K10_1r, .int r_dropped, .int r_minute, .ref r_aload, .ref r_aheads, .int r_held, .int r_heldDown]))]) := hD
          obtain ⟨br14, rel15⟩ := hw
          have br14 : iv (0) (1) r14 := br14
          have br14_l := br14.1
          have br14_u := br14.2
          refine lv_if_eq (tgt := 68) hx hb dX3_passMinute_54 (by decide) (fun c16 => ?_) (fun c16 => ?_)
          · have fc16 := cx_eq_t (a := r14.toInt) (b := 0) rfl (by decide) c16
            obtain ⟨z17, ez17⟩ : ∃ z : Int32, z = L2_1 + 1 := ⟨_, rfl⟩
            have tz17 : z17.toInt = L2_1.toInt + (1) := ai_add rfl (by decide) ez17 (by omega) (by omega)
            refine lv_iinc (v := z17) (lv' := [(2, .int z17), (0, .ref r), (1, .ref ru)]) hx hb dX3_passMinute_68 hl (k := 0) rfl (by rw [ez17]; rfl) (by decide) rfl (fun ls hl => ?_)
            refine lv_goto (tgt := 2) hx hb dX3_passMinute_71 (by decide) ?_
            exact ih1 z17 K10_1r g_1r_aload g_1r_aheads g_1ru_astack ⟨by omega, by omega⟩ (by omega) _ _ _ (hP.sub [13, 0, 1, 2, 3, 4, 5, 6, 7, 8, 9, 10, 11, 12] rfl) (hD.sub [13, 0, 1, 2, 3, 4, 5, 6, 7, 8, 9, 10, 11, 12] (by decide) rfl) hS (lv_sub hl [0, 1, 2] rfl)
          · have fc16 := cx_eq_f (a := r14.toInt) (b := 0) rfl (by decide) c16
            refine lv_aload_n hx hb dX3_passMinute_57 rfl (lv_at hl 1 rfl) ?_
            refine lv_iload_n hx hb dX3_passMinute_58 rfl (lv_at hl 0 rfl) ?_
            refine lv_aload_n hx hb dX3_passMinute_59 rfl (lv_at hl 2 rfl) ?_
            refine lv_iload_n hx hb dX3_passMinute_60 rfl (lv_at hl 0 rfl) ?_
            refine lv_aload_n hx hb dX3_passMinute_61 rfl (lv_at hl 1 rfl) ?_
            refine hc_Vi (As := [.int L2_1, .ref r]) (rest := [.int L2_1, .ref r]) (n := 2) (wr := []) hx hb hml hown hts hG hA hP hD hS hl.1 [7, 8, 9, 10, 11, 12, 13, 0, 1, 2, 3, 4, 5, 6] [] (i_X4_seats l D k _ L2_1 ru ru_asteps ru_asumFrom ru_asumTo ru_atestTo ru_astack ru_length ru_clauses ru_units ru_rsteps ru_rsumFrom ru_rsumTo ru_rtestTo g_1ru_astack r r_told r_strands r_chairs r_sitters r_atoldCane r_aheight r_astrandOf r_achairOf r_aweight r_acane K10_1r r_dropped r_minute r_aload r_aheads r_held r_heldDown r_rheight r_rstrandOf r_rchairOf r_rweight r_rcane g_1r_aload g_1r_aheads ⟨by omega, by omega⟩ ⟨by omega, by omega⟩ h_ru_rsumFrom h_ru_rsumTo h_ru_rtestTo ⟨by omega, by omega⟩ ⟨by omega, by omega⟩ ⟨by omega, by omega⟩ ⟨by omega, by omega⟩ h_r_rstrandOf h_r_rchairOf) (ci := 3) (q0 := 7) rfl rfl gX3_passMinute_X4_seats rfl ⟨rfl, rfl, Nat.le_of_ble_eq_true rfl, Nat.le_of_ble_eq_true rfl⟩ (by decide +kernel) rfl rfl ⟨by decide, by decide, by decide⟩ ⟨rfl, rfl, Nat.le_of_ble_eq_true rfl, Nat.le_of_ble_eq_true rfl, Nat.le_of_ble_eq_true rfl⟩ dX3_passMinute_62 (fun r19 u18 H locs hw hP hD hS => ?_)
            obtain ⟨w20, rfl⟩ : ∃ z, z = u18 := ⟨_, rfl⟩
            have hP : va_P D vwCl ([(ru, .inr (3, [.ref ru_asteps, .ref ru_asumFrom, .ref ru_asumTo, .ref ru_atestTo, .ref ru_astack, .int ru_length, .int ru_clauses, .int ru_units])), (ru_asteps, hcI k 400 ru_rsteps), (ru_asumFrom, hcI k 12 ru_rsumFrom), (ru_asumTo, hcI k 12 ru_rsumTo), (ru_atestTo, hcI k 12 ru_rtestTo), (ru_astack, hcJ k 60 w20), (r, .inr (2, [.int r_told, .int r_strands, .int r_chairs, .int r_sitters, .ref r_atoldCane, .ref r_aheight, .ref r_astrandOf, .ref r_achairOf, .ref r_aweight, .ref r_acane, .int K10_1r, .int r_dropped, .int r_minute, .ref r_aload, .ref r_aheads, .int r_held, .int r_heldDown])), (r_aheight, hcI k 8 r_rheight), (r_astrandOf, hcI k 8 r_rstrandOf), (r_achairOf, hcI k 8 r_rchairOf), (r_aweight, hcI k 8 r_rweight), (r_acane, hcI k 4 r_rcane), (r_aload, hcI k 4 g_1r_aload), (r_aheads, hcI k 4 g_1r_aheads)]) H := hP
            have hD : va_D A ([(ru, .inr (3, [.ref ru_asteps, .ref ru_asumFrom, .ref ru_asumTo, .ref ru_atestTo, .ref ru_astack, .int ru_length, .int ru_clauses, .int ru_units])), (ru_asteps, hcI k 400 ru_rsteps), (ru_asumFrom, hcI k 12 ru_rsumFrom), (ru_asumTo, hcI k 12 ru_rsumTo), (ru_atestTo, hcI k 12 ru_rtestTo), (ru_astack, hcJ k 60 w20), (r, .inr (2, [.int r_told, .int r_strands, .int r_chairs, .int r_sitters, .ref r_atoldCane, .ref r_aheight, .ref r_astrandOf, .ref r_achairOf, .ref r_aweight, .ref r_acane, .int K10_1r, .int r_dropped, .int r_minute, .ref r_aload, .ref r_aheads, .int r_held, .int r_heldDown])), (r_aheight, hcI k 8 r_rheight), (r_astrandOf, hcI k 8 r_rstrandOf), (r_achairOf, hcI k 8 r_rchairOf), (r_aweight, hcI k 8 r_rweight), (r_acane, hcI k 4 r_rcane), (r_aload, hcI k 4 g_1r_aload), (r_aheads, hcI k 4 g_1r_aheads)]) := hD
            have br19 := hw
            have br19 : iv (0) (1) r19 := br19
            have br19_l := br19.1
            have br19_u := br19.2
            refine hc_Vv (As := [.int L2_1, .int r19]) (rest := []) (n := 2) (wr := [(ru, .inr (3, [.ref ru_asteps, .ref ru_asumFrom, .ref ru_asumTo, .ref ru_atestTo, .ref ru_astack, .int ru_length, .int ru_clauses, .int ru_units])), (ru_asteps, hcI k 400 ru_rsteps), (ru_asumFrom, hcI k 12 ru_rsumFrom), (ru_asumTo, hcI k 12 ru_rsumTo), (ru_atestTo, hcI k 12 ru_rtestTo), (ru_astack, hcJ k 60 w20), (r_aheight, hcI k 8 r_rheight), (r_acane, hcI k 4 r_rcane)]) hx hb hml hown hts hG hA hP hD hS hl.1 [6, 8, 9, 10, 12, 13] [0, 1, 2, 3, 4, 5, 7, 11] (i_X3_seat l D k _ L2_1 r19 r r_told r_strands r_chairs r_sitters r_atoldCane r_aheight r_astrandOf r_achairOf r_aweight r_acane K10_1r r_dropped r_minute r_aload r_aheads r_held r_heldDown r_rstrandOf r_rchairOf r_rweight g_1r_aload g_1r_aheads ⟨by omega, by omega⟩ ⟨by omega, by omega⟩ ⟨by omega, by omega⟩ ⟨by omega, by omega⟩ ⟨by omega, by omega⟩ h_r_rstrandOf h_r_rchairOf) (ci := 2) (q0 := 6) rfl rfl gX3_passMinute_X3_seat rfl ⟨rfl, rfl, Nat.le_of_ble_eq_true rfl, Nat.le_of_ble_eq_true rfl⟩ (by decide +kernel) rfl rfl ⟨by decide, by decide, by decide⟩ ⟨rfl, rfl, Nat.le_of_ble_eq_true rfl, Nat.le_of_ble_eq_true rfl, Nat.le_of_ble_eq_true rfl⟩ dX3_passMinute_65 (fun u21 H locs hw hP hD hS => ?_)
            obtain ⟨w23, w24, w25⟩ := u21
            have hP : va_P D vwCl ([(ru, .inr (3, [.ref ru_asteps, .ref ru_asumFrom, .ref ru_asumTo, .ref ru_atestTo, .ref ru_astack, .int ru_length, .int ru_clauses, .int ru_units])), (ru_asteps, hcI k 400 ru_rsteps), (ru_asumFrom, hcI k 12 ru_rsumFrom), (ru_asumTo, hcI k 12 ru_rsumTo), (ru_atestTo, hcI k 12 ru_rtestTo), (ru_astack, hcJ k 60 w20), (r_aheight, hcI k 8 r_rheight), (r_acane, hcI k 4 r_rcane), (r, .inr (2, [.int r_told, .int r_strands, .int r_chairs, .int r_sitters, .ref r_atoldCane, .ref r_aheight, .ref r_astrandOf, .ref r_achairOf, .ref r_aweight, .ref r_acane, .int w23, .int r_dropped, .int r_minute, .ref r_aload, .ref r_aheads, .int r_held, .int r_heldDown])), (r_astrandOf, hcI k 8 r_rstrandOf), (r_achairOf, hcI k 8 r_rchairOf), (r_aweight, hcI k 8 r_rweight), (r_aload, hcI k 4 w24), (r_aheads, hcI k 4 w25)]) H := hP
            have hD : va_D A ([(ru, .inr (3, [.ref ru_asteps, .ref ru_asumFrom, .ref ru_asumTo, .ref ru_atestTo, .ref ru_astack, .int ru_length, .int ru_clauses, .int ru_units])), (ru_asteps, hcI k 400 ru_rsteps), (ru_asumFrom, hcI k 12 ru_rsumFrom), (ru_asumTo, hcI k 12 ru_rsumTo), (ru_atestTo, hcI k 12 ru_rtestTo), (ru_astack, hcJ k 60 w20), (r_aheight, hcI k 8 r_rheight), (r_acane, hcI k 4 r_rcane), (r, .inr (2, [.int r_told, .int r_strands, .int r_chairs, .int r_sitters, .ref r_atoldCane, .ref r_aheight, .ref r_astrandOf, .ref r_achairOf, .ref r_aweight, .ref r_acane, .int w23, .int r_dropped, .int r_minute, .ref r_aload, .ref r_aheads, .int r_held, .int r_heldDown])), (r_astrandOf, hcI k 8 r_rstrandOf), (r_achairOf, hcI k 8 r_rchairOf), (r_aweight, hcI k 8 r_rweight), (r_aload, hcI k 4 w24), (r_aheads, hcI k 4 w25)]) := hD
            obtain ⟨z26, ez26⟩ : ∃ z : Int32, z = L2_1 + 1 := ⟨_, rfl⟩
            have tz26 : z26.toInt = L2_1.toInt + (1) := ai_add rfl (by decide) ez26 (by omega) (by omega)
            refine lv_iinc (v := z26) (lv' := [(2, .int z26), (0, .ref r), (1, .ref ru)]) hx hb dX3_passMinute_68 hl (k := 0) rfl (by rw [ez26]; rfl) (by decide) rfl (fun ls hl => ?_)
            refine lv_goto (tgt := 2) hx hb dX3_passMinute_71 (by decide) ?_
            exact ih1 z26 w23 w24 w25 w20 ⟨by omega, by omega⟩ (by omega) _ _ _ (hP.sub [8, 6, 9, 10, 11, 7, 12, 13, 0, 1, 2, 3, 4, 5] rfl) (hD.sub [8, 6, 9, 10, 11, 7, 12, 13, 0, 1, 2, 3, 4, 5] (by decide) rfl) hS (lv_sub hl [0, 1, 2] rfl)
        · have fc12 := cx_eq_f (a := z11.toInt) (b := 0) rfl (by decide) c12
          refine lv_aload_n hx hb dX3_passMinute_21 rfl (lv_at hl 1 rfl) ?_
          refine lv_iload_n hx hb dX3_passMinute_22 rfl (lv_at hl 0 rfl) ?_
          refine lv_aload_n hx hb dX3_passMinute_23 rfl (lv_at hl 1 rfl) ?_
          refine va_get (D := D) (ci := 2) (v := .int r_heldDown) (C := RX3) (T := TX3) (N := 17) hx hb hts in3 hown hG.1 hP 0 rfl rfl 16 (by decide) (hts (.fieldLink RX3 62 "ChairCane$Room" "heldDown" "I") (by decide +kernel)) (fun _ h9 => h9) rfl dX3_passMinute_24 ?_
          refine lv_iload_n hx hb dX3_passMinute_27 rfl (lv_at hl 0 rfl) ?_
          refine lv_ishr hx hb dX3_passMinute_28 ?_
          refine lv_topi (fun z27 ez27 => ?_)
          refine lv_iconst (v := 1) hx hb dX3_passMinute_29 (by decide) ?_
          refine lv_iand hx hb dX3_passMinute_30 ?_
          refine lv_topi (fun z28 ez28 => ?_)
          have bz28 : iv (0) (1) z28 := ai_mask 1 (by decide) (by decide) ez28
          have bz28_l := bz28.1
          have bz28_u := bz28.2
          refine lv_if_eq (tgt := 38) hx hb dX3_passMinute_31 (by decide) (fun c29 => ?_) (fun c29 => ?_)
          · have fc29 := cx_eq_t (a := z28.toInt) (b := 0) rfl (by decide) c29
            refine lv_iconst (v := 0) hx hb dX3_passMinute_38 (by decide) ?_
            refine hc_Vv (As := [.int L2_1, .int 0]) (rest := []) (n := 2) (wr := [(r_aheight, hcI k 8 r_rheight), (r_acane, hcI k 4 r_rcane), (ru, .inr (3, [.ref ru_asteps, .ref ru_asumFrom, .ref ru_asumTo, .ref ru_atestTo, .ref ru_astack, .int ru_length, .int ru_clauses, .int ru_units])), (ru_asteps, hcI k 400 ru_rsteps), (ru_asumFrom, hcI k 12 ru_rsumFrom), (ru_asumTo, hcI k 12 ru_rsumTo), (ru_atestTo, hcI k 12 ru_rtestTo), (ru_astack, hcJ k 60 g_1ru_astack)]) hx hb hml hown hts hG hA hP hD hS hl.1 [0, 2, 3, 4, 6, 7] [1, 5, 8, 9, 10, 11, 12, 13] (i_X3_seat l D k _ L2_1 0 r r_told r_strands r_chairs r_sitters r_atoldCane r_aheight r_astrandOf r_achairOf r_aweight r_acane K10_1r r_dropped r_minute r_aload r_aheads r_held r_heldDown r_rstrandOf r_rchairOf r_rweight g_1r_aload g_1r_aheads (iv_lit (by decide) (by decide)) ⟨by omega, by omega⟩ ⟨by omega, by omega⟩ ⟨by omega, by omega⟩ ⟨by omega, by omega⟩ h_r_rstrandOf h_r_rchairOf) (ci := 2) (q0 := 0) rfl rfl gX3_passMinute_X3_seat rfl ⟨rfl, rfl, Nat.le_of_ble_eq_true rfl, Nat.le_of_ble_eq_true rfl⟩ (by decide +kernel) rfl rfl ⟨by decide, by decide, by decide⟩ ⟨rfl, rfl, Nat.le_of_ble_eq_true rfl, Nat.le_of_ble_eq_true rfl, Nat.le_of_ble_eq_true rfl⟩ dX3_passMinute_39 (fun u30 H locs hw hP hD hS => ?_)
            obtain ⟨w32, w33, w34⟩ := u30
            have hP : va_P D vwCl ([(r_aheight, hcI k 8 r_rheight), (r_acane, hcI k 4 r_rcane), (ru, .inr (3, [.ref ru_asteps, .ref ru_asumFrom, .ref ru_asumTo, .ref ru_atestTo, .ref ru_astack, .int ru_length, .int ru_clauses, .int ru_units])), (ru_asteps, hcI k 400 ru_rsteps), (ru_asumFrom, hcI k 12 ru_rsumFrom), (ru_asumTo, hcI k 12 ru_rsumTo), (ru_atestTo, hcI k 12 ru_rtestTo), (ru_astack, hcJ k 60 g_1ru_astack), (r, .inr (2, [.int r_told, .int r_strands, .int r_chairs, .int r_sitters, .ref r_atoldCane, .ref r_aheight, .ref r_astrandOf, .ref r_achairOf, .ref r_aweight, .ref r_acane, .int w32, .int r_dropped, .int r_minute, .ref r_aload, .ref r_aheads, .int r_held, .int r_heldDown])), (r_astrandOf, hcI k 8 r_rstrandOf), (r_achairOf, hcI k 8 r_rchairOf), (r_aweight, hcI k 8 r_rweight), (r_aload, hcI k 4 w33), (r_aheads, hcI k 4 w34)]) H := hP
            have hD : va_D A ([(r_aheight, hcI k 8 r_rheight), (r_acane, hcI k 4 r_rcane), (ru, .inr (3, [.ref ru_asteps, .ref ru_asumFrom, .ref ru_asumTo, .ref ru_atestTo, .ref ru_astack, .int ru_length, .int ru_clauses, .int ru_units])), (ru_asteps, hcI k 400 ru_rsteps), (ru_asumFrom, hcI k 12 ru_rsumFrom), (ru_asumTo, hcI k 12 ru_rsumTo), (ru_atestTo, hcI k 12 ru_rtestTo), (ru_astack, hcJ k 60 g_1ru_astack), (r, .inr (2, [.int r_told, .int r_strands, .int r_chairs, .int r_sitters, .ref r_atoldCane, .ref r_aheight, .ref r_astrandOf, .ref r_achairOf, .ref r_aweight, .ref r_acane, .int w32, .int r_dropped, .int r_minute, .ref r_aload, .ref r_aheads, .int r_held, .int r_heldDown])), (r_astrandOf, hcI k 8 r_rstrandOf), (r_achairOf, hcI k 8 r_rchairOf), (r_aweight, hcI k 8 r_rweight), (r_aload, hcI k 4 w33), (r_aheads, hcI k 4 w34)]) := hD
            refine lv_goto (tgt := 68) hx hb dX3_passMinute_42 (by decide) ?_
            obtain ⟨z35, ez35⟩ : ∃ z : Int32, z = L2_1 + 1 := ⟨_, rfl⟩
            have tz35 : z35.toInt = L2_1.toInt + (1) := ai_add rfl (by decide) ez35 (by omega) (by omega)
            refine lv_iinc (v := z35) (lv' := [(2, .int z35), (0, .ref r), (1, .ref ru)]) hx hb dX3_passMinute_68 hl (k := 0) rfl (by rw [ez35]; rfl) (by decide) rfl (fun ls hl => ?_)
            refine lv_goto (tgt := 2) hx hb dX3_passMinute_71 (by decide) ?_
            exact ih1 z35 w32 w33 w34 g_1ru_astack ⟨by omega, by omega⟩ (by omega) _ _ _ (hP.sub [8, 0, 9, 10, 11, 1, 12, 13, 2, 3, 4, 5, 6, 7] rfl) (hD.sub [8, 0, 9, 10, 11, 1, 12, 13, 2, 3, 4, 5, 6, 7] (by decide) rfl) hS (lv_sub hl [0, 1, 2] rfl)
          · have fc29 := cx_eq_f (a := z28.toInt) (b := 0) rfl (by decide) c29
            refine lv_iconst (v := 1) hx hb dX3_passMinute_34 (by decide) ?_
            refine lv_goto (tgt := 39) hx hb dX3_passMinute_35 (by decide) ?_
            refine hc_Vv (As := [.int L2_1, .int 1]) (rest := []) (n := 2) (wr := [(r_aheight, hcI k 8 r_rheight), (r_acane, hcI k 4 r_rcane), (ru, .inr (3, [.ref ru_asteps, .ref ru_asumFrom, .ref ru_asumTo, .ref ru_atestTo, .ref ru_astack, .int ru_length, .int ru_clauses, .int ru_units])), (ru_asteps, hcI k 400 ru_rsteps), (ru_asumFrom, hcI k 12 ru_rsumFrom), (ru_asumTo, hcI k 12 ru_rsumTo), (ru_atestTo, hcI k 12 ru_rtestTo), (ru_astack, hcJ k 60 g_1ru_astack)]) hx hb hml hown hts hG hA hP hD hS hl.1 [0, 2, 3, 4, 6, 7] [1, 5, 8, 9, 10, 11, 12, 13] (i_X3_seat l D k _ L2_1 1 r r_told r_strands r_chairs r_sitters r_atoldCane r_aheight r_astrandOf r_achairOf r_aweight r_acane K10_1r r_dropped r_minute r_aload r_aheads r_held r_heldDown r_rstrandOf r_rchairOf r_rweight g_1r_aload g_1r_aheads (iv_lit (by decide) (by decide)) ⟨by omega, by omega⟩ ⟨by omega, by omega⟩ ⟨by omega, by omega⟩ ⟨by omega, by omega⟩ h_r_rstrandOf h_r_rchairOf) (ci := 2) (q0 := 0) rfl rfl gX3_passMinute_X3_seat rfl ⟨rfl, rfl, Nat.le_of_ble_eq_true rfl, Nat.le_of_ble_eq_true rfl⟩ (by decide +kernel) rfl rfl ⟨by decide, by decide, by decide⟩ ⟨rfl, rfl, Nat.le_of_ble_eq_true rfl, Nat.le_of_ble_eq_true rfl, Nat.le_of_ble_eq_true rfl⟩ dX3_passMinute_39 (fun u36 H locs hw hP hD hS => ?_)
            obtain ⟨w38, w39, w40⟩ := u36
            have hP : va_P D vwCl ([(r_aheight, hcI k 8 r_rheight), (r_acane, hcI k 4 r_rcane), (ru, .inr (3, [.ref ru_asteps, .ref ru_asumFrom, .ref ru_asumTo, .ref ru_atestTo, .ref ru_astack, .int ru_length, .int ru_clauses, .int ru_units])), (ru_asteps, hcI k 400 ru_rsteps), (ru_asumFrom, hcI k 12 ru_rsumFrom), (ru_asumTo, hcI k 12 ru_rsumTo), (ru_atestTo, hcI k 12 ru_rtestTo), (ru_astack, hcJ k 60 g_1ru_astack), (r, .inr (2, [.int r_told, .int r_strands, .int r_chairs, .int r_sitters, .ref r_atoldCane, .ref r_aheight, .ref r_astrandOf, .ref r_achairOf, .ref r_aweight, .ref r_acane, .int w38, .int r_dropped, .int r_minute, .ref r_aload, .ref r_aheads, .int r_held, .int r_heldDown])), (r_astrandOf, hcI k 8 r_rstrandOf), (r_achairOf, hcI k 8 r_rchairOf), (r_aweight, hcI k 8 r_rweight), (r_aload, hcI k 4 w39), (r_aheads, hcI k 4 w40)]) H := hP
            have hD : va_D A ([(r_aheight, hcI k 8 r_rheight), (r_acane, hcI k 4 r_rcane), (ru, .inr (3, [.ref ru_asteps, .ref ru_asumFrom, .ref ru_asumTo, .ref ru_atestTo, .ref ru_astack, .int ru_length, .int ru_clauses, .int ru_units])), (ru_asteps, hcI k 400 ru_rsteps), (ru_asumFrom, hcI k 12 ru_rsumFrom), (ru_asumTo, hcI k 12 ru_rsumTo), (ru_atestTo, hcI k 12 ru_rtestTo), (ru_astack, hcJ k 60 g_1ru_astack), (r, .inr (2, [.int r_told, .int r_strands, .int r_chairs, .int r_sitters, .ref r_atoldCane, .ref r_aheight, .ref r_astrandOf, .ref r_achairOf, .ref r_aweight, .ref r_acane, .int w38, .int r_dropped, .int r_minute, .ref r_aload, .ref r_aheads, .int r_held, .int r_heldDown])), (r_astrandOf, hcI k 8 r_rstrandOf), (r_achairOf, hcI k 8 r_rchairOf), (r_aweight, hcI k 8 r_rweight), (r_aload, hcI k 4 w39), (r_aheads, hcI k 4 w40)]) := hD
            refine lv_goto (tgt := 68) hx hb dX3_passMinute_42 (by decide) ?_
            obtain ⟨z41, ez41⟩ : ∃ z : Int32, z = L2_1 + 1 := ⟨_, rfl⟩
            have tz41 : z41.toInt = L2_1.toInt + (1) := ai_add rfl (by decide) ez41 (by omega) (by omega)
            refine lv_iinc (v := z41) (lv' := [(2, .int z41), (0, .ref r), (1, .ref ru)]) hx hb dX3_passMinute_68 hl (k := 0) rfl (by rw [ez41]; rfl) (by decide) rfl (fun ls hl => ?_)
            refine lv_goto (tgt := 2) hx hb dX3_passMinute_71 (by decide) ?_
            exact ih1 z41 w38 w39 w40 g_1ru_astack ⟨by omega, by omega⟩ (by omega) _ _ _ (hP.sub [8, 0, 9, 10, 11, 1, 12, 13, 2, 3, 4, 5, 6, 7] rfl) (hD.sub [8, 0, 9, 10, 11, 1, 12, 13, 2, 3, 4, 5, 6, 7] (by decide) rfl) hS (lv_sub hl [0, 1, 2] rfl)
  exact loop1 100 0 r_sits r_rload r_rheads ru_rstack (iv_lit (by decide) (by decide)) (by have q0 : (0 : Int32).toInt = 0 := (by decide); omega) _ _ _ hP hD hS hl
set_option maxHeartbeats 4000000 in
set_option maxRecDepth 100000 in
theorem i_X3_passMinute (l : Launch) (D : va_G) (k : Nat → ClassId) (sz : Nat) (r : Nat) (r_told : Int32) (r_strands : Int32) (r_chairs : Int32) (r_sitters : Int32) (r_atoldCane : Nat) (r_aheight : Nat) (r_astrandOf : Nat) (r_achairOf : Nat) (r_aweight : Nat) (r_acane : Nat) (r_sits : Int32) (r_dropped : Int32) (r_minute : Int32) (r_aload : Nat) (r_aheads : Nat) (r_held : Int32) (r_heldDown : Int32) (r_rheight : Nat → Int32) (r_rstrandOf : Nat → Int32) (r_rchairOf : Nat → Int32) (r_rweight : Nat → Int32) (r_rcane : Nat → Int32) (r_rload : Nat → Int32) (r_rheads : Nat → Int32) (ra : Nat → Nat) (rz : RZ) (ro : Option Nat) (h_r_told : iv (0) (1) r_told) (h_r_strands : iv (0) (4) r_strands) (h_r_chairs : iv (0) (8) r_chairs) (h_r_sitters : iv (0) (8) r_sitters) (h_r_rstrandOf : rowIn (0) (3) r_rstrandOf) (h_r_rchairOf : rowIn (0) (7) r_rchairOf) (h_rz : RUok rz) (ho_ro : RUarg ra ro) : CtI l yX3_passMinute wsX3_passMinute (rmK 5 0 0) [.ref r, va_rf ro] D k sz ([(r, .inr (2, [.int r_told, .int r_strands, .int r_chairs, .int r_sitters, .ref r_atoldCane, .ref r_aheight, .ref r_astrandOf, .ref r_achairOf, .ref r_aweight, .ref r_acane, .int r_sits, .int r_dropped, .int r_minute, .ref r_aload, .ref r_aheads, .int r_held, .int r_heldDown])), (r_aheight, hcI k 8 r_rheight), (r_astrandOf, hcI k 8 r_rstrandOf), (r_achairOf, hcI k 8 r_rchairOf), (r_aweight, hcI k 8 r_rweight), (r_acane, hcI k 4 r_rcane), (r_aload, hcI k 4 r_rload), (r_aheads, hcI k 4 r_rheads)] ++ (RU_i k ra rz)) (fun (r : Int32) (u : (Int32) × (Int32) × (Int32) × (Nat → Int32) × (Nat → Int32) × (RZ)) => RUok (u.2.2.2.2.2)) (fun u : (Int32) × (Int32) × (Int32) × (Nat → Int32) × (Nat → Int32) × (RZ) => [(r, .inr (2, [.int r_told, .int r_strands, .int r_chairs, .int r_sitters, .ref r_atoldCane, .ref r_aheight, .ref r_astrandOf, .ref r_achairOf, .ref r_aweight, .ref r_acane, .int (u.1), .int (u.2.1), .int (u.2.2.1), .ref r_aload, .ref r_aheads, .int r_held, .int r_heldDown])), (r_aheight, hcI k 8 r_rheight), (r_astrandOf, hcI k 8 r_rstrandOf), (r_achairOf, hcI k 8 r_rchairOf), (r_aweight, hcI k 8 r_rweight), (r_acane, hcI k 4 r_rcane), (r_aload, hcI k 4 (u.2.2.2.1)), (r_aheads, hcI k 4 (u.2.2.2.2.1))] ++ (RU_i k ra (u.2.2.2.2.2))) 0 0 := by
  rcases ho_ro with rfl | rfl | rfl | rfl | rfl | rfl | rfl
  · exact CtI.fr (wr := RU_i k ra rz) (i_X3_passMinute_n l D k sz r r_told r_strands r_chairs r_sitters r_atoldCane r_aheight r_astrandOf r_achairOf r_aweight r_acane r_sits r_dropped r_minute r_aload r_aheads r_held r_heldDown r_rheight r_rstrandOf r_rchairOf r_rweight r_rcane r_rload r_rheads h_r_told h_r_strands h_r_chairs h_r_sitters h_r_rstrandOf h_r_rchairOf) [0, 1, 2, 3, 4, 5, 6, 7] [8, 9, 10, 11, 12, 13, 14, 15, 16, 17, 18, 19, 20, 21, 22, 23, 24, 25, 26, 27, 28, 29, 30, 31, 32, 33, 34, 35, 36, 37, 38, 39, 40, 41, 42, 43] [36, 37, 38, 39, 40, 41, 42, 43, 0, 1, 2, 3, 4, 5, 6, 7, 8, 9, 10, 11, 12, 13, 14, 15, 16, 17, 18, 19, 20, 21, 22, 23, 24, 25, 26, 27, 28, 29, 30, 31, 32, 33, 34, 35] (fun u => (u.1, u.2.1, u.2.2.1, u.2.2.2.1, u.2.2.2.2, rz)) rfl rfl ⟨by decide, by decide, by decide, by decide⟩ (fun u => rfl) (fr_in [0, 1, 2, 3, 4, 5, 6, 7] rfl) (fun _ _ _ => h_rz)
  · exact CtI.fr (wr := (RU_i k ra rz).take 0 ++ (RU_i k ra rz).drop 6) (i_X3_passMinute_r l D k sz r r_told r_strands r_chairs r_sitters r_atoldCane r_aheight r_astrandOf r_achairOf r_aweight r_acane r_sits r_dropped r_minute r_aload r_aheads r_held r_heldDown r_rheight r_rstrandOf r_rchairOf r_rweight r_rcane r_rload r_rheads (ra 0) (ra 1) (ra 2) (ra 3) (ra 4) (ra 5) (rz.1 0) (rz.1 1) (rz.1 2) (rz.2.1 0) (rz.2.1 1) (rz.2.1 2) (rz.2.1 3) (rz.2.2 0) h_r_told h_r_strands h_r_chairs h_r_sitters h_r_rstrandOf h_r_rchairOf (h_rz.1 0).1 (h_rz.1 0).2 (h_rz.2 0).1 (h_rz.2 0).2.1 (h_rz.2 0).2.2) [0, 1, 2, 3, 4, 5, 6, 7, 8, 9, 10, 11, 12, 13] [14, 15, 16, 17, 18, 19, 20, 21, 22, 23, 24, 25, 26, 27, 28, 29, 30, 31, 32, 33, 34, 35, 36, 37, 38, 39, 40, 41, 42, 43] [30, 31, 32, 33, 34, 35, 36, 37, 38, 39, 40, 41, 42, 43, 0, 1, 2, 3, 4, 5, 6, 7, 8, 9, 10, 11, 12, 13, 14, 15, 16, 17, 18, 19, 20, 21, 22, 23, 24, 25, 26, 27, 28, 29] (fun u => (u.1, u.2.1, u.2.2.1, u.2.2.2.1, u.2.2.2.2.1, (rz.1, rz.2.1, uq rz.2.2 0 (u.2.2.2.2.2)))) rfl rfl ⟨by decide, by decide, by decide, by decide⟩ (fun u => rfl) (fr_in [0, 1, 2, 3, 4, 5, 6, 7, 8, 9, 10, 11, 12, 13] rfl) (fun _ _ _ => h_rz)
  · exact CtI.fr (wr := (RU_i k ra rz).take 6 ++ (RU_i k ra rz).drop 12) (i_X3_passMinute_r l D k sz r r_told r_strands r_chairs r_sitters r_atoldCane r_aheight r_astrandOf r_achairOf r_aweight r_acane r_sits r_dropped r_minute r_aload r_aheads r_held r_heldDown r_rheight r_rstrandOf r_rchairOf r_rweight r_rcane r_rload r_rheads (ra 6) (ra 7) (ra 8) (ra 9) (ra 10) (ra 11) (rz.1 3) (rz.1 4) (rz.1 5) (rz.2.1 4) (rz.2.1 5) (rz.2.1 6) (rz.2.1 7) (rz.2.2 1) h_r_told h_r_strands h_r_chairs h_r_sitters h_r_rstrandOf h_r_rchairOf (h_rz.1 1).1 (h_rz.1 1).2 (h_rz.2 1).1 (h_rz.2 1).2.1 (h_rz.2 1).2.2) [0, 1, 2, 3, 4, 5, 6, 7, 14, 15, 16, 17, 18, 19] [8, 9, 10, 11, 12, 13, 20, 21, 22, 23, 24, 25, 26, 27, 28, 29, 30, 31, 32, 33, 34, 35, 36, 37, 38, 39, 40, 41, 42, 43] [30, 31, 32, 33, 34, 35, 36, 37, 0, 1, 2, 3, 4, 5, 38, 39, 40, 41, 42, 43, 6, 7, 8, 9, 10, 11, 12, 13, 14, 15, 16, 17, 18, 19, 20, 21, 22, 23, 24, 25, 26, 27, 28, 29] (fun u => (u.1, u.2.1, u.2.2.1, u.2.2.2.1, u.2.2.2.2.1, (rz.1, rz.2.1, uq rz.2.2 1 (u.2.2.2.2.2)))) rfl rfl ⟨by decide, by decide, by decide, by decide⟩ (fun u => rfl) (fr_in [0, 1, 2, 3, 4, 5, 6, 7, 14, 15, 16, 17, 18, 19] rfl) (fun _ _ _ => h_rz)
  · exact CtI.fr (wr := (RU_i k ra rz).take 12 ++ (RU_i k ra rz).drop 18) (i_X3_passMinute_r l D k sz r r_told r_strands r_chairs r_sitters r_atoldCane r_aheight r_astrandOf r_achairOf r_aweight r_acane r_sits r_dropped r_minute r_aload r_aheads r_held r_heldDown r_rheight r_rstrandOf r_rchairOf r_rweight r_rcane r_rload r_rheads (ra 12) (ra 13) (ra 14) (ra 15) (ra 16) (ra 17) (rz.1 6) (rz.1 7) (rz.1 8) (rz.2.1 8) (rz.2.1 9) (rz.2.1 10) (rz.2.1 11) (rz.2.2 2) h_r_told h_r_strands h_r_chairs h_r_sitters h_r_rstrandOf h_r_rchairOf (h_rz.1 2).1 (h_rz.1 2).2 (h_rz.2 2).1 (h_rz.2 2).2.1 (h_rz.2 2).2.2) [0, 1, 2, 3, 4, 5, 6, 7, 20, 21, 22, 23, 24, 25] [8, 9, 10, 11, 12, 13, 14, 15, 16, 17, 18, 19, 26, 27, 28, 29, 30, 31, 32, 33, 34, 35, 36, 37, 38, 39, 40, 41, 42, 43] [30, 31, 32, 33, 34, 35, 36, 37, 0, 1, 2, 3, 4, 5, 6, 7, 8, 9, 10, 11, 38, 39, 40, 41, 42, 43, 12, 13, 14, 15, 16, 17, 18, 19, 20, 21, 22, 23, 24, 25, 26, 27, 28, 29] (fun u => (u.1, u.2.1, u.2.2.1, u.2.2.2.1, u.2.2.2.2.1, (rz.1, rz.2.1, uq rz.2.2 2 (u.2.2.2.2.2)))) rfl rfl ⟨by decide, by decide, by decide, by decide⟩ (fun u => rfl) (fr_in [0, 1, 2, 3, 4, 5, 6, 7, 20, 21, 22, 23, 24, 25] rfl) (fun _ _ _ => h_rz)
  · exact CtI.fr (wr := (RU_i k ra rz).take 18 ++ (RU_i k ra rz).drop 24) (i_X3_passMinute_r l D k sz r r_told r_strands r_chairs r_sitters r_atoldCane r_aheight r_astrandOf r_achairOf r_aweight r_acane r_sits r_dropped r_minute r_aload r_aheads r_held r_heldDown r_rheight r_rstrandOf r_rchairOf r_rweight r_rcane r_rload r_rheads (ra 18) (ra 19) (ra 20) (ra 21) (ra 22) (ra 23) (rz.1 9) (rz.1 10) (rz.1 11) (rz.2.1 12) (rz.2.1 13) (rz.2.1 14) (rz.2.1 15) (rz.2.2 3) h_r_told h_r_strands h_r_chairs h_r_sitters h_r_rstrandOf h_r_rchairOf (h_rz.1 3).1 (h_rz.1 3).2 (h_rz.2 3).1 (h_rz.2 3).2.1 (h_rz.2 3).2.2) [0, 1, 2, 3, 4, 5, 6, 7, 26, 27, 28, 29, 30, 31] [8, 9, 10, 11, 12, 13, 14, 15, 16, 17, 18, 19, 20, 21, 22, 23, 24, 25, 32, 33, 34, 35, 36, 37, 38, 39, 40, 41, 42, 43] [30, 31, 32, 33, 34, 35, 36, 37, 0, 1, 2, 3, 4, 5, 6, 7, 8, 9, 10, 11, 12, 13, 14, 15, 16, 17, 38, 39, 40, 41, 42, 43, 18, 19, 20, 21, 22, 23, 24, 25, 26, 27, 28, 29] (fun u => (u.1, u.2.1, u.2.2.1, u.2.2.2.1, u.2.2.2.2.1, (rz.1, rz.2.1, uq rz.2.2 3 (u.2.2.2.2.2)))) rfl rfl ⟨by decide, by decide, by decide, by decide⟩ (fun u => rfl) (fr_in [0, 1, 2, 3, 4, 5, 6, 7, 26, 27, 28, 29, 30, 31] rfl) (fun _ _ _ => h_rz)
  · exact CtI.fr (wr := (RU_i k ra rz).take 24 ++ (RU_i k ra rz).drop 30) (i_X3_passMinute_r l D k sz r r_told r_strands r_chairs r_sitters r_atoldCane r_aheight r_astrandOf r_achairOf r_aweight r_acane r_sits r_dropped r_minute r_aload r_aheads r_held r_heldDown r_rheight r_rstrandOf r_rchairOf r_rweight r_rcane r_rload r_rheads (ra 24) (ra 25) (ra 26) (ra 27) (ra 28) (ra 29) (rz.1 12) (rz.1 13) (rz.1 14) (rz.2.1 16) (rz.2.1 17) (rz.2.1 18) (rz.2.1 19) (rz.2.2 4) h_r_told h_r_strands h_r_chairs h_r_sitters h_r_rstrandOf h_r_rchairOf (h_rz.1 4).1 (h_rz.1 4).2 (h_rz.2 4).1 (h_rz.2 4).2.1 (h_rz.2 4).2.2) [0, 1, 2, 3, 4, 5, 6, 7, 32, 33, 34, 35, 36, 37] [8, 9, 10, 11, 12, 13, 14, 15, 16, 17, 18, 19, 20, 21, 22, 23, 24, 25, 26, 27, 28, 29, 30, 31, 38, 39, 40, 41, 42, 43] [30, 31, 32, 33, 34, 35, 36, 37, 0, 1, 2, 3, 4, 5, 6, 7, 8, 9, 10, 11, 12, 13, 14, 15, 16, 17, 18, 19, 20, 21, 22, 23, 38, 39, 40, 41, 42, 43, 24, 25, 26, 27, 28, 29] (fun u => (u.1, u.2.1, u.2.2.1, u.2.2.2.1, u.2.2.2.2.1, (rz.1, rz.2.1, uq rz.2.2 4 (u.2.2.2.2.2)))) rfl rfl ⟨by decide, by decide, by decide, by decide⟩ (fun u => rfl) (fr_in [0, 1, 2, 3, 4, 5, 6, 7, 32, 33, 34, 35, 36, 37] rfl) (fun _ _ _ => h_rz)
  · exact CtI.fr (wr := (RU_i k ra rz).take 30 ++ (RU_i k ra rz).drop 36) (i_X3_passMinute_r l D k sz r r_told r_strands r_chairs r_sitters r_atoldCane r_aheight r_astrandOf r_achairOf r_aweight r_acane r_sits r_dropped r_minute r_aload r_aheads r_held r_heldDown r_rheight r_rstrandOf r_rchairOf r_rweight r_rcane r_rload r_rheads (ra 30) (ra 31) (ra 32) (ra 33) (ra 34) (ra 35) (rz.1 15) (rz.1 16) (rz.1 17) (rz.2.1 20) (rz.2.1 21) (rz.2.1 22) (rz.2.1 23) (rz.2.2 5) h_r_told h_r_strands h_r_chairs h_r_sitters h_r_rstrandOf h_r_rchairOf (h_rz.1 5).1 (h_rz.1 5).2 (h_rz.2 5).1 (h_rz.2 5).2.1 (h_rz.2 5).2.2) [0, 1, 2, 3, 4, 5, 6, 7, 38, 39, 40, 41, 42, 43] [8, 9, 10, 11, 12, 13, 14, 15, 16, 17, 18, 19, 20, 21, 22, 23, 24, 25, 26, 27, 28, 29, 30, 31, 32, 33, 34, 35, 36, 37] [30, 31, 32, 33, 34, 35, 36, 37, 0, 1, 2, 3, 4, 5, 6, 7, 8, 9, 10, 11, 12, 13, 14, 15, 16, 17, 18, 19, 20, 21, 22, 23, 24, 25, 26, 27, 28, 29, 38, 39, 40, 41, 42, 43] (fun u => (u.1, u.2.1, u.2.2.1, u.2.2.2.1, u.2.2.2.2.1, (rz.1, rz.2.1, uq rz.2.2 5 (u.2.2.2.2.2)))) rfl rfl ⟨by decide, by decide, by decide, by decide⟩ (fun u => rfl) (fr_in [0, 1, 2, 3, 4, 5, 6, 7, 38, 39, 40, 41, 42, 43] rfl) (fun _ _ _ => h_rz)
set_option maxHeartbeats 4000000 in
set_option maxRecDepth 100000 in
theorem i_X3_passMinutes (l : Launch) (D : va_G) (k : Nat → ClassId) (sz : Nat) (x1 : Int32) (ro : Option Nat) (r : Nat) (r_told : Int32) (r_strands : Int32) (r_chairs : Int32) (r_sitters : Int32) (r_atoldCane : Nat) (r_aheight : Nat) (r_astrandOf : Nat) (r_achairOf : Nat) (r_aweight : Nat) (r_acane : Nat) (r_sits : Int32) (r_dropped : Int32) (r_minute : Int32) (r_aload : Nat) (r_aheads : Nat) (r_held : Int32) (r_heldDown : Int32) (r_rheight : Nat → Int32) (r_rstrandOf : Nat → Int32) (r_rchairOf : Nat → Int32) (r_rweight : Nat → Int32) (r_rcane : Nat → Int32) (r_rload : Nat → Int32) (r_rheads : Nat → Int32) (ra : Nat → Nat) (rz : RZ) (h_x1 : iv (0) (100) x1) (h_r_told : iv (0) (1) r_told) (h_r_strands : iv (0) (4) r_strands) (h_r_chairs : iv (0) (8) r_chairs) (h_r_sitters : iv (0) (8) r_sitters) (h_r_rstrandOf : rowIn (0) (3) r_rstrandOf) (h_r_rchairOf : rowIn (0) (7) r_rchairOf) (h_rz : RUok rz) (ho_ro : RUarg ra ro) : CtV l yX3_passMinutes wsX3_passMinutes (rmK 6 0 0) [.ref r, .int x1, va_rf ro] D k sz ([(r, .inr (2, [.int r_told, .int r_strands, .int r_chairs, .int r_sitters, .ref r_atoldCane, .ref r_aheight, .ref r_astrandOf, .ref r_achairOf, .ref r_aweight, .ref r_acane, .int r_sits, .int r_dropped, .int r_minute, .ref r_aload, .ref r_aheads, .int r_held, .int r_heldDown])), (r_aheight, hcI k 8 r_rheight), (r_astrandOf, hcI k 8 r_rstrandOf), (r_achairOf, hcI k 8 r_rchairOf), (r_aweight, hcI k 8 r_rweight), (r_acane, hcI k 4 r_rcane), (r_aload, hcI k 4 r_rload), (r_aheads, hcI k 4 r_rheads)] ++ (RU_i k ra rz)) (fun u : (Int32) × (Int32) × (Int32) × (Nat → Int32) × (Nat → Int32) × (RZ) => RUok (u.2.2.2.2.2)) (fun u : (Int32) × (Int32) × (Int32) × (Nat → Int32) × (Nat → Int32) × (RZ) => [(r, .inr (2, [.int r_told, .int r_strands, .int r_chairs, .int r_sitters, .ref r_atoldCane, .ref r_aheight, .ref r_astrandOf, .ref r_achairOf, .ref r_aweight, .ref r_acane, .int (u.1), .int (u.2.1), .int (u.2.2.1), .ref r_aload, .ref r_aheads, .int r_held, .int r_heldDown])), (r_aheight, hcI k 8 r_rheight), (r_astrandOf, hcI k 8 r_rstrandOf), (r_achairOf, hcI k 8 r_rchairOf), (r_aweight, hcI k 8 r_rweight), (r_acane, hcI k 4 r_rcane), (r_aload, hcI k 4 (u.2.2.2.1)), (r_aheads, hcI k 4 (u.2.2.2.2.1))] ++ (RU_i k ra (u.2.2.2.2.2))) 0 0 := by
  have h_x1_l := h_x1.1
  have h_x1_u := h_x1.2
  have h_r_told_l := h_r_told.1
  have h_r_told_u := h_r_told.2
  have h_r_strands_l := h_r_strands.1
  have h_r_strands_u := h_r_strands.2
  have h_r_chairs_l := h_r_chairs.1
  have h_r_chairs_u := h_r_chairs.2
  have h_r_sitters_l := h_r_sitters.1
  have h_r_sitters_u := h_r_sitters.2
  refine CtV.mk (cc := cX3_passMinutes) (maxL := 4) (ret := none) (by decide) rfl (by cases ro <;> exact Nat.le_of_ble_eq_true rfl) ?_
  intro p e s m below meth c A ls E hP hD hS hl
  obtain ⟨hx, hb, hr, hml, hown, hts, hlocks, hin, hG, hA⟩ := E
  have hown : s.vm.findClass RX3 = some m.cls := hown
  have in3 : ∀ w ∈ u_ws RX3 TX3 17, w ∈ wsX3_passMinutes := fun _ h => List.mem_cons_of_mem _ (List.mem_append_left _ (List.mem_append_right _ h))
  have in4 : ∀ w ∈ u_ws RX4 TX4 8, w ∈ wsX3_passMinutes := fun _ h => List.mem_cons_of_mem _ (List.mem_append_right _ h)
  have hl : lv_has ls 4 [(0, .ref r), (1, .int x1), (2, va_rf ro)] := (by cases ro <;> exact hl)
  refine lv_iconst (v := 0) hx hb dX3_passMinutes_0 (by decide) ?_
  refine lv_istore_n (lv' := [(3, .int 0), (0, .ref r), (1, .int x1), (2, va_rf ro)]) hx hb dX3_passMinutes_1 rfl hl (by decide) (by cases ro <;> rfl) (fun ls hl => ?_)
  have loop1 : ∀ (fu : Nat) (L3_1 : Int32) (K10_1r : Int32) (K11_1r : Int32) (K12_1r : Int32) (g_1r_aload : Nat → Int32) (g_1r_aheads : Nat → Int32) (g_1ra : RZ), iv (0) (100) L3_1 → RUok g_1ra → 101 - L3_1.toInt < (fu : Int) → ∀ (H : Heap) (locs : List Loc) (ls : Array Slot), va_P D vwCl ([(r, .inr (2, [.int r_told, .int r_strands, .int r_chairs, .int r_sitters, .ref r_atoldCane, .ref r_aheight, .ref r_astrandOf, .ref r_achairOf, .ref r_aweight, .ref r_acane, .int K10_1r, .int K11_1r, .int K12_1r, .ref r_aload, .ref r_aheads, .int r_held, .int r_heldDown])), (r_aheight, hcI k 8 r_rheight), (r_astrandOf, hcI k 8 r_rstrandOf), (r_achairOf, hcI k 8 r_rchairOf), (r_aweight, hcI k 8 r_rweight), (r_acane, hcI k 4 r_rcane), (r_aload, hcI k 4 g_1r_aload), (r_aheads, hcI k 4 g_1r_aheads)] ++ (RU_i k ra g_1ra)) H → va_D A ([(r, .inr (2, [.int r_told, .int r_strands, .int r_chairs, .int r_sitters, .ref r_atoldCane, .ref r_aheight, .ref r_astrandOf, .ref r_achairOf, .ref r_aweight, .ref r_acane, .int K10_1r, .int K11_1r, .int K12_1r, .ref r_aload, .ref r_aheads, .int r_held, .int r_heldDown])), (r_aheight, hcI k 8 r_rheight), (r_astrandOf, hcI k 8 r_rstrandOf), (r_achairOf, hcI k 8 r_rchairOf), (r_aweight, hcI k 8 r_rweight), (r_acane, hcI k 4 r_rcane), (r_aload, hcI k 4 g_1r_aload), (r_aheads, hcI k 4 g_1r_aheads)] ++ (RU_i k ra g_1ra)) → va_S A s.heap H locs → lv_has ls 4 [(3, .int L3_1), (0, .ref r), (1, .int x1), (2, va_rf ro)] → W p l e (rmK 6 0 0) s m (List.toArray [.ref r, .int x1, va_rf ro]) below meth c H locs 0 0 (MQ below (va_Qv (fun u : (Int32) × (Int32) × (Int32) × (Nat → Int32) × (Nat → Int32) × (RZ) => RUok (u.2.2.2.2.2)) (hcB D (fun u : (Int32) × (Int32) × (Int32) × (Nat → Int32) × (Nat → Int32) × (RZ) => [(r, .inr (2, [.int r_told, .int r_strands, .int r_chairs, .int r_sitters, .ref r_atoldCane, .ref r_aheight, .ref r_astrandOf, .ref r_achairOf, .ref r_aweight, .ref r_acane, .int (u.1), .int (u.2.1), .int (u.2.2.1), .ref r_aload, .ref r_aheads, .int r_held, .int r_heldDown])), (r_aheight, hcI k 8 r_rheight), (r_astrandOf, hcI k 8 r_rstrandOf), (r_achairOf, hcI k 8 r_rchairOf), (r_aweight, hcI k 8 r_rweight), (r_acane, hcI k 4 r_rcane), (r_aload, hcI k 4 (u.2.2.2.1)), (r_aheads, hcI k 4 (u.2.2.2.2.1))] ++ (RU_i k ra (u.2.2.2.2.2))) A) A) (List.toArray [.ref r, .int x1, va_rf ro]) s 0 0 A) (F0 m 2 ls []) := by
    intro fu
    induction fu with
    | zero =>
      intro L3_1 K10_1r K11_1r K12_1r g_1r_aload g_1r_aheads g_1ra bL3_1 h_g_1ra hm
      have bL3_1_l := bL3_1.1
      have bL3_1_u := bL3_1.2
      exact absurd hm (by omega)
    | succ fu ih1 =>
      intro L3_1 K10_1r K11_1r K12_1r g_1r_aload g_1r_aheads g_1ra bL3_1 h_g_1ra hm H locs ls hP hD hS hl
      have bL3_1_l := bL3_1.1
      have bL3_1_u := bL3_1.2
      refine lv_iload_n hx hb dX3_passMinutes_2 rfl (lv_at hl 0 rfl) ?_
      refine lv_iload_n hx hb dX3_passMinutes_3 rfl (lv_at hl 2 rfl) ?_
      refine lv_icmp_ge (tgt := 19) hx hb dX3_passMinutes_4 (by decide) (fun c2 => ?_) (fun c2 => ?_)
      · have fc2 := cx_ge_t (a := L3_1.toInt) (b := x1.toInt) rfl rfl c2
        exact hc_endV hx hb hr hlocks (K10_1r, K11_1r, K12_1r, g_1r_aload, g_1r_aheads, g_1ra) (h_g_1ra) hP hD hS dX3_passMinutes_19
      · have fc2 := cx_ge_f (a := L3_1.toInt) (b := x1.toInt) rfl rfl c2
        refine lv_aload_n hx hb dX3_passMinutes_7 rfl (lv_at hl 1 rfl) ?_
        refine lv_aload_nO hx hb dX3_passMinutes_8 rfl (lv_at hl 3 rfl) ?_
        refine hc_Vi (As := [va_rf ro]) (rest := []) (n := 1) (wr := []) hx hb hml hown hts hG hA hP hD hS hl.1 [0, 1, 2, 3, 4, 5, 6, 7, 8, 9, 10, 11, 12, 13, 14, 15, 16, 17, 18, 19, 20, 21, 22, 23, 24, 25, 26, 27, 28, 29, 30, 31, 32, 33, 34, 35, 36, 37, 38, 39, 40, 41, 42, 43] [] (i_X3_passMinute l D k _ r r_told r_strands r_chairs r_sitters r_atoldCane r_aheight r_astrandOf r_achairOf r_aweight r_acane K10_1r K11_1r K12_1r r_aload r_aheads r_held r_heldDown r_rheight r_rstrandOf r_rchairOf r_rweight r_rcane g_1r_aload g_1r_aheads ra g_1ra ro ⟨by omega, by omega⟩ ⟨by omega, by omega⟩ ⟨by omega, by omega⟩ ⟨by omega, by omega⟩ h_r_rstrandOf h_r_rchairOf h_g_1ra ho_ro) (ci := 2) (q0 := 0) rfl rfl gX3_passMinutes_X3_passMinute rfl ⟨rfl, rfl, Nat.le_of_ble_eq_true rfl, Nat.le_of_ble_eq_true rfl⟩ (by decide +kernel) rfl rfl ⟨by decide, by decide, by decide⟩ ⟨rfl, rfl, Nat.le_of_ble_eq_true rfl, Nat.le_of_ble_eq_true rfl, Nat.le_of_ble_eq_true rfl⟩ dX3_passMinutes_9 (fun r4 u3 H locs hw hP hD hS => ?_)
        obtain ⟨w5, w6, w7, w8, w9, w10⟩ := u3
        have hP : va_P D vwCl ([(r, .inr (2, [.int r_told, .int r_strands, .int r_chairs, .int r_sitters, .ref r_atoldCane, .ref r_aheight, .ref r_astrandOf, .ref r_achairOf, .ref r_aweight, .ref r_acane, .int w5, .int w6, .int w7, .ref r_aload, .ref r_aheads, .int r_held, .int r_heldDown])), (r_aheight, hcI k 8 r_rheight), (r_astrandOf, hcI k 8 r_rstrandOf), (r_achairOf, hcI k 8 r_rchairOf), (r_aweight, hcI k 8 r_rweight), (r_acane, hcI k 4 r_rcane), (r_aload, hcI k 4 w8), (r_aheads, hcI k 4 w9)] ++ (RU_i k ra w10)) H := hP
        have hD : va_D A ([(r, .inr (2, [.int r_told, .int r_strands, .int r_chairs, .int r_sitters, .ref r_atoldCane, .ref r_aheight, .ref r_astrandOf, .ref r_achairOf, .ref r_aweight, .ref r_acane, .int w5, .int w6, .int w7, .ref r_aload, .ref r_aheads, .int r_held, .int r_heldDown])), (r_aheight, hcI k 8 r_rheight), (r_astrandOf, hcI k 8 r_rstrandOf), (r_achairOf, hcI k 8 r_rchairOf), (r_aweight, hcI k 8 r_rweight), (r_acane, hcI k 4 r_rcane), (r_aload, hcI k 4 w8), (r_aheads, hcI k 4 w9)] ++ (RU_i k ra w10)) := hD
        have h_w10 := hw
        have h_w10 : RUok w10 := h_w10
        refine lv_pop hx hb dX3_passMinutes_12 rfl ?_
        obtain ⟨z11, ez11⟩ : ∃ z : Int32, z = L3_1 + 1 := ⟨_, rfl⟩
        have tz11 : z11.toInt = L3_1.toInt + (1) := ai_add rfl (by decide) ez11 (by omega) (by omega)
        refine lv_iinc (v := z11) (lv' := [(3, .int z11), (0, .ref r), (1, .int x1), (2, va_rf ro)]) hx hb dX3_passMinutes_13 hl (k := 0) rfl (by rw [ez11]; rfl) (by decide) (by cases ro <;> rfl) (fun ls hl => ?_)
        refine lv_goto (tgt := 2) hx hb dX3_passMinutes_16 (by decide) ?_
        exact ih1 z11 w5 w6 w7 w8 w9 w10 ⟨by omega, by omega⟩ h_w10 (by omega) _ _ _ hP hD hS (lv_sub hl [0, 1, 2, 3] rfl)
  exact loop1 200 0 r_sits r_dropped r_minute r_rload r_rheads rz (iv_lit (by decide) (by decide)) h_rz (by have q0 : (0 : Int32).toInt = 0 := (by decide); omega) _ _ _ hP hD hS hl
