/-! 29, 3 -/
noncomputable def f_X8_rule (F : Nat)   (xi : Nat → Int32) (tp : OB) (xrr : Nat → Option Nat) (rz : Nat → OB) : Option (Int32 × (Nat → Int32) × OB × (Nat → OB)) :=
  if (xi 2) < 6 then (if ib (xi 2) 6 then (Option.bind (f_X5_read_u F (xi 2) tp rz) (fun q3 => (if q3.1 = 0 then (some (((-2) - (q3.2.1.1 7)), xi, ((uF q3.2.1.1 1 0), q3.2.1.2.1, q3.2.1.2.2), q3.2.2)) else (some ((((xi 2) + 1) - 1), (uF xi 2 ((xi 2) + 1)), ((uF q3.2.1.1 1 0), q3.2.1.2.1, q3.2.1.2.2), q3.2.2))))) else none) else (some ((-1), xi, tp, rz))
set_option maxHeartbeats 4000000 in
set_option maxRecDepth 100000 in
theorem c_X8_rule (l : Launch) (D : va_G) (k : Nat → ClassId) (sz : Nat) (ad tv : Nat → Nat) (xo : Nat → Nat) (ta : Nat → Nat) (xr : Nat) (sa : Nat → Nat) (xm : Nat) (xg : Nat) (tr : Nat → Nat) (xs : Nat) (xp : Nat) (xq : Nat) (xe : Nat) (xt : Nat) (ra : Nat → Nat) (F : Nat)   (xi : Nat → Int32) (tp : OB) (xrr : Nat → Option Nat) (rz : Nat → OB) (hq : ∀ i, i < 6 → xrr i = some (ra (6 * i))) {res : Int32 × (Nat → Int32) × OB × (Nat → OB)} (h : f_X8_rule F xi tp xrr rz = some res) : CtIE l yX8_rule wsX8_rule (rmK 29 0 0) [.ref (xo 0)] D k (EX ad tv) sz (([((xo 0), .inr (6, [.ref (ta 0), .ref xr, .int (xi 2), .ref (sa 0), .ref xm, .ref xg, .ref (tr 0), .ref xs, .ref xp, .ref xq, .ref xe, .ref xt]))] : va_W) ++ (tpW k ta tp ++ (([(xr, hcR k 6 xrr)] : va_W) ++ (RU k ra rz)))) (fun r (_ : Unit) => r = res.1) (fun _ : Unit => ([((xo 0), .inr (6, [.ref (ta 0), .ref xr, .int (res.2.1 2), .ref (sa 0), .ref xm, .ref xg, .ref (tr 0), .ref xs, .ref xp, .ref xq, .ref xe, .ref xt]))] : va_W) ++ (tpW k ta res.2.2.1 ++ (([(xr, hcR k 6 xrr)] : va_W) ++ (RU k ra res.2.2.2)))) 0 0 := by
  refine CtIE.mk (cc := cX8_rule) (maxL := 3) (ret := (some .int)) (by decide) rfl (Nat.le_of_ble_eq_true rfl) ?_
  intro p e s m below meth c A ls hE E hP hD hS hl
  obtain ⟨hx, hb, hr, hml, hown, hts, hlocks, hin, hG, hA⟩ := E
  have hown : s.vm.findClass RX8 = some m.cls := hown
  have in4 : ∀ w ∈ u_ws RX4 TX4 8, w ∈ wsX8_rule := fun _ h => List.mem_cons_of_mem _ (List.mem_append_right _ h)
  have in7 : ∀ w ∈ u_ws RX7 TX7 8, w ∈ wsX8_rule := fun _ h => List.mem_cons_of_mem _ (List.mem_append_left _ (List.mem_append_right _ h))
  have in8 : ∀ w ∈ u_ws RX8 TX8 12, w ∈ wsX8_rule := fun _ h => List.mem_cons_of_mem _ (List.mem_append_left _ (List.mem_append_left _ (List.mem_append_right _ h)))
  have hl : lv_has ls 3 [(0, .ref (xo 0))] := hl
  refine lv_aload_n hx hb dX8_rule_0 rfl (lv_at hl 0 rfl) ?_
  refine va_get (D := D) (ci := 6) (v := .int (xi 2)) (C := RX8) (T := TX8) (N := 12) hx hb hts in8 hown hG.1 hP 0 rfl rfl 2 (by decide) (hts (.fieldLink RX8 22 "ChairCane" "ruleCount" "I") (mem_b bq_wsX8_rule 0 0 rfl)) (fun _ h9 => h9) rfl dX8_rule_1 ?_
  refine lv_bipush (v := 6) hx hb dX8_rule_4 (by decide) ?_
  refine lv_icmp_lt (tgt := 11) hx hb dX8_rule_6 (by decide) (fun c1 => ?_) (fun c1 => ?_)
  · have h := fw_t c1 h
    refine lv_aload_n hx hb dX8_rule_11 rfl (lv_at hl 0 rfl) ?_
    refine va_get (D := D) (ci := 6) (v := .ref (ta 0)) (C := RX8) (T := TX8) (N := 12) hx hb hts in8 hown hG.1 hP 0 rfl rfl 0 (by decide) (hts (.fieldLink RX8 10 "ChairCane" "tape" "LChairCane$Tape;") (mem_b bq_wsX8_rule 0 1 rfl)) (fun _ h9 => h9) rfl dX8_rule_12 ?_
    refine lv_aload_n hx hb dX8_rule_15 rfl (lv_at hl 0 rfl) ?_
    refine va_get (D := D) (ci := 6) (v := .ref xr) (C := RX8) (T := TX8) (N := 12) hx hb hts in8 hown hG.1 hP 0 rfl rfl 1 (by decide) (hts (.fieldLink RX8 18 "ChairCane" "rules" "[LChairCane$Rule;") (mem_b bq_wsX8_rule 0 2 rfl)) (fun _ h9 => h9) rfl dX8_rule_16 ?_
    refine lv_aload_n hx hb dX8_rule_19 rfl (lv_at hl 0 rfl) ?_
    refine va_get (D := D) (ci := 6) (v := .int (xi 2)) (C := RX8) (T := TX8) (N := 12) hx hb hts in8 hown hG.1 hP 0 rfl rfl 2 (by decide) (hts (.fieldLink RX8 22 "ChairCane" "ruleCount" "I") (mem_b bq_wsX8_rule 0 0 rfl)) (fun _ h9 => h9) rfl dX8_rule_20 ?_
    obtain ⟨g2, h⟩ := fw_g h
    refine va_aldq hx hb hG.1 hP 6 4 rfl rfl (ib_vp g2) dX8_rule_23 ?_
    refine hc_isV (z := va_rf (rAd ra (xi 2))) (rAd_at hq g2) ?_
    refine fw_SiE (As := [.ref (ta 0), va_rf (rAd ra (xi 2))]) (rest := []) (n := 2) (wr := ([((xo 0), .inr (6, [.ref (ta 0), .ref xr, .int (xi 2), .ref (sa 0), .ref xm, .ref xg, .ref (tr 0), .ref xs, .ref xp, .ref xq, .ref xe, .ref xt]))] : va_W) ++ (([(xr, hcR k 6 xrr)] : va_W))) (rv := fun b : Int32 × OB × (Nat → OB) => b.1) (wp := fun b : Int32 × OB × (Nat → OB) => tpW k ta b.2.1 ++ (RU k ra b.2.2)) h (EX.ok ad tv) hE hx hb hml hown hts hG hA hP hD hS hl.1 [1, 2, 3, 4, 5, 7, 8, 9, 10, 11, 12, 13, 14, 15, 16, 17, 18, 19, 20, 21, 22, 23, 24, 25, 26, 27, 28, 29, 30, 31, 32, 33, 34, 35, 36, 37, 38, 39, 40, 41, 42] [0, 6] (fun q hq9 => c_X5_read_u l D k _ ad tv ta ra F (xi 2) tp rz  hq9) gX8_rule_X5_read rfl ⟨rfl, rfl, Nat.le_of_ble_eq_true rfl, Nat.le_of_ble_eq_true rfl⟩ (by decide +kernel) rfl rfl ⟨by decide +kernel, by decide +kernel, by decide +kernel⟩ ⟨rfl, rfl, Nat.le_of_ble_eq_true rfl, Nat.le_of_ble_eq_true rfl, Nat.le_of_ble_eq_true rfl⟩ dX8_rule_24 (fun q3 H locs h hP hD hS => ?_)
    have hP : va_P D vwCl (([((xo 0), .inr (6, [.ref (ta 0), .ref xr, .int (xi 2), .ref (sa 0), .ref xm, .ref xg, .ref (tr 0), .ref xs, .ref xp, .ref xq, .ref xe, .ref xt]))] : va_W) ++ (([(xr, hcR k 6 xrr)] : va_W) ++ (tpW k ta q3.2.1 ++ (RU k ra q3.2.2)))) H := hP
    have hD : va_D A (([((xo 0), .inr (6, [.ref (ta 0), .ref xr, .int (xi 2), .ref (sa 0), .ref xm, .ref xg, .ref (tr 0), .ref xs, .ref xp, .ref xq, .ref xe, .ref xt]))] : va_W) ++ (([(xr, hcR k 6 xrr)] : va_W) ++ (tpW k ta q3.2.1 ++ (RU k ra q3.2.2)))) := hD
    refine hc_is (z := q3.1) rfl ?_
    refine lv_istore_n (lv' := [(1, .int q3.1), (0, .ref (xo 0))]) hx hb dX8_rule_27 rfl hl (by decide) rfl (fun ls hl => ?_)
    refine lv_aload_n hx hb dX8_rule_28 rfl (lv_at hl 1 rfl) ?_
    refine va_get (D := D) (ci := 6) (v := .ref (ta 0)) (C := RX8) (T := TX8) (N := 12) hx hb hts in8 hown hG.1 hP 0 rfl rfl 0 (by decide) (hts (.fieldLink RX8 10 "ChairCane" "tape" "LChairCane$Tape;") (mem_b bq_wsX8_rule 0 1 rfl)) (fun _ h9 => h9) rfl dX8_rule_29 ?_
    refine va_get (D := D) (ci := 5) (v := .int (q3.2.1.1 7)) (C := RX7) (T := TX7) (N := 8) hx hb hts in7 hown hG.1 hP 2 rfl rfl 7 (by decide) (hts (.fieldLink RX8 78 "ChairCane$Tape" "fault" "I") (mem_b bq_wsX8_rule 0 3 rfl)) (fun _ h9 => h9) rfl dX8_rule_32 ?_
    refine lv_istore_n (lv' := [(2, .int (q3.2.1.1 7)), (1, .int q3.1), (0, .ref (xo 0))]) hx hb dX8_rule_35 rfl hl (by decide) rfl (fun ls hl => ?_)
    refine lv_aload_n hx hb dX8_rule_36 rfl (lv_at hl 2 rfl) ?_
    refine va_get (D := D) (ci := 6) (v := .ref (ta 0)) (C := RX8) (T := TX8) (N := 12) hx hb hts in8 hown hG.1 hP 0 rfl rfl 0 (by decide) (hts (.fieldLink RX8 10 "ChairCane" "tape" "LChairCane$Tape;") (mem_b bq_wsX8_rule 0 1 rfl)) (fun _ h9 => h9) rfl dX8_rule_37 ?_
    refine lv_iconst (v := 0) hx hb dX8_rule_40 (by decide) ?_
    refine va_put (D := D) (ci := 5) (v := .int 0) (C := RX7) (T := TX7) (N := 8) hx hb hts in7 tyX7 tyX7_ok nmX7 hown hG.1 hP hD hS 2 rfl rfl 1 (by decide) (hts (.fieldLink RX8 65 "ChairCane$Tape" "length" "I") (mem_b bq_wsX8_rule 0 4 rfl)) (fun _ h9 => h9) rfl (tyX7_ok 1 (by decide)) rfl rfl (Nat.le_of_ble_eq_true rfl) dX8_rule_41 (fun H locs hP hD hS => ?_)
    refine lv_iload_n hx hb dX8_rule_44 rfl (lv_at hl 1 rfl) ?_
    refine lv_if_ne (tgt := 53) hx hb dX8_rule_45 (by decide) (fun c4 => ?_) (fun c4 => ?_)
    · have h := fw_f c4 h
      refine lv_aload_n hx hb dX8_rule_53 rfl (lv_at hl 2 rfl) ?_
      refine lv_dup hx hb dX8_rule_54 rfl ?_
      refine va_get (D := D) (ci := 6) (v := .int (xi 2)) (C := RX8) (T := TX8) (N := 12) hx hb hts in8 hown hG.1 hP 0 rfl rfl 2 (by decide) (hts (.fieldLink RX8 22 "ChairCane" "ruleCount" "I") (mem_b bq_wsX8_rule 0 0 rfl)) (fun _ h9 => h9) rfl dX8_rule_55 ?_
      refine lv_iconst (v := 1) hx hb dX8_rule_58 (by decide) ?_
      refine lv_iadd hx hb dX8_rule_59 ?_
      refine va_put (D := D) (ci := 6) (v := .int ((xi 2) + 1)) (C := RX8) (T := TX8) (N := 12) hx hb hts in8 tyX8 tyX8_ok nmX8 hown hG.1 hP hD hS 0 rfl rfl 2 (by decide) (hts (.fieldLink RX8 22 "ChairCane" "ruleCount" "I") (mem_b bq_wsX8_rule 0 0 rfl)) (fun _ h9 => h9) rfl (tyX8_ok 2 (by decide)) rfl rfl (Nat.le_of_ble_eq_true rfl) dX8_rule_60 (fun H locs hP hD hS => ?_)
      refine lv_aload_n hx hb dX8_rule_63 rfl (lv_at hl 2 rfl) ?_
      refine va_get (D := D) (ci := 6) (v := .int ((xi 2) + 1)) (C := RX8) (T := TX8) (N := 12) hx hb hts in8 hown hG.1 hP 0 rfl rfl 2 (by decide) (hts (.fieldLink RX8 22 "ChairCane" "ruleCount" "I") (mem_b bq_wsX8_rule 0 0 rfl)) (fun _ h9 => h9) rfl dX8_rule_64 ?_
      refine lv_iconst (v := 1) hx hb dX8_rule_67 (by decide) ?_
      refine lv_isub hx hb dX8_rule_68 ?_
      exact fw_endI (rv := fun b : Int32 × (Nat → Int32) × OB × (Nat → OB) => b.1) (wp := fun b : Int32 × (Nat → Int32) × OB × (Nat → OB) => ([((xo 0), .inr (6, [.ref (ta 0), .ref xr, .int (b.2.1 2), .ref (sa 0), .ref xm, .ref xg, .ref (tr 0), .ref xs, .ref xp, .ref xq, .ref xe, .ref xt]))] : va_W) ++ (tpW k ta b.2.2.1 ++ (([(xr, hcR k 6 xrr)] : va_W) ++ (RU k ra b.2.2.2)))) hx hb hr hlocks h rfl (hP.sub [0, 2, 3, 4, 5, 6, 1, 7, 8, 9, 10, 11, 12, 13, 14, 15, 16, 17, 18, 19, 20, 21, 22, 23, 24, 25, 26, 27, 28, 29, 30, 31, 32, 33, 34, 35, 36, 37, 38, 39, 40, 41, 42] rfl) (hD.sub [0, 2, 3, 4, 5, 6, 1, 7, 8, 9, 10, 11, 12, 13, 14, 15, 16, 17, 18, 19, 20, 21, 22, 23, 24, 25, 26, 27, 28, 29, 30, 31, 32, 33, 34, 35, 36, 37, 38, 39, 40, 41, 42] (by decide +kernel) rfl) hS dX8_rule_69
    · have h := fw_t c4 h
      refine lv_bipush (v := (-2)) hx hb dX8_rule_48 (by decide) ?_
      refine lv_iload_n hx hb dX8_rule_50 rfl (lv_at hl 0 rfl) ?_
      refine lv_isub hx hb dX8_rule_51 ?_
      exact fw_endI (rv := fun b : Int32 × (Nat → Int32) × OB × (Nat → OB) => b.1) (wp := fun b : Int32 × (Nat → Int32) × OB × (Nat → OB) => ([((xo 0), .inr (6, [.ref (ta 0), .ref xr, .int (b.2.1 2), .ref (sa 0), .ref xm, .ref xg, .ref (tr 0), .ref xs, .ref xp, .ref xq, .ref xe, .ref xt]))] : va_W) ++ (tpW k ta b.2.2.1 ++ (([(xr, hcR k 6 xrr)] : va_W) ++ (RU k ra b.2.2.2)))) hx hb hr hlocks h rfl (hP.sub [0, 2, 3, 4, 5, 6, 1, 7, 8, 9, 10, 11, 12, 13, 14, 15, 16, 17, 18, 19, 20, 21, 22, 23, 24, 25, 26, 27, 28, 29, 30, 31, 32, 33, 34, 35, 36, 37, 38, 39, 40, 41, 42] rfl) (hD.sub [0, 2, 3, 4, 5, 6, 1, 7, 8, 9, 10, 11, 12, 13, 14, 15, 16, 17, 18, 19, 20, 21, 22, 23, 24, 25, 26, 27, 28, 29, 30, 31, 32, 33, 34, 35, 36, 37, 38, 39, 40, 41, 42] (by decide +kernel) rfl) hS dX8_rule_52
  · have h := fw_f c1 h
    refine lv_iconst (v := (-1)) hx hb dX8_rule_9 (by decide) ?_
    exact fw_endI (rv := fun b : Int32 × (Nat → Int32) × OB × (Nat → OB) => b.1) (wp := fun b : Int32 × (Nat → Int32) × OB × (Nat → OB) => ([((xo 0), .inr (6, [.ref (ta 0), .ref xr, .int (b.2.1 2), .ref (sa 0), .ref xm, .ref xg, .ref (tr 0), .ref xs, .ref xp, .ref xq, .ref xe, .ref xt]))] : va_W) ++ (tpW k ta b.2.2.1 ++ (([(xr, hcR k 6 xrr)] : va_W) ++ (RU k ra b.2.2.2)))) hx hb hr hlocks h rfl hP hD hS dX8_rule_10
noncomputable def b_X8_ruleAt_22 (F : Nat)  (xi : Nat → Int32) (xrr : Nat → Option Nat)  (y0 : Int32) : Option (Int32) :=
  some y0
noncomputable def b_X8_ruleAt_21 (F : Nat)  (xi : Nat → Int32) (xrr : Nat → Option Nat)   : Option (Int32) :=
  b_X8_ruleAt_22 F xi xrr (-1)
noncomputable def f_X8_ruleAt (F : Nat)  (x1 : Int32) (xi : Nat → Int32) (xrr : Nat → Option Nat) : Option (Int32) :=
  if x1 < 0 then (b_X8_ruleAt_21 F xi xrr ) else (if (xi 2) ≤ x1 then (b_X8_ruleAt_21 F xi xrr ) else (if ib x1 6 then (b_X8_ruleAt_22 F xi xrr x1) else none))
set_option maxRecDepth 20000 in
theorem bq_wsX8_ruleAt : subq wsX8_ruleAt [[.fieldLink RX8 22 "ChairCane" "ruleCount" "I", .fieldLink RX8 18 "ChairCane" "rules" "[LChairCane$Rule;"]] := ⟨(fun _ h => (List.mem_cons_of_mem _ (List.mem_append_left _ h))), trivial⟩
set_option maxHeartbeats 4000000 in
set_option maxRecDepth 100000 in
theorem c_X8_ruleAt (l : Launch) (D : va_G) (k : Nat → ClassId) (sz : Nat)  (xo : Nat → Nat) (ta : Nat → Nat) (xr : Nat) (sa : Nat → Nat) (xm : Nat) (xg : Nat) (tr : Nat → Nat) (xs : Nat) (xp : Nat) (xq : Nat) (xe : Nat) (xt : Nat) (ra : Nat → Nat) (F : Nat)  (x1 : Int32) (xi : Nat → Int32) (xrr : Nat → Option Nat) (hq : ∀ i, i < 6 → xrr i = some (ra (6 * i))) {res : Int32} (h : f_X8_ruleAt F x1 xi xrr = some res) : CtQ l yX8_ruleAt wsX8_ruleAt (rmK 1 0 0) [.ref (xo 0), .int x1] D k sz (([((xo 0), .inr (6, [.ref (ta 0), .ref xr, .int (xi 2), .ref (sa 0), .ref xm, .ref xg, .ref (tr 0), .ref xs, .ref xp, .ref xq, .ref xe, .ref xt]))] : va_W) ++ (([(xr, hcR k 6 xrr)] : va_W))) (fun r (_ : Unit) => r = rAd ra res) (fun _ : Unit => ([((xo 0), .inr (6, [.ref (ta 0), .ref xr, .int (xi 2), .ref (sa 0), .ref xm, .ref xg, .ref (tr 0), .ref xs, .ref xp, .ref xq, .ref xe, .ref xt]))] : va_W) ++ (([(xr, hcR k 6 xrr)] : va_W))) 0 0 := by
  refine CtQ.mk (cc := cX8_ruleAt) (maxL := 2) (ret := (some (.object "ChairCane$Rule"))) (by decide) rfl (Nat.le_of_ble_eq_true rfl) ?_
  intro p e s m below meth c A ls E hP hD hS hl
  obtain ⟨hx, hb, hr, hml, hown, hts, hlocks, hin, hG, hA⟩ := E
  have hown : s.vm.findClass RX8 = some m.cls := hown
  have in8 : ∀ w ∈ u_ws RX8 TX8 12, w ∈ wsX8_ruleAt := fun _ h => List.mem_cons_of_mem _ (List.mem_append_right _ h)
  have hl : lv_has ls 2 [(0, .ref (xo 0)), (1, .int x1)] := hl
  have B22 : ∀ (y0 : Int32) (H : Heap) (locs : List Loc) (ls : Array Slot), b_X8_ruleAt_22 F xi xrr y0 = some res → va_P D vwCl (([((xo 0), .inr (6, [.ref (ta 0), .ref xr, .int (xi 2), .ref (sa 0), .ref xm, .ref xg, .ref (tr 0), .ref xs, .ref xp, .ref xq, .ref xe, .ref xt]))] : va_W) ++ (([(xr, hcR k 6 xrr)] : va_W))) H → va_D A (([((xo 0), .inr (6, [.ref (ta 0), .ref xr, .int (xi 2), .ref (sa 0), .ref xm, .ref xg, .ref (tr 0), .ref xs, .ref xp, .ref xq, .ref xe, .ref xt]))] : va_W) ++ (([(xr, hcR k 6 xrr)] : va_W))) → va_S A s.heap H locs → lv_has ls 2 [] → W p l e (rmK 1 0 0) s m (List.toArray [.ref (xo 0), .int x1]) below meth c H locs 0 0 (MQ below (va_Qq (fun r (_ : Unit) => r = rAd ra res) (hcB D (fun _ : Unit => ([((xo 0), .inr (6, [.ref (ta 0), .ref xr, .int (xi 2), .ref (sa 0), .ref xm, .ref xg, .ref (tr 0), .ref xs, .ref xp, .ref xq, .ref xe, .ref xt]))] : va_W) ++ (([(xr, hcR k 6 xrr)] : va_W))) A) A) (List.toArray [.ref (xo 0), .int x1]) s 0 0 A) (F0 m 22 ls [va_rf (rAd ra y0)]) := by
    intro y0 H locs ls h hP hD hS hl
    exact fw_endQ (rv := fun b : Int32 => b) (ra := ra) (v := rAd ra y0) (wp := fun b : Int32 => ([((xo 0), .inr (6, [.ref (ta 0), .ref xr, .int (xi 2), .ref (sa 0), .ref xm, .ref xg, .ref (tr 0), .ref xs, .ref xp, .ref xq, .ref xe, .ref xt]))] : va_W) ++ (([(xr, hcR k 6 xrr)] : va_W))) hx hb hr hlocks h rfl hP hD hS dX8_ruleAt_22
  have B21 : ∀ (H : Heap) (locs : List Loc) (ls : Array Slot), b_X8_ruleAt_21 F xi xrr  = some res → va_P D vwCl (([((xo 0), .inr (6, [.ref (ta 0), .ref xr, .int (xi 2), .ref (sa 0), .ref xm, .ref xg, .ref (tr 0), .ref xs, .ref xp, .ref xq, .ref xe, .ref xt]))] : va_W) ++ (([(xr, hcR k 6 xrr)] : va_W))) H → va_D A (([((xo 0), .inr (6, [.ref (ta 0), .ref xr, .int (xi 2), .ref (sa 0), .ref xm, .ref xg, .ref (tr 0), .ref xs, .ref xp, .ref xq, .ref xe, .ref xt]))] : va_W) ++ (([(xr, hcR k 6 xrr)] : va_W))) → va_S A s.heap H locs → lv_has ls 2 [] → W p l e (rmK 1 0 0) s m (List.toArray [.ref (xo 0), .int x1]) below meth c H locs 0 0 (MQ below (va_Qq (fun r (_ : Unit) => r = rAd ra res) (hcB D (fun _ : Unit => ([((xo 0), .inr (6, [.ref (ta 0), .ref xr, .int (xi 2), .ref (sa 0), .ref xm, .ref xg, .ref (tr 0), .ref xs, .ref xp, .ref xq, .ref xe, .ref xt]))] : va_W) ++ (([(xr, hcR k 6 xrr)] : va_W))) A) A) (List.toArray [.ref (xo 0), .int x1]) s 0 0 A) (F0 m 21 ls []) := by
    intro  H locs ls h hP hD hS hl
    refine lv_null hx hb dX8_ruleAt_21 ?_
    exact B22 _ _ _ _ h hP hD hS hl
  refine lv_iload_n hx hb dX8_ruleAt_0 rfl (lv_at hl 1 rfl) ?_
  refine lv_if_lt (tgt := 21) hx hb dX8_ruleAt_1 (by decide) (fun c1 => ?_) (fun c1 => ?_)
  · have h := fw_t c1 h
    exact B21 _ _ _ h hP hD hS (lv_sub hl [] rfl)
  · have h := fw_f c1 h
    refine lv_iload_n hx hb dX8_ruleAt_4 rfl (lv_at hl 1 rfl) ?_
    refine lv_aload_n hx hb dX8_ruleAt_5 rfl (lv_at hl 0 rfl) ?_
    refine va_get (D := D) (ci := 6) (v := .int (xi 2)) (C := RX8) (T := TX8) (N := 12) hx hb hts in8 hown hG.1 hP 0 rfl rfl 2 (by decide) (hts (.fieldLink RX8 22 "ChairCane" "ruleCount" "I") (mem_b bq_wsX8_ruleAt 0 0 rfl)) (fun _ h9 => h9) rfl dX8_ruleAt_6 ?_
    refine lv_icmp_ge (tgt := 21) hx hb dX8_ruleAt_9 (by decide) (fun c2 => ?_) (fun c2 => ?_)
    · have h := fw_t c2 h
      exact B21 _ _ _ h hP hD hS (lv_sub hl [] rfl)
    · have h := fw_f c2 h
      refine lv_aload_n hx hb dX8_ruleAt_12 rfl (lv_at hl 0 rfl) ?_
      refine va_get (D := D) (ci := 6) (v := .ref xr) (C := RX8) (T := TX8) (N := 12) hx hb hts in8 hown hG.1 hP 0 rfl rfl 1 (by decide) (hts (.fieldLink RX8 18 "ChairCane" "rules" "[LChairCane$Rule;") (mem_b bq_wsX8_ruleAt 0 1 rfl)) (fun _ h9 => h9) rfl dX8_ruleAt_13 ?_
      refine lv_iload_n hx hb dX8_ruleAt_16 rfl (lv_at hl 1 rfl) ?_
      obtain ⟨g3, h⟩ := fw_g h
      refine va_aldq hx hb hG.1 hP 1 4 rfl rfl (ib_vp g3) dX8_ruleAt_17 ?_
      refine hc_isV (z := va_rf (rAd ra x1)) (rAd_at hq g3) ?_
      refine lv_goto (tgt := 22) hx hb dX8_ruleAt_18 (by decide) ?_
      exact B22 _ _ _ _ h hP hD hS (lv_sub hl [] rfl)
noncomputable def f_X8_ruleInForce (F : Nat)   (xi : Nat → Int32) (xrr : Nat → Option Nat) (si : Nat → Int32) : Option (Int32) :=
  Option.bind (f_X8_ruleAt F (si 3) xi xrr) (fun q1 => (some q1))
set_option maxHeartbeats 4000000 in
set_option maxRecDepth 100000 in
theorem c_X8_ruleInForce (l : Launch) (D : va_G) (k : Nat → ClassId) (sz : Nat)  (xo : Nat → Nat) (ta : Nat → Nat) (xr : Nat) (sa : Nat → Nat) (xm : Nat) (xg : Nat) (tr : Nat → Nat) (xs : Nat) (xp : Nat) (xq : Nat) (xe : Nat) (xt : Nat) (xa : Nat → Nat) (ca : Nat → Nat) (na : Nat → Nat) (ra : Nat → Nat) (F : Nat)   (xi : Nat → Int32) (xrr : Nat → Option Nat) (si : Nat → Int32) (hq : ∀ i, i < 6 → xrr i = some (ra (6 * i))) {res : Int32} (h : f_X8_ruleInForce F xi xrr si = some res) : CtQ l yX8_ruleInForce wsX8_ruleInForce (rmK 2 0 0) [.ref (xo 0)] D k sz (([((xo 0), .inr (6, [.ref (ta 0), .ref xr, .int (xi 2), .ref (sa 0), .ref xm, .ref xg, .ref (tr 0), .ref xs, .ref xp, .ref xq, .ref xe, .ref xt]))] : va_W) ++ (([(xr, hcR k 6 xrr)] : va_W) ++ (([((sa 0), .inr (4, [.ref (xa 0), .ref (ca 0), .ref (na 0), .int (si 3), .int (si 4)]))] : va_W)))) (fun r (_ : Unit) => r = rAd ra res) (fun _ : Unit => ([((xo 0), .inr (6, [.ref (ta 0), .ref xr, .int (xi 2), .ref (sa 0), .ref xm, .ref xg, .ref (tr 0), .ref xs, .ref xp, .ref xq, .ref xe, .ref xt]))] : va_W) ++ (([(xr, hcR k 6 xrr)] : va_W) ++ (([((sa 0), .inr (4, [.ref (xa 0), .ref (ca 0), .ref (na 0), .int (si 3), .int (si 4)]))] : va_W)))) 0 0 := by
  refine CtQ.mk (cc := cX8_ruleInForce) (maxL := 1) (ret := (some (.object "ChairCane$Rule"))) (by decide) rfl (Nat.le_of_ble_eq_true rfl) ?_
  intro p e s m below meth c A ls E hP hD hS hl
  obtain ⟨hx, hb, hr, hml, hown, hts, hlocks, hin, hG, hA⟩ := E
  have hown : s.vm.findClass RX8 = some m.cls := hown
  have in6 : ∀ w ∈ u_ws RX6 TX6 5, w ∈ wsX8_ruleInForce := fun _ h => List.mem_cons_of_mem _ (List.mem_append_right _ h)
  have in8 : ∀ w ∈ u_ws RX8 TX8 12, w ∈ wsX8_ruleInForce := fun _ h => List.mem_cons_of_mem _ (List.mem_append_left _ (List.mem_append_right _ h))
  have hl : lv_has ls 1 [(0, .ref (xo 0))] := hl
  refine lv_aload_n hx hb dX8_ruleInForce_0 rfl (lv_at hl 0 rfl) ?_
  refine lv_aload_n hx hb dX8_ruleInForce_1 rfl (lv_at hl 0 rfl) ?_
  refine va_get (D := D) (ci := 6) (v := .ref (sa 0)) (C := RX8) (T := TX8) (N := 12) hx hb hts in8 hown hG.1 hP 0 rfl rfl 3 (by decide) (hts (.fieldLink RX8 29 "ChairCane" "now" "LChairCane$Standing;") (mem_b bq_wsX8_ruleInForce 0 0 rfl)) (fun _ h9 => h9) rfl dX8_ruleInForce_2 ?_
  refine va_get (D := D) (ci := 4) (v := .int (si 3)) (C := RX6) (T := TX6) (N := 5) hx hb hts in6 hown hG.1 hP 2 rfl rfl 3 (by decide) (hts (.fieldLink RX8 112 "ChairCane$Standing" "inForce" "I") (mem_b bq_wsX8_ruleInForce 0 1 rfl)) (fun _ h9 => h9) rfl dX8_ruleInForce_5 ?_
  refine fw_Vq (As := [.int (si 3)]) (rest := []) (n := 1) (wr := ([((sa 0), .inr (4, [.ref (xa 0), .ref (ca 0), .ref (na 0), .int (si 3), .int (si 4)]))] : va_W)) (rv := fun b : Int32 => rAd ra b) (wp := fun b : Int32 => ([((xo 0), .inr (6, [.ref (ta 0), .ref xr, .int (xi 2), .ref (sa 0), .ref xm, .ref xg, .ref (tr 0), .ref xs, .ref xp, .ref xq, .ref xe, .ref xt]))] : va_W) ++ (([(xr, hcR k 6 xrr)] : va_W))) h hx hb hml hown hts hG hA hP hD hS hl.1 [0, 1] [2] (fun q hq9 => c_X8_ruleAt l D k _  xo ta xr sa xm xg tr xs xp xq xe xt ra F (si 3) xi xrr hq hq9) (ci := 6) (q0 := 0) rfl rfl gX8_ruleInForce_X8_ruleAt rfl ⟨rfl, rfl, Nat.le_of_ble_eq_true rfl, Nat.le_of_ble_eq_true rfl⟩ (by decide +kernel) rfl rfl ⟨by decide +kernel, by decide +kernel, by decide +kernel⟩ ⟨rfl, rfl, Nat.le_of_ble_eq_true rfl, Nat.le_of_ble_eq_true rfl, Nat.le_of_ble_eq_true rfl⟩ dX8_ruleInForce_8 (fun q1 H locs h hP hD hS => ?_)
  have hP : va_P D vwCl (([((sa 0), .inr (4, [.ref (xa 0), .ref (ca 0), .ref (na 0), .int (si 3), .int (si 4)]))] : va_W) ++ (([((xo 0), .inr (6, [.ref (ta 0), .ref xr, .int (xi 2), .ref (sa 0), .ref xm, .ref xg, .ref (tr 0), .ref xs, .ref xp, .ref xq, .ref xe, .ref xt]))] : va_W) ++ (([(xr, hcR k 6 xrr)] : va_W)))) H := hP
  have hD : va_D A (([((sa 0), .inr (4, [.ref (xa 0), .ref (ca 0), .ref (na 0), .int (si 3), .int (si 4)]))] : va_W) ++ (([((xo 0), .inr (6, [.ref (ta 0), .ref xr, .int (xi 2), .ref (sa 0), .ref xm, .ref xg, .ref (tr 0), .ref xs, .ref xp, .ref xq, .ref xe, .ref xt]))] : va_W) ++ (([(xr, hcR k 6 xrr)] : va_W)))) := hD
  refine hc_isV (z := va_rf (rAd ra q1)) rfl ?_
  exact fw_endQ (rv := fun b : Int32 => b) (ra := ra) (v := rAd ra q1) (wp := fun b : Int32 => ([((xo 0), .inr (6, [.ref (ta 0), .ref xr, .int (xi 2), .ref (sa 0), .ref xm, .ref xg, .ref (tr 0), .ref xs, .ref xp, .ref xq, .ref xe, .ref xt]))] : va_W) ++ (([(xr, hcR k 6 xrr)] : va_W) ++ (([((sa 0), .inr (4, [.ref (xa 0), .ref (ca 0), .ref (na 0), .int (si 3), .int (si 4)]))] : va_W)))) hx hb hr hlocks h rfl (hP.sub [1, 2, 0] rfl) (hD.sub [1, 2, 0] (by decide +kernel) rfl) hS dX8_ruleInForce_11
noncomputable def b_X8_force_13 (F : Nat)  (xi : Nat → Int32)  (si : Nat → Int32) : Option (Int32 × (Nat → Int32)) :=
  some ((-2), si)
noncomputable def f_X8_force (F : Nat)  (x1 : Int32) (xi : Nat → Int32) (si : Nat → Int32) : Option (Int32 × (Nat → Int32)) :=
  if x1 < (-1) then (b_X8_force_13 F xi si) else (if x1 < (xi 2) then (some ((si 3), (uF si 3 x1))) else (b_X8_force_13 F xi si))
set_option maxRecDepth 20000 in
theorem bq_wsX8_force : subq wsX8_force [[.fieldLink RX8 22 "ChairCane" "ruleCount" "I", .fieldLink RX8 29 "ChairCane" "now" "LChairCane$Standing;", .fieldLink RX8 112 "ChairCane$Standing" "inForce" "I"]] := ⟨(fun _ h => (List.mem_cons_of_mem _ (List.mem_append_left _ (List.mem_append_left _ h)))), trivial⟩
set_option maxHeartbeats 4000000 in
set_option maxRecDepth 100000 in
theorem c_X8_force (l : Launch) (D : va_G) (k : Nat → ClassId) (sz : Nat)  (xo : Nat → Nat) (ta : Nat → Nat) (xr : Nat) (sa : Nat → Nat) (xm : Nat) (xg : Nat) (tr : Nat → Nat) (xs : Nat) (xp : Nat) (xq : Nat) (xe : Nat) (xt : Nat) (xa : Nat → Nat) (ca : Nat → Nat) (na : Nat → Nat) (F : Nat)  (x1 : Int32) (xi : Nat → Int32) (si : Nat → Int32)  {res : Int32 × (Nat → Int32)} (h : f_X8_force F x1 xi si = some res) : CtI l yX8_force wsX8_force (rmK 1 0 0) [.ref (xo 0), .int x1] D k sz (([((xo 0), .inr (6, [.ref (ta 0), .ref xr, .int (xi 2), .ref (sa 0), .ref xm, .ref xg, .ref (tr 0), .ref xs, .ref xp, .ref xq, .ref xe, .ref xt]))] : va_W) ++ (([((sa 0), .inr (4, [.ref (xa 0), .ref (ca 0), .ref (na 0), .int (si 3), .int (si 4)]))] : va_W))) (fun r (_ : Unit) => r = res.1) (fun _ : Unit => ([((xo 0), .inr (6, [.ref (ta 0), .ref xr, .int (xi 2), .ref (sa 0), .ref xm, .ref xg, .ref (tr 0), .ref xs, .ref xp, .ref xq, .ref xe, .ref xt]))] : va_W) ++ (([((sa 0), .inr (4, [.ref (xa 0), .ref (ca 0), .ref (na 0), .int (res.2 3), .int (res.2 4)]))] : va_W))) 0 0 := by
  refine CtI.mk (cc := cX8_force) (maxL := 3) (ret := (some .int)) (by decide) rfl (Nat.le_of_ble_eq_true rfl) ?_
  intro p e s m below meth c A ls E hP hD hS hl
  obtain ⟨hx, hb, hr, hml, hown, hts, hlocks, hin, hG, hA⟩ := E
  have hown : s.vm.findClass RX8 = some m.cls := hown
  have in6 : ∀ w ∈ u_ws RX6 TX6 5, w ∈ wsX8_force := fun _ h => List.mem_cons_of_mem _ (List.mem_append_right _ h)
  have in8 : ∀ w ∈ u_ws RX8 TX8 12, w ∈ wsX8_force := fun _ h => List.mem_cons_of_mem _ (List.mem_append_left _ (List.mem_append_right _ h))
  have hl : lv_has ls 3 [(0, .ref (xo 0)), (1, .int x1)] := hl
  have B13 : ∀ (si : Nat → Int32) (H : Heap) (locs : List Loc) (ls : Array Slot), b_X8_force_13 F xi si = some res → va_P D vwCl (([((xo 0), .inr (6, [.ref (ta 0), .ref xr, .int (xi 2), .ref (sa 0), .ref xm, .ref xg, .ref (tr 0), .ref xs, .ref xp, .ref xq, .ref xe, .ref xt]))] : va_W) ++ (([((sa 0), .inr (4, [.ref (xa 0), .ref (ca 0), .ref (na 0), .int (si 3), .int (si 4)]))] : va_W))) H → va_D A (([((xo 0), .inr (6, [.ref (ta 0), .ref xr, .int (xi 2), .ref (sa 0), .ref xm, .ref xg, .ref (tr 0), .ref xs, .ref xp, .ref xq, .ref xe, .ref xt]))] : va_W) ++ (([((sa 0), .inr (4, [.ref (xa 0), .ref (ca 0), .ref (na 0), .int (si 3), .int (si 4)]))] : va_W))) → va_S A s.heap H locs → lv_has ls 3 [] → W p l e (rmK 1 0 0) s m (List.toArray [.ref (xo 0), .int x1]) below meth c H locs 0 0 (MQ below (va_Qi (fun r (_ : Unit) => r = res.1) (hcB D (fun _ : Unit => ([((xo 0), .inr (6, [.ref (ta 0), .ref xr, .int (xi 2), .ref (sa 0), .ref xm, .ref xg, .ref (tr 0), .ref xs, .ref xp, .ref xq, .ref xe, .ref xt]))] : va_W) ++ (([((sa 0), .inr (4, [.ref (xa 0), .ref (ca 0), .ref (na 0), .int (res.2 3), .int (res.2 4)]))] : va_W))) A) A) (List.toArray [.ref (xo 0), .int x1]) s 0 0 A) (F0 m 13 ls []) := by
    intro si H locs ls h hP hD hS hl
    refine lv_bipush (v := (-2)) hx hb dX8_force_13 (by decide) ?_
    exact fw_endI (rv := fun b : Int32 × (Nat → Int32) => b.1) (wp := fun b : Int32 × (Nat → Int32) => ([((xo 0), .inr (6, [.ref (ta 0), .ref xr, .int (xi 2), .ref (sa 0), .ref xm, .ref xg, .ref (tr 0), .ref xs, .ref xp, .ref xq, .ref xe, .ref xt]))] : va_W) ++ (([((sa 0), .inr (4, [.ref (xa 0), .ref (ca 0), .ref (na 0), .int (b.2 3), .int (b.2 4)]))] : va_W))) hx hb hr hlocks h rfl hP hD hS dX8_force_15
  refine lv_iload_n hx hb dX8_force_0 rfl (lv_at hl 1 rfl) ?_
  refine lv_iconst (v := (-1)) hx hb dX8_force_1 (by decide) ?_
  refine lv_icmp_lt (tgt := 13) hx hb dX8_force_2 (by decide) (fun c1 => ?_) (fun c1 => ?_)
  · have h := fw_t c1 h
    exact B13 _ _ _ _ h hP hD hS (lv_sub hl [] rfl)
  · have h := fw_f c1 h
    refine lv_iload_n hx hb dX8_force_5 rfl (lv_at hl 1 rfl) ?_
    refine lv_aload_n hx hb dX8_force_6 rfl (lv_at hl 0 rfl) ?_
    refine va_get (D := D) (ci := 6) (v := .int (xi 2)) (C := RX8) (T := TX8) (N := 12) hx hb hts in8 hown hG.1 hP 0 rfl rfl 2 (by decide) (hts (.fieldLink RX8 22 "ChairCane" "ruleCount" "I") (mem_b bq_wsX8_force 0 0 rfl)) (fun _ h9 => h9) rfl dX8_force_7 ?_
    refine lv_icmp_lt (tgt := 16) hx hb dX8_force_10 (by decide) (fun c2 => ?_) (fun c2 => ?_)
    · have h := fw_t c2 h
      refine lv_aload_n hx hb dX8_force_16 rfl (lv_at hl 0 rfl) ?_
      refine va_get (D := D) (ci := 6) (v := .ref (sa 0)) (C := RX8) (T := TX8) (N := 12) hx hb hts in8 hown hG.1 hP 0 rfl rfl 3 (by decide) (hts (.fieldLink RX8 29 "ChairCane" "now" "LChairCane$Standing;") (mem_b bq_wsX8_force 0 1 rfl)) (fun _ h9 => h9) rfl dX8_force_17 ?_
      refine va_get (D := D) (ci := 4) (v := .int (si 3)) (C := RX6) (T := TX6) (N := 5) hx hb hts in6 hown hG.1 hP 1 rfl rfl 3 (by decide) (hts (.fieldLink RX8 112 "ChairCane$Standing" "inForce" "I") (mem_b bq_wsX8_force 0 2 rfl)) (fun _ h9 => h9) rfl dX8_force_20 ?_
      refine lv_istore_n (lv' := [(2, .int (si 3)), (0, .ref (xo 0)), (1, .int x1)]) hx hb dX8_force_23 rfl hl (by decide) rfl (fun ls hl => ?_)
      refine lv_aload_n hx hb dX8_force_24 rfl (lv_at hl 1 rfl) ?_
      refine va_get (D := D) (ci := 6) (v := .ref (sa 0)) (C := RX8) (T := TX8) (N := 12) hx hb hts in8 hown hG.1 hP 0 rfl rfl 3 (by decide) (hts (.fieldLink RX8 29 "ChairCane" "now" "LChairCane$Standing;") (mem_b bq_wsX8_force 0 1 rfl)) (fun _ h9 => h9) rfl dX8_force_25 ?_
      refine lv_iload_n hx hb dX8_force_28 rfl (lv_at hl 2 rfl) ?_
      refine va_put (D := D) (ci := 4) (v := .int x1) (C := RX6) (T := TX6) (N := 5) hx hb hts in6 tyX6 tyX6_ok nmX6 hown hG.1 hP hD hS 1 rfl rfl 3 (by decide) (hts (.fieldLink RX8 112 "ChairCane$Standing" "inForce" "I") (mem_b bq_wsX8_force 0 2 rfl)) (fun _ h9 => h9) rfl (tyX6_ok 3 (by decide)) rfl rfl (Nat.le_of_ble_eq_true rfl) dX8_force_29 (fun H locs hP hD hS => ?_)
      refine lv_iload_n hx hb dX8_force_32 rfl (lv_at hl 0 rfl) ?_
      exact fw_endI (rv := fun b : Int32 × (Nat → Int32) => b.1) (wp := fun b : Int32 × (Nat → Int32) => ([((xo 0), .inr (6, [.ref (ta 0), .ref xr, .int (xi 2), .ref (sa 0), .ref xm, .ref xg, .ref (tr 0), .ref xs, .ref xp, .ref xq, .ref xe, .ref xt]))] : va_W) ++ (([((sa 0), .inr (4, [.ref (xa 0), .ref (ca 0), .ref (na 0), .int (b.2 3), .int (b.2 4)]))] : va_W))) hx hb hr hlocks h rfl hP hD hS dX8_force_33
    · have h := fw_f c2 h
      exact B13 _ _ _ _ h hP hD hS (lv_sub hl [] rfl)
noncomputable def b_X8_strand_30 (F : Nat)  (xi : Nat → Int32) (si : Nat → Int32) (rm : OB)  (y0 : Int32) : Option (Int32) :=
  some y0
noncomputable def f_X8_strand (F : Nat)  (x1 : Int32) (xi : Nat → Int32) (si : Nat → Int32) (rm : OB) : Option (Int32) :=
  Option.bind (f_X3_hasStrand F x1 rm) (fun q1 => (if q1 = 0 then (b_X8_strand_30 F xi si rm (-1)) else (if ib x1 4 then (b_X8_strand_30 F xi si rm ((rm.2.1 9) (Int32.toNatClampNeg x1))) else none)))
set_option maxHeartbeats 4000000 in
set_option maxRecDepth 100000 in
theorem c_X8_strand (l : Launch) (D : va_G) (k : Nat → ClassId) (sz : Nat)  (xo : Nat → Nat) (ta : Nat → Nat) (xr : Nat) (sa : Nat → Nat) (xm : Nat) (xg : Nat) (tr : Nat → Nat) (xs : Nat) (xp : Nat) (xq : Nat) (xe : Nat) (xt : Nat) (xa : Nat → Nat) (ca : Nat → Nat) (na : Nat → Nat) (F : Nat)  (x1 : Int32) (xi : Nat → Int32) (si : Nat → Int32) (rm : OB)  {res : Int32} (h : f_X8_strand F x1 xi si rm = some res) : CtI l yX8_strand wsX8_strand (rmK 2 0 0) [.ref (xo 0), .int x1] D k sz (([((xo 0), .inr (6, [.ref (ta 0), .ref xr, .int (xi 2), .ref (sa 0), .ref xm, .ref xg, .ref (tr 0), .ref xs, .ref xp, .ref xq, .ref xe, .ref xt]))] : va_W) ++ (([((sa 0), .inr (4, [.ref (xa 0), .ref (ca 0), .ref (na 0), .int (si 3), .int (si 4)]))] : va_W) ++ (rmW k xa rm))) (fun r (_ : Unit) => r = res) (fun _ : Unit => ([((xo 0), .inr (6, [.ref (ta 0), .ref xr, .int (xi 2), .ref (sa 0), .ref xm, .ref xg, .ref (tr 0), .ref xs, .ref xp, .ref xq, .ref xe, .ref xt]))] : va_W) ++ (([((sa 0), .inr (4, [.ref (xa 0), .ref (ca 0), .ref (na 0), .int (si 3), .int (si 4)]))] : va_W) ++ (rmW k xa rm))) 0 0 := by
  refine CtI.mk (cc := cX8_strand) (maxL := 2) (ret := (some .int)) (by decide) rfl (Nat.le_of_ble_eq_true rfl) ?_
  intro p e s m below meth c A ls E hP hD hS hl
  obtain ⟨hx, hb, hr, hml, hown, hts, hlocks, hin, hG, hA⟩ := E
  have hown : s.vm.findClass RX8 = some m.cls := hown
  have in3 : ∀ w ∈ u_ws RX3 TX3 17, w ∈ wsX8_strand := fun _ h => List.mem_cons_of_mem _ (List.mem_append_right _ h)
  have in6 : ∀ w ∈ u_ws RX6 TX6 5, w ∈ wsX8_strand := fun _ h => List.mem_cons_of_mem _ (List.mem_append_left _ (List.mem_append_right _ h))
  have in8 : ∀ w ∈ u_ws RX8 TX8 12, w ∈ wsX8_strand := fun _ h => List.mem_cons_of_mem _ (List.mem_append_left _ (List.mem_append_left _ (List.mem_append_right _ h)))
  have hl : lv_has ls 2 [(0, .ref (xo 0)), (1, .int x1)] := hl
  have B30 : ∀ (y0 : Int32) (H : Heap) (locs : List Loc) (ls : Array Slot), b_X8_strand_30 F xi si rm y0 = some res → va_P D vwCl (([((xo 0), .inr (6, [.ref (ta 0), .ref xr, .int (xi 2), .ref (sa 0), .ref xm, .ref xg, .ref (tr 0), .ref xs, .ref xp, .ref xq, .ref xe, .ref xt]))] : va_W) ++ (([((sa 0), .inr (4, [.ref (xa 0), .ref (ca 0), .ref (na 0), .int (si 3), .int (si 4)]))] : va_W) ++ (rmW k xa rm))) H → va_D A (([((xo 0), .inr (6, [.ref (ta 0), .ref xr, .int (xi 2), .ref (sa 0), .ref xm, .ref xg, .ref (tr 0), .ref xs, .ref xp, .ref xq, .ref xe, .ref xt]))] : va_W) ++ (([((sa 0), .inr (4, [.ref (xa 0), .ref (ca 0), .ref (na 0), .int (si 3), .int (si 4)]))] : va_W) ++ (rmW k xa rm))) → va_S A s.heap H locs → lv_has ls 2 [] → W p l e (rmK 2 0 0) s m (List.toArray [.ref (xo 0), .int x1]) below meth c H locs 0 0 (MQ below (va_Qi (fun r (_ : Unit) => r = res) (hcB D (fun _ : Unit => ([((xo 0), .inr (6, [.ref (ta 0), .ref xr, .int (xi 2), .ref (sa 0), .ref xm, .ref xg, .ref (tr 0), .ref xs, .ref xp, .ref xq, .ref xe, .ref xt]))] : va_W) ++ (([((sa 0), .inr (4, [.ref (xa 0), .ref (ca 0), .ref (na 0), .int (si 3), .int (si 4)]))] : va_W) ++ (rmW k xa rm))) A) A) (List.toArray [.ref (xo 0), .int x1]) s 0 0 A) (F0 m 30 ls [.int y0]) := by
    intro y0 H locs ls h hP hD hS hl
    exact fw_endI (rv := fun b : Int32 => b) (wp := fun b : Int32 => ([((xo 0), .inr (6, [.ref (ta 0), .ref xr, .int (xi 2), .ref (sa 0), .ref xm, .ref xg, .ref (tr 0), .ref xs, .ref xp, .ref xq, .ref xe, .ref xt]))] : va_W) ++ (([((sa 0), .inr (4, [.ref (xa 0), .ref (ca 0), .ref (na 0), .int (si 3), .int (si 4)]))] : va_W) ++ (rmW k xa rm))) hx hb hr hlocks h rfl hP hD hS dX8_strand_30
  refine lv_aload_n hx hb dX8_strand_0 rfl (lv_at hl 0 rfl) ?_
  refine va_get (D := D) (ci := 6) (v := .ref (sa 0)) (C := RX8) (T := TX8) (N := 12) hx hb hts in8 hown hG.1 hP 0 rfl rfl 3 (by decide) (hts (.fieldLink RX8 29 "ChairCane" "now" "LChairCane$Standing;") (mem_b bq_wsX8_strand 0 0 rfl)) (fun _ h9 => h9) rfl dX8_strand_1 ?_
  refine va_get (D := D) (ci := 4) (v := .ref (xa 0)) (C := RX6) (T := TX6) (N := 5) hx hb hts in6 hown hG.1 hP 1 rfl rfl 0 (by decide) (hts (.fieldLink RX8 81 "ChairCane$Standing" "room" "LChairCane$Room;") (mem_b bq_wsX8_strand 0 1 rfl)) (fun _ h9 => h9) rfl dX8_strand_4 ?_
  refine lv_iload_n hx hb dX8_strand_7 rfl (lv_at hl 1 rfl) ?_
  refine fw_Vi (As := [.int x1]) (rest := []) (n := 1) (wr := ([((xo 0), .inr (6, [.ref (ta 0), .ref xr, .int (xi 2), .ref (sa 0), .ref xm, .ref xg, .ref (tr 0), .ref xs, .ref xp, .ref xq, .ref xe, .ref xt]))] : va_W) ++ (([((sa 0), .inr (4, [.ref (xa 0), .ref (ca 0), .ref (na 0), .int (si 3), .int (si 4)]))] : va_W))) (rv := fun b : Int32 => b) (wp := fun b : Int32 => rmW k xa rm) h hx hb hml hown hts hG hA hP hD hS hl.1 [2, 3, 4, 5, 6, 7, 8, 9, 10] [0, 1] (fun q hq9 => c_X3_hasStrand l D k _  xa F x1 rm  hq9) (ci := 2) (q0 := 2) rfl rfl gX8_strand_X3_hasStrand rfl ⟨rfl, rfl, Nat.le_of_ble_eq_true rfl, Nat.le_of_ble_eq_true rfl⟩ (by decide +kernel) rfl rfl ⟨by decide +kernel, by decide +kernel, by decide +kernel⟩ ⟨rfl, rfl, Nat.le_of_ble_eq_true rfl, Nat.le_of_ble_eq_true rfl, Nat.le_of_ble_eq_true rfl⟩ dX8_strand_8 (fun q1 H locs h hP hD hS => ?_)
  have hP : va_P D vwCl (([((xo 0), .inr (6, [.ref (ta 0), .ref xr, .int (xi 2), .ref (sa 0), .ref xm, .ref xg, .ref (tr 0), .ref xs, .ref xp, .ref xq, .ref xe, .ref xt]))] : va_W) ++ (([((sa 0), .inr (4, [.ref (xa 0), .ref (ca 0), .ref (na 0), .int (si 3), .int (si 4)]))] : va_W) ++ (rmW k xa rm))) H := hP
  have hD : va_D A (([((xo 0), .inr (6, [.ref (ta 0), .ref xr, .int (xi 2), .ref (sa 0), .ref xm, .ref xg, .ref (tr 0), .ref xs, .ref xp, .ref xq, .ref xe, .ref xt]))] : va_W) ++ (([((sa 0), .inr (4, [.ref (xa 0), .ref (ca 0), .ref (na 0), .int (si 3), .int (si 4)]))] : va_W) ++ (rmW k xa rm))) := hD
  refine hc_is (z := q1) rfl ?_
  refine lv_if_eq (tgt := 29) hx hb dX8_strand_11 (by decide) (fun c2 => ?_) (fun c2 => ?_)
  · have h := fw_t c2 h
    refine lv_iconst (v := (-1)) hx hb dX8_strand_29 (by decide) ?_
    exact B30 _ _ _ _ h hP hD hS (lv_sub hl [] rfl)
  · have h := fw_f c2 h
    refine lv_aload_n hx hb dX8_strand_14 rfl (lv_at hl 0 rfl) ?_
    refine va_get (D := D) (ci := 6) (v := .ref (sa 0)) (C := RX8) (T := TX8) (N := 12) hx hb hts in8 hown hG.1 hP 0 rfl rfl 3 (by decide) (hts (.fieldLink RX8 29 "ChairCane" "now" "LChairCane$Standing;") (mem_b bq_wsX8_strand 0 0 rfl)) (fun _ h9 => h9) rfl dX8_strand_15 ?_
    refine va_get (D := D) (ci := 4) (v := .ref (xa 0)) (C := RX6) (T := TX6) (N := 5) hx hb hts in6 hown hG.1 hP 1 rfl rfl 0 (by decide) (hts (.fieldLink RX8 81 "ChairCane$Standing" "room" "LChairCane$Room;") (mem_b bq_wsX8_strand 0 1 rfl)) (fun _ h9 => h9) rfl dX8_strand_18 ?_
    refine va_get (D := D) (ci := 2) (v := .ref (xa 6)) (C := RX3) (T := TX3) (N := 17) hx hb hts in3 hown hG.1 hP 2 rfl rfl 9 (by decide) (hts (.fieldLink RX8 119 "ChairCane$Room" "cane" "[I") (mem_b bq_wsX8_strand 0 2 rfl)) (fun _ h9 => h9) rfl dX8_strand_21 ?_
    refine lv_iload_n hx hb dX8_strand_24 rfl (lv_at hl 1 rfl) ?_
    obtain ⟨g3, h⟩ := fw_g h
    refine va_iald hx hb hG.1 hP 8 0 rfl rfl (ib_vp g3) dX8_strand_25 ?_
    refine lv_goto (tgt := 30) hx hb dX8_strand_26 (by decide) ?_
    exact B30 _ _ _ _ h hP hD hS (lv_sub hl [] rfl)
noncomputable def f_X8_chair (F : Nat)  (x1 : Int32) (x2 : Int32) (xi : Nat → Int32) (si : Nat → Int32) (rm : OB) : Option (Int32) :=
  Option.bind (f_X3_hasChair F x1 rm) (fun q1 => (if q1 = 0 then (some (-2)) else (if x2 = 0 then (if ib x1 8 then (some ((rm.2.1 5) (Int32.toNatClampNeg x1))) else none) else if x2 = 1 then (if ib x1 8 then (some ((rm.2.1 6) (Int32.toNatClampNeg x1))) else none) else if x2 = 2 then (Option.bind (f_X3_sitterOn F x1 rm) (fun q8 => (some q8))) else if x2 = 3 then (Option.bind (f_X3_sitterOn F x1 rm) (fun q10 => (Option.bind (f_X3_givesUnder F q10 rm) (fun q11 => (some q11))))) else (some (-2)))))
set_option maxHeartbeats 4000000 in
set_option maxRecDepth 100000 in
theorem c_X8_chair (l : Launch) (D : va_G) (k : Nat → ClassId) (sz : Nat)  (xo : Nat → Nat) (ta : Nat → Nat) (xr : Nat) (sa : Nat → Nat) (xm : Nat) (xg : Nat) (tr : Nat → Nat) (xs : Nat) (xp : Nat) (xq : Nat) (xe : Nat) (xt : Nat) (xa : Nat → Nat) (ca : Nat → Nat) (na : Nat → Nat) (F : Nat)  (x1 : Int32) (x2 : Int32) (xi : Nat → Int32) (si : Nat → Int32) (rm : OB)  {res : Int32} (h : f_X8_chair F x1 x2 xi si rm = some res) : CtI l yX8_chair wsX8_chair (rmK 2 0 0) [.ref (xo 0), .int x1, .int x2] D k sz (([((xo 0), .inr (6, [.ref (ta 0), .ref xr, .int (xi 2), .ref (sa 0), .ref xm, .ref xg, .ref (tr 0), .ref xs, .ref xp, .ref xq, .ref xe, .ref xt]))] : va_W) ++ (([((sa 0), .inr (4, [.ref (xa 0), .ref (ca 0), .ref (na 0), .int (si 3), .int (si 4)]))] : va_W) ++ (rmW k xa rm))) (fun r (_ : Unit) => r = res) (fun _ : Unit => ([((xo 0), .inr (6, [.ref (ta 0), .ref xr, .int (xi 2), .ref (sa 0), .ref xm, .ref xg, .ref (tr 0), .ref xs, .ref xp, .ref xq, .ref xe, .ref xt]))] : va_W) ++ (([((sa 0), .inr (4, [.ref (xa 0), .ref (ca 0), .ref (na 0), .int (si 3), .int (si 4)]))] : va_W) ++ (rmW k xa rm))) 0 0 := by
  refine CtI.mk (cc := cX8_chair) (maxL := 4) (ret := (some .int)) (by decide) rfl (Nat.le_of_ble_eq_true rfl) ?_
  intro p e s m below meth c A ls E hP hD hS hl
  obtain ⟨hx, hb, hr, hml, hown, hts, hlocks, hin, hG, hA⟩ := E
  have hown : s.vm.findClass RX8 = some m.cls := hown
  have in3 : ∀ w ∈ u_ws RX3 TX3 17, w ∈ wsX8_chair := fun _ h => List.mem_cons_of_mem _ (List.mem_append_right _ h)
  have in6 : ∀ w ∈ u_ws RX6 TX6 5, w ∈ wsX8_chair := fun _ h => List.mem_cons_of_mem _ (List.mem_append_left _ (List.mem_append_right _ h))
  have in8 : ∀ w ∈ u_ws RX8 TX8 12, w ∈ wsX8_chair := fun _ h => List.mem_cons_of_mem _ (List.mem_append_left _ (List.mem_append_left _ (List.mem_append_right _ h)))
  have hl : lv_has ls 4 [(0, .ref (xo 0)), (1, .int x1), (2, .int x2)] := hl
  refine lv_aload_n hx hb dX8_chair_0 rfl (lv_at hl 0 rfl) ?_
  refine va_get (D := D) (ci := 6) (v := .ref (sa 0)) (C := RX8) (T := TX8) (N := 12) hx hb hts in8 hown hG.1 hP 0 rfl rfl 3 (by decide) (hts (.fieldLink RX8 29 "ChairCane" "now" "LChairCane$Standing;") (mem_b bq_wsX8_chair 0 0 rfl)) (fun _ h9 => h9) rfl dX8_chair_1 ?_
  refine va_get (D := D) (ci := 4) (v := .ref (xa 0)) (C := RX6) (T := TX6) (N := 5) hx hb hts in6 hown hG.1 hP 1 rfl rfl 0 (by decide) (hts (.fieldLink RX8 81 "ChairCane$Standing" "room" "LChairCane$Room;") (mem_b bq_wsX8_chair 0 1 rfl)) (fun _ h9 => h9) rfl dX8_chair_4 ?_
  refine lv_astore_n (lv' := [(3, .ref (xa 0)), (0, .ref (xo 0)), (1, .int x1), (2, .int x2)]) hx hb dX8_chair_7 rfl hl (by decide) rfl (fun ls hl => ?_)
  refine lv_aload_n hx hb dX8_chair_8 rfl (lv_at hl 0 rfl) ?_
  refine lv_iload_n hx hb dX8_chair_9 rfl (lv_at hl 2 rfl) ?_
  refine fw_Vi (As := [.int x1]) (rest := []) (n := 1) (wr := ([((xo 0), .inr (6, [.ref (ta 0), .ref xr, .int (xi 2), .ref (sa 0), .ref xm, .ref xg, .ref (tr 0), .ref xs, .ref xp, .ref xq, .ref xe, .ref xt]))] : va_W) ++ (([((sa 0), .inr (4, [.ref (xa 0), .ref (ca 0), .ref (na 0), .int (si 3), .int (si 4)]))] : va_W))) (rv := fun b : Int32 => b) (wp := fun b : Int32 => rmW k xa rm) h hx hb hml hown hts hG hA hP hD hS hl.1 [2, 3, 4, 5, 6, 7, 8, 9, 10] [0, 1] (fun q hq9 => c_X3_hasChair l D k _  xa F x1 rm  hq9) (ci := 2) (q0 := 2) rfl rfl gX8_chair_X3_hasChair rfl ⟨rfl, rfl, Nat.le_of_ble_eq_true rfl, Nat.le_of_ble_eq_true rfl⟩ (by decide +kernel) rfl rfl ⟨by decide +kernel, by decide +kernel, by decide +kernel⟩ ⟨rfl, rfl, Nat.le_of_ble_eq_true rfl, Nat.le_of_ble_eq_true rfl, Nat.le_of_ble_eq_true rfl⟩ dX8_chair_10 (fun q1 H locs h hP hD hS => ?_)
  have hP : va_P D vwCl (([((xo 0), .inr (6, [.ref (ta 0), .ref xr, .int (xi 2), .ref (sa 0), .ref xm, .ref xg, .ref (tr 0), .ref xs, .ref xp, .ref xq, .ref xe, .ref xt]))] : va_W) ++ (([((sa 0), .inr (4, [.ref (xa 0), .ref (ca 0), .ref (na 0), .int (si 3), .int (si 4)]))] : va_W) ++ (rmW k xa rm))) H := hP
  have hD : va_D A (([((xo 0), .inr (6, [.ref (ta 0), .ref xr, .int (xi 2), .ref (sa 0), .ref xm, .ref xg, .ref (tr 0), .ref xs, .ref xp, .ref xq, .ref xe, .ref xt]))] : va_W) ++ (([((sa 0), .inr (4, [.ref (xa 0), .ref (ca 0), .ref (na 0), .int (si 3), .int (si 4)]))] : va_W) ++ (rmW k xa rm))) := hD
  refine hc_is (z := q1) rfl ?_
  refine lv_if_ne (tgt := 19) hx hb dX8_chair_13 (by decide) (fun c2 => ?_) (fun c2 => ?_)
  · have h := fw_f c2 h
    refine lv_iload_n hx hb dX8_chair_19 rfl (lv_at hl 3 rfl) ?_
    by_cases c3 : x2 = 0
    · have h := fw_t c3 h
      refine lv_tableIn (off := 32) (tgt := 52) hx hb dX8_chair_20 (by rw [c3]; decide) (by rw [c3]; decide) (by rw [c3]; rfl) (by decide) ?_
      refine lv_aload_n hx hb dX8_chair_52 rfl (lv_at hl 0 rfl) ?_
      refine va_get (D := D) (ci := 2) (v := .ref (xa 2)) (C := RX3) (T := TX3) (N := 17) hx hb hts in3 hown hG.1 hP 2 rfl rfl 5 (by decide) (hts (.fieldLink RX8 125 "ChairCane$Room" "height" "[I") (mem_b bq_wsX8_chair 0 2 rfl)) (fun _ h9 => h9) rfl dX8_chair_53 ?_
      refine lv_iload_n hx hb dX8_chair_56 rfl (lv_at hl 2 rfl) ?_
      obtain ⟨g4, h⟩ := fw_g h
      refine va_iald hx hb hG.1 hP 4 0 rfl rfl (ib_vp g4) dX8_chair_57 ?_
      exact fw_endI (rv := fun b : Int32 => b) (wp := fun b : Int32 => ([((xo 0), .inr (6, [.ref (ta 0), .ref xr, .int (xi 2), .ref (sa 0), .ref xm, .ref xg, .ref (tr 0), .ref xs, .ref xp, .ref xq, .ref xe, .ref xt]))] : va_W) ++ (([((sa 0), .inr (4, [.ref (xa 0), .ref (ca 0), .ref (na 0), .int (si 3), .int (si 4)]))] : va_W) ++ (rmW k xa rm))) hx hb hr hlocks h rfl hP hD hS dX8_chair_58
    have h := fw_f c3 h
    by_cases c5 : x2 = 1
    · have h := fw_t c5 h
      refine lv_tableIn (off := 39) (tgt := 59) hx hb dX8_chair_20 (by rw [c5]; decide) (by rw [c5]; decide) (by rw [c5]; rfl) (by decide) ?_
      refine lv_aload_n hx hb dX8_chair_59 rfl (lv_at hl 0 rfl) ?_
      refine va_get (D := D) (ci := 2) (v := .ref (xa 3)) (C := RX3) (T := TX3) (N := 17) hx hb hts in3 hown hG.1 hP 2 rfl rfl 6 (by decide) (hts (.fieldLink RX8 128 "ChairCane$Room" "strandOf" "[I") (mem_b bq_wsX8_chair 0 3 rfl)) (fun _ h9 => h9) rfl dX8_chair_60 ?_
      refine lv_iload_n hx hb dX8_chair_63 rfl (lv_at hl 2 rfl) ?_
      obtain ⟨g6, h⟩ := fw_g h
      refine va_iald hx hb hG.1 hP 5 0 rfl rfl (ib_vp g6) dX8_chair_64 ?_
      exact fw_endI (rv := fun b : Int32 => b) (wp := fun b : Int32 => ([((xo 0), .inr (6, [.ref (ta 0), .ref xr, .int (xi 2), .ref (sa 0), .ref xm, .ref xg, .ref (tr 0), .ref xs, .ref xp, .ref xq, .ref xe, .ref xt]))] : va_W) ++ (([((sa 0), .inr (4, [.ref (xa 0), .ref (ca 0), .ref (na 0), .int (si 3), .int (si 4)]))] : va_W) ++ (rmW k xa rm))) hx hb hr hlocks h rfl hP hD hS dX8_chair_65
    have h := fw_f c5 h
    by_cases c7 : x2 = 2
    · have h := fw_t c7 h
      refine lv_tableIn (off := 46) (tgt := 66) hx hb dX8_chair_20 (by rw [c7]; decide) (by rw [c7]; decide) (by rw [c7]; rfl) (by decide) ?_
      refine lv_aload_n hx hb dX8_chair_66 rfl (lv_at hl 0 rfl) ?_
      refine lv_iload_n hx hb dX8_chair_67 rfl (lv_at hl 2 rfl) ?_
      refine fw_Vi (As := [.int x1]) (rest := []) (n := 1) (wr := ([((xo 0), .inr (6, [.ref (ta 0), .ref xr, .int (xi 2), .ref (sa 0), .ref xm, .ref xg, .ref (tr 0), .ref xs, .ref xp, .ref xq, .ref xe, .ref xt]))] : va_W) ++ (([((sa 0), .inr (4, [.ref (xa 0), .ref (ca 0), .ref (na 0), .int (si 3), .int (si 4)]))] : va_W))) (rv := fun b : Int32 => b) (wp := fun b : Int32 => rmW k xa rm) h hx hb hml hown hts hG hA hP hD hS hl.1 [2, 3, 4, 5, 6, 7, 8, 9, 10] [0, 1] (fun q hq9 => c_X3_sitterOn l D k _  xa F x1 rm  hq9) (ci := 2) (q0 := 2) rfl rfl gX8_chair_X3_sitterOn rfl ⟨rfl, rfl, Nat.le_of_ble_eq_true rfl, Nat.le_of_ble_eq_true rfl⟩ (by decide +kernel) rfl rfl ⟨by decide +kernel, by decide +kernel, by decide +kernel⟩ ⟨rfl, rfl, Nat.le_of_ble_eq_true rfl, Nat.le_of_ble_eq_true rfl, Nat.le_of_ble_eq_true rfl⟩ dX8_chair_68 (fun q8 H locs h hP hD hS => ?_)
      have hP : va_P D vwCl (([((xo 0), .inr (6, [.ref (ta 0), .ref xr, .int (xi 2), .ref (sa 0), .ref xm, .ref xg, .ref (tr 0), .ref xs, .ref xp, .ref xq, .ref xe, .ref xt]))] : va_W) ++ (([((sa 0), .inr (4, [.ref (xa 0), .ref (ca 0), .ref (na 0), .int (si 3), .int (si 4)]))] : va_W) ++ (rmW k xa rm))) H := hP
      have hD : va_D A (([((xo 0), .inr (6, [.ref (ta 0), .ref xr, .int (xi 2), .ref (sa 0), .ref xm, .ref xg, .ref (tr 0), .ref xs, .ref xp, .ref xq, .ref xe, .ref xt]))] : va_W) ++ (([((sa 0), .inr (4, [.ref (xa 0), .ref (ca 0), .ref (na 0), .int (si 3), .int (si 4)]))] : va_W) ++ (rmW k xa rm))) := hD
      refine hc_is (z := q8) rfl ?_
      exact fw_endI (rv := fun b : Int32 => b) (wp := fun b : Int32 => ([((xo 0), .inr (6, [.ref (ta 0), .ref xr, .int (xi 2), .ref (sa 0), .ref xm, .ref xg, .ref (tr 0), .ref xs, .ref xp, .ref xq, .ref xe, .ref xt]))] : va_W) ++ (([((sa 0), .inr (4, [.ref (xa 0), .ref (ca 0), .ref (na 0), .int (si 3), .int (si 4)]))] : va_W) ++ (rmW k xa rm))) hx hb hr hlocks h rfl hP hD hS dX8_chair_71
    have h := fw_f c7 h
    by_cases c9 : x2 = 3
    · have h := fw_t c9 h
      refine lv_tableIn (off := 52) (tgt := 72) hx hb dX8_chair_20 (by rw [c9]; decide) (by rw [c9]; decide) (by rw [c9]; rfl) (by decide) ?_
      refine lv_aload_n hx hb dX8_chair_72 rfl (lv_at hl 0 rfl) ?_
      refine lv_aload_n hx hb dX8_chair_73 rfl (lv_at hl 0 rfl) ?_
      refine lv_iload_n hx hb dX8_chair_74 rfl (lv_at hl 2 rfl) ?_
      refine fw_Vi (As := [.int x1]) (rest := [.ref (xa 0)]) (n := 1) (wr := ([((xo 0), .inr (6, [.ref (ta 0), .ref xr, .int (xi 2), .ref (sa 0), .ref xm, .ref xg, .ref (tr 0), .ref xs, .ref xp, .ref xq, .ref xe, .ref xt]))] : va_W) ++ (([((sa 0), .inr (4, [.ref (xa 0), .ref (ca 0), .ref (na 0), .int (si 3), .int (si 4)]))] : va_W))) (rv := fun b : Int32 => b) (wp := fun b : Int32 => rmW k xa rm) h hx hb hml hown hts hG hA hP hD hS hl.1 [2, 3, 4, 5, 6, 7, 8, 9, 10] [0, 1] (fun q hq9 => c_X3_sitterOn l D k _  xa F x1 rm  hq9) (ci := 2) (q0 := 2) rfl rfl gX8_chair_X3_sitterOn rfl ⟨rfl, rfl, Nat.le_of_ble_eq_true rfl, Nat.le_of_ble_eq_true rfl⟩ (by decide +kernel) rfl rfl ⟨by decide +kernel, by decide +kernel, by decide +kernel⟩ ⟨rfl, rfl, Nat.le_of_ble_eq_true rfl, Nat.le_of_ble_eq_true rfl, Nat.le_of_ble_eq_true rfl⟩ dX8_chair_75 (fun q10 H locs h hP hD hS => ?_)
      have hP : va_P D vwCl (([((xo 0), .inr (6, [.ref (ta 0), .ref xr, .int (xi 2), .ref (sa 0), .ref xm, .ref xg, .ref (tr 0), .ref xs, .ref xp, .ref xq, .ref xe, .ref xt]))] : va_W) ++ (([((sa 0), .inr (4, [.ref (xa 0), .ref (ca 0), .ref (na 0), .int (si 3), .int (si 4)]))] : va_W) ++ (rmW k xa rm))) H := hP
      have hD : va_D A (([((xo 0), .inr (6, [.ref (ta 0), .ref xr, .int (xi 2), .ref (sa 0), .ref xm, .ref xg, .ref (tr 0), .ref xs, .ref xp, .ref xq, .ref xe, .ref xt]))] : va_W) ++ (([((sa 0), .inr (4, [.ref (xa 0), .ref (ca 0), .ref (na 0), .int (si 3), .int (si 4)]))] : va_W) ++ (rmW k xa rm))) := hD
      refine hc_is (z := q10) rfl ?_
      refine fw_Vi (As := [.int q10]) (rest := []) (n := 1) (wr := ([((xo 0), .inr (6, [.ref (ta 0), .ref xr, .int (xi 2), .ref (sa 0), .ref xm, .ref xg, .ref (tr 0), .ref xs, .ref xp, .ref xq, .ref xe, .ref xt]))] : va_W) ++ (([((sa 0), .inr (4, [.ref (xa 0), .ref (ca 0), .ref (na 0), .int (si 3), .int (si 4)]))] : va_W))) (rv := fun b : Int32 => b) (wp := fun b : Int32 => rmW k xa rm) h hx hb hml hown hts hG hA hP hD hS hl.1 [2, 3, 4, 5, 6, 7, 8, 9, 10] [0, 1] (fun q hq9 => c_X3_givesUnder l D k _  xa F q10 rm  hq9) (ci := 2) (q0 := 2) rfl rfl gX8_chair_X3_givesUnder rfl ⟨rfl, rfl, Nat.le_of_ble_eq_true rfl, Nat.le_of_ble_eq_true rfl⟩ (by decide +kernel) rfl rfl ⟨by decide +kernel, by decide +kernel, by decide +kernel⟩ ⟨rfl, rfl, Nat.le_of_ble_eq_true rfl, Nat.le_of_ble_eq_true rfl, Nat.le_of_ble_eq_true rfl⟩ dX8_chair_78 (fun q11 H locs h hP hD hS => ?_)
      have hP : va_P D vwCl (([((xo 0), .inr (6, [.ref (ta 0), .ref xr, .int (xi 2), .ref (sa 0), .ref xm, .ref xg, .ref (tr 0), .ref xs, .ref xp, .ref xq, .ref xe, .ref xt]))] : va_W) ++ (([((sa 0), .inr (4, [.ref (xa 0), .ref (ca 0), .ref (na 0), .int (si 3), .int (si 4)]))] : va_W) ++ (rmW k xa rm))) H := hP
      have hD : va_D A (([((xo 0), .inr (6, [.ref (ta 0), .ref xr, .int (xi 2), .ref (sa 0), .ref xm, .ref xg, .ref (tr 0), .ref xs, .ref xp, .ref xq, .ref xe, .ref xt]))] : va_W) ++ (([((sa 0), .inr (4, [.ref (xa 0), .ref (ca 0), .ref (na 0), .int (si 3), .int (si 4)]))] : va_W) ++ (rmW k xa rm))) := hD
      refine hc_is (z := q11) rfl ?_
      exact fw_endI (rv := fun b : Int32 => b) (wp := fun b : Int32 => ([((xo 0), .inr (6, [.ref (ta 0), .ref xr, .int (xi 2), .ref (sa 0), .ref xm, .ref xg, .ref (tr 0), .ref xs, .ref xp, .ref xq, .ref xe, .ref xt]))] : va_W) ++ (([((sa 0), .inr (4, [.ref (xa 0), .ref (ca 0), .ref (na 0), .int (si 3), .int (si 4)]))] : va_W) ++ (rmW k xa rm))) hx hb hr hlocks h rfl hP hD hS dX8_chair_81
    have h := fw_f c9 h
    simp only [sp_eq, show (0 : Int32).toInt = 0 from by decide, show (1 : Int32).toInt = 1 from by decide, show (2 : Int32).toInt = 2 from by decide, show (3 : Int32).toInt = 3 from by decide] at c3 c5 c7 c9
    refine lv_tableOut (tgt := 82) hx hb dX8_chair_20 (by omega) (by decide) ?_
    refine lv_bipush (v := (-2)) hx hb dX8_chair_82 (by decide) ?_
    exact fw_endI (rv := fun b : Int32 => b) (wp := fun b : Int32 => ([((xo 0), .inr (6, [.ref (ta 0), .ref xr, .int (xi 2), .ref (sa 0), .ref xm, .ref xg, .ref (tr 0), .ref xs, .ref xp, .ref xq, .ref xe, .ref xt]))] : va_W) ++ (([((sa 0), .inr (4, [.ref (xa 0), .ref (ca 0), .ref (na 0), .int (si 3), .int (si 4)]))] : va_W) ++ (rmW k xa rm))) hx hb hr hlocks h rfl hP hD hS dX8_chair_84
  · have h := fw_t c2 h
    refine lv_bipush (v := (-2)) hx hb dX8_chair_16 (by decide) ?_
    exact fw_endI (rv := fun b : Int32 => b) (wp := fun b : Int32 => ([((xo 0), .inr (6, [.ref (ta 0), .ref xr, .int (xi 2), .ref (sa 0), .ref xm, .ref xg, .ref (tr 0), .ref xs, .ref xp, .ref xq, .ref xe, .ref xt]))] : va_W) ++ (([((sa 0), .inr (4, [.ref (xa 0), .ref (ca 0), .ref (na 0), .int (si 3), .int (si 4)]))] : va_W) ++ (rmW k xa rm))) hx hb hr hlocks h rfl hP hD hS dX8_chair_18
noncomputable def f_X8_sitter (F : Nat)  (x1 : Int32) (x2 : Int32) (xi : Nat → Int32) (si : Nat → Int32) (rm : OB) : Option (Int32) :=
  Option.bind (f_X3_hasSitter F x1 rm) (fun q1 => (if q1 = 0 then (some (-1)) else (if x2 = 0 then (if ib x1 8 then (some ((rm.2.1 7) (Int32.toNatClampNeg x1))) else none) else if x2 = 1 then (if ib x1 8 then (some ((rm.2.1 8) (Int32.toNatClampNeg x1))) else none) else if x2 = 2 then (Option.bind (f_X3_stateOf F x1 rm) (fun q8 => (some q8))) else (some (-1)))))
set_option maxHeartbeats 4000000 in
set_option maxRecDepth 100000 in
theorem c_X8_sitter (l : Launch) (D : va_G) (k : Nat → ClassId) (sz : Nat)  (xo : Nat → Nat) (ta : Nat → Nat) (xr : Nat) (sa : Nat → Nat) (xm : Nat) (xg : Nat) (tr : Nat → Nat) (xs : Nat) (xp : Nat) (xq : Nat) (xe : Nat) (xt : Nat) (xa : Nat → Nat) (ca : Nat → Nat) (na : Nat → Nat) (F : Nat)  (x1 : Int32) (x2 : Int32) (xi : Nat → Int32) (si : Nat → Int32) (rm : OB)  {res : Int32} (h : f_X8_sitter F x1 x2 xi si rm = some res) : CtI l yX8_sitter wsX8_sitter (rmK 3 0 0) [.ref (xo 0), .int x1, .int x2] D k sz (([((xo 0), .inr (6, [.ref (ta 0), .ref xr, .int (xi 2), .ref (sa 0), .ref xm, .ref xg, .ref (tr 0), .ref xs, .ref xp, .ref xq, .ref xe, .ref xt]))] : va_W) ++ (([((sa 0), .inr (4, [.ref (xa 0), .ref (ca 0), .ref (na 0), .int (si 3), .int (si 4)]))] : va_W) ++ (rmW k xa rm))) (fun r (_ : Unit) => r = res) (fun _ : Unit => ([((xo 0), .inr (6, [.ref (ta 0), .ref xr, .int (xi 2), .ref (sa 0), .ref xm, .ref xg, .ref (tr 0), .ref xs, .ref xp, .ref xq, .ref xe, .ref xt]))] : va_W) ++ (([((sa 0), .inr (4, [.ref (xa 0), .ref (ca 0), .ref (na 0), .int (si 3), .int (si 4)]))] : va_W) ++ (rmW k xa rm))) 0 0 := by
  refine CtI.mk (cc := cX8_sitter) (maxL := 4) (ret := (some .int)) (by decide) rfl (Nat.le_of_ble_eq_true rfl) ?_
  intro p e s m below meth c A ls E hP hD hS hl
  obtain ⟨hx, hb, hr, hml, hown, hts, hlocks, hin, hG, hA⟩ := E
  have hown : s.vm.findClass RX8 = some m.cls := hown
  have in3 : ∀ w ∈ u_ws RX3 TX3 17, w ∈ wsX8_sitter := fun _ h => List.mem_cons_of_mem _ (List.mem_append_right _ h)
  have in6 : ∀ w ∈ u_ws RX6 TX6 5, w ∈ wsX8_sitter := fun _ h => List.mem_cons_of_mem _ (List.mem_append_left _ (List.mem_append_right _ h))
  have in8 : ∀ w ∈ u_ws RX8 TX8 12, w ∈ wsX8_sitter := fun _ h => List.mem_cons_of_mem _ (List.mem_append_left _ (List.mem_append_left _ (List.mem_append_right _ h)))
  have hl : lv_has ls 4 [(0, .ref (xo 0)), (1, .int x1), (2, .int x2)] := hl
  refine lv_aload_n hx hb dX8_sitter_0 rfl (lv_at hl 0 rfl) ?_
  refine va_get (D := D) (ci := 6) (v := .ref (sa 0)) (C := RX8) (T := TX8) (N := 12) hx hb hts in8 hown hG.1 hP 0 rfl rfl 3 (by decide) (hts (.fieldLink RX8 29 "ChairCane" "now" "LChairCane$Standing;") (mem_b bq_wsX8_sitter 0 0 rfl)) (fun _ h9 => h9) rfl dX8_sitter_1 ?_
  refine va_get (D := D) (ci := 4) (v := .ref (xa 0)) (C := RX6) (T := TX6) (N := 5) hx hb hts in6 hown hG.1 hP 1 rfl rfl 0 (by decide) (hts (.fieldLink RX8 81 "ChairCane$Standing" "room" "LChairCane$Room;") (mem_b bq_wsX8_sitter 0 1 rfl)) (fun _ h9 => h9) rfl dX8_sitter_4 ?_
  refine lv_astore_n (lv' := [(3, .ref (xa 0)), (0, .ref (xo 0)), (1, .int x1), (2, .int x2)]) hx hb dX8_sitter_7 rfl hl (by decide) rfl (fun ls hl => ?_)
  refine lv_aload_n hx hb dX8_sitter_8 rfl (lv_at hl 0 rfl) ?_
  refine lv_iload_n hx hb dX8_sitter_9 rfl (lv_at hl 2 rfl) ?_
  refine fw_Vi (As := [.int x1]) (rest := []) (n := 1) (wr := ([((xo 0), .inr (6, [.ref (ta 0), .ref xr, .int (xi 2), .ref (sa 0), .ref xm, .ref xg, .ref (tr 0), .ref xs, .ref xp, .ref xq, .ref xe, .ref xt]))] : va_W) ++ (([((sa 0), .inr (4, [.ref (xa 0), .ref (ca 0), .ref (na 0), .int (si 3), .int (si 4)]))] : va_W))) (rv := fun b : Int32 => b) (wp := fun b : Int32 => rmW k xa rm) h hx hb hml hown hts hG hA hP hD hS hl.1 [2, 3, 4, 5, 6, 7, 8, 9, 10] [0, 1] (fun q hq9 => c_X3_hasSitter l D k _  xa F x1 rm  hq9) (ci := 2) (q0 := 2) rfl rfl gX8_sitter_X3_hasSitter rfl ⟨rfl, rfl, Nat.le_of_ble_eq_true rfl, Nat.le_of_ble_eq_true rfl⟩ (by decide +kernel) rfl rfl ⟨by decide +kernel, by decide +kernel, by decide +kernel⟩ ⟨rfl, rfl, Nat.le_of_ble_eq_true rfl, Nat.le_of_ble_eq_true rfl, Nat.le_of_ble_eq_true rfl⟩ dX8_sitter_10 (fun q1 H locs h hP hD hS => ?_)
  have hP : va_P D vwCl (([((xo 0), .inr (6, [.ref (ta 0), .ref xr, .int (xi 2), .ref (sa 0), .ref xm, .ref xg, .ref (tr 0), .ref xs, .ref xp, .ref xq, .ref xe, .ref xt]))] : va_W) ++ (([((sa 0), .inr (4, [.ref (xa 0), .ref (ca 0), .ref (na 0), .int (si 3), .int (si 4)]))] : va_W) ++ (rmW k xa rm))) H := hP
  have hD : va_D A (([((xo 0), .inr (6, [.ref (ta 0), .ref xr, .int (xi 2), .ref (sa 0), .ref xm, .ref xg, .ref (tr 0), .ref xs, .ref xp, .ref xq, .ref xe, .ref xt]))] : va_W) ++ (([((sa 0), .inr (4, [.ref (xa 0), .ref (ca 0), .ref (na 0), .int (si 3), .int (si 4)]))] : va_W) ++ (rmW k xa rm))) := hD
  refine hc_is (z := q1) rfl ?_
  refine lv_if_ne (tgt := 18) hx hb dX8_sitter_13 (by decide) (fun c2 => ?_) (fun c2 => ?_)
  · have h := fw_f c2 h
    refine lv_iload_n hx hb dX8_sitter_18 rfl (lv_at hl 3 rfl) ?_
    by_cases c3 : x2 = 0
    · have h := fw_t c3 h
      refine lv_tableIn (off := 25) (tgt := 44) hx hb dX8_sitter_19 (by rw [c3]; decide) (by rw [c3]; decide) (by rw [c3]; rfl) (by decide) ?_
      refine lv_aload_n hx hb dX8_sitter_44 rfl (lv_at hl 0 rfl) ?_
      refine va_get (D := D) (ci := 2) (v := .ref (xa 4)) (C := RX3) (T := TX3) (N := 17) hx hb hts in3 hown hG.1 hP 2 rfl rfl 7 (by decide) (hts (.fieldLink RX8 141 "ChairCane$Room" "chairOf" "[I") (mem_b bq_wsX8_sitter 0 2 rfl)) (fun _ h9 => h9) rfl dX8_sitter_45 ?_
      refine lv_iload_n hx hb dX8_sitter_48 rfl (lv_at hl 2 rfl) ?_
      obtain ⟨g4, h⟩ := fw_g h
      refine va_iald hx hb hG.1 hP 6 0 rfl rfl (ib_vp g4) dX8_sitter_49 ?_
      exact fw_endI (rv := fun b : Int32 => b) (wp := fun b : Int32 => ([((xo 0), .inr (6, [.ref (ta 0), .ref xr, .int (xi 2), .ref (sa 0), .ref xm, .ref xg, .ref (tr 0), .ref xs, .ref xp, .ref xq, .ref xe, .ref xt]))] : va_W) ++ (([((sa 0), .inr (4, [.ref (xa 0), .ref (ca 0), .ref (na 0), .int (si 3), .int (si 4)]))] : va_W) ++ (rmW k xa rm))) hx hb hr hlocks h rfl hP hD hS dX8_sitter_50
    have h := fw_f c3 h
    by_cases c5 : x2 = 1
    · have h := fw_t c5 h
      refine lv_tableIn (off := 32) (tgt := 51) hx hb dX8_sitter_19 (by rw [c5]; decide) (by rw [c5]; decide) (by rw [c5]; rfl) (by decide) ?_
      refine lv_aload_n hx hb dX8_sitter_51 rfl (lv_at hl 0 rfl) ?_
      refine va_get (D := D) (ci := 2) (v := .ref (xa 5)) (C := RX3) (T := TX3) (N := 17) hx hb hts in3 hown hG.1 hP 2 rfl rfl 8 (by decide) (hts (.fieldLink RX8 144 "ChairCane$Room" "weight" "[I") (mem_b bq_wsX8_sitter 0 3 rfl)) (fun _ h9 => h9) rfl dX8_sitter_52 ?_
      refine lv_iload_n hx hb dX8_sitter_55 rfl (lv_at hl 2 rfl) ?_
      obtain ⟨g6, h⟩ := fw_g h
      refine va_iald hx hb hG.1 hP 7 0 rfl rfl (ib_vp g6) dX8_sitter_56 ?_
      exact fw_endI (rv := fun b : Int32 => b) (wp := fun b : Int32 => ([((xo 0), .inr (6, [.ref (ta 0), .ref xr, .int (xi 2), .ref (sa 0), .ref xm, .ref xg, .ref (tr 0), .ref xs, .ref xp, .ref xq, .ref xe, .ref xt]))] : va_W) ++ (([((sa 0), .inr (4, [.ref (xa 0), .ref (ca 0), .ref (na 0), .int (si 3), .int (si 4)]))] : va_W) ++ (rmW k xa rm))) hx hb hr hlocks h rfl hP hD hS dX8_sitter_57
    have h := fw_f c5 h
    by_cases c7 : x2 = 2
    · have h := fw_t c7 h
      refine lv_tableIn (off := 39) (tgt := 58) hx hb dX8_sitter_19 (by rw [c7]; decide) (by rw [c7]; decide) (by rw [c7]; rfl) (by decide) ?_
      refine lv_aload_n hx hb dX8_sitter_58 rfl (lv_at hl 0 rfl) ?_
      refine lv_iload_n hx hb dX8_sitter_59 rfl (lv_at hl 2 rfl) ?_
      refine fw_Vi (As := [.int x1]) (rest := []) (n := 1) (wr := ([((xo 0), .inr (6, [.ref (ta 0), .ref xr, .int (xi 2), .ref (sa 0), .ref xm, .ref xg, .ref (tr 0), .ref xs, .ref xp, .ref xq, .ref xe, .ref xt]))] : va_W) ++ (([((sa 0), .inr (4, [.ref (xa 0), .ref (ca 0), .ref (na 0), .int (si 3), .int (si 4)]))] : va_W))) (rv := fun b : Int32 => b) (wp := fun b : Int32 => rmW k xa rm) h hx hb hml hown hts hG hA hP hD hS hl.1 [2, 3, 4, 5, 6, 7, 8, 9, 10] [0, 1] (fun q hq9 => c_X3_stateOf l D k _  xa F x1 rm  hq9) (ci := 2) (q0 := 2) rfl rfl gX8_sitter_X3_stateOf rfl ⟨rfl, rfl, Nat.le_of_ble_eq_true rfl, Nat.le_of_ble_eq_true rfl⟩ (by decide +kernel) rfl rfl ⟨by decide +kernel, by decide +kernel, by decide +kernel⟩ ⟨rfl, rfl, Nat.le_of_ble_eq_true rfl, Nat.le_of_ble_eq_true rfl, Nat.le_of_ble_eq_true rfl⟩ dX8_sitter_60 (fun q8 H locs h hP hD hS => ?_)
      have hP : va_P D vwCl (([((xo 0), .inr (6, [.ref (ta 0), .ref xr, .int (xi 2), .ref (sa 0), .ref xm, .ref xg, .ref (tr 0), .ref xs, .ref xp, .ref xq, .ref xe, .ref xt]))] : va_W) ++ (([((sa 0), .inr (4, [.ref (xa 0), .ref (ca 0), .ref (na 0), .int (si 3), .int (si 4)]))] : va_W) ++ (rmW k xa rm))) H := hP
      have hD : va_D A (([((xo 0), .inr (6, [.ref (ta 0), .ref xr, .int (xi 2), .ref (sa 0), .ref xm, .ref xg, .ref (tr 0), .ref xs, .ref xp, .ref xq, .ref xe, .ref xt]))] : va_W) ++ (([((sa 0), .inr (4, [.ref (xa 0), .ref (ca 0), .ref (na 0), .int (si 3), .int (si 4)]))] : va_W) ++ (rmW k xa rm))) := hD
      refine hc_is (z := q8) rfl ?_
      exact fw_endI (rv := fun b : Int32 => b) (wp := fun b : Int32 => ([((xo 0), .inr (6, [.ref (ta 0), .ref xr, .int (xi 2), .ref (sa 0), .ref xm, .ref xg, .ref (tr 0), .ref xs, .ref xp, .ref xq, .ref xe, .ref xt]))] : va_W) ++ (([((sa 0), .inr (4, [.ref (xa 0), .ref (ca 0), .ref (na 0), .int (si 3), .int (si 4)]))] : va_W) ++ (rmW k xa rm))) hx hb hr hlocks h rfl hP hD hS dX8_sitter_63
    have h := fw_f c7 h
    simp only [sp_eq, show (0 : Int32).toInt = 0 from by decide, show (1 : Int32).toInt = 1 from by decide, show (2 : Int32).toInt = 2 from by decide] at c3 c5 c7
    refine lv_tableOut (tgt := 64) hx hb dX8_sitter_19 (by omega) (by decide) ?_
    refine lv_iconst (v := (-1)) hx hb dX8_sitter_64 (by decide) ?_
    exact fw_endI (rv := fun b : Int32 => b) (wp := fun b : Int32 => ([((xo 0), .inr (6, [.ref (ta 0), .ref xr, .int (xi 2), .ref (sa 0), .ref xm, .ref xg, .ref (tr 0), .ref xs, .ref xp, .ref xq, .ref xe, .ref xt]))] : va_W) ++ (([((sa 0), .inr (4, [.ref (xa 0), .ref (ca 0), .ref (na 0), .int (si 3), .int (si 4)]))] : va_W) ++ (rmW k xa rm))) hx hb hr hlocks h rfl hP hD hS dX8_sitter_65
  · have h := fw_t c2 h
    refine lv_iconst (v := (-1)) hx hb dX8_sitter_16 (by decide) ?_
    exact fw_endI (rv := fun b : Int32 => b) (wp := fun b : Int32 => ([((xo 0), .inr (6, [.ref (ta 0), .ref xr, .int (xi 2), .ref (sa 0), .ref xm, .ref xg, .ref (tr 0), .ref xs, .ref xp, .ref xq, .ref xe, .ref xt]))] : va_W) ++ (([((sa 0), .inr (4, [.ref (xa 0), .ref (ca 0), .ref (na 0), .int (si 3), .int (si 4)]))] : va_W) ++ (rmW k xa rm))) hx hb hr hlocks h rfl hP hD hS dX8_sitter_17
noncomputable def b_X8_minute_25 (F : Nat)  (xi : Nat → Int32) (xrr : Nat → Option Nat) (si : Nat → Int32)  (rm : OB) (ac : OB) (rz : Nat → OB) : Option (Int32 × OB × OB × (Nat → OB)) :=
  some ((-1), rm, ac, rz)
noncomputable def f_X8_minute (F : Nat)   (xi : Nat → Int32) (xrr : Nat → Option Nat) (si : Nat → Int32) (rm : OB) (ac : OB) (rz : Nat → OB) : Option (Int32 × OB × OB × (Nat → OB)) :=
  if (rm.1 0) = 0 then (b_X8_minute_25 F xi xrr si rm ac rz) else (if (rm.1 12) < 999 then (Option.bind (f_X0_keep F ac rm) (fun q3 => (Option.bind (f_X8_ruleInForce F xi xrr si) (fun q4 => (Option.bind (f_X3_passMinute F q4 rm rz) (fun q5 => (some (q5.1, q5.2.1, q3, q5.2.2)))))))) else (b_X8_minute_25 F xi xrr si rm ac rz))
set_option maxHeartbeats 4000000 in
set_option maxRecDepth 100000 in
theorem c_X8_minute (l : Launch) (D : va_G) (k : Nat → ClassId) (sz : Nat)  (xo : Nat → Nat) (ta : Nat → Nat) (xr : Nat) (sa : Nat → Nat) (xm : Nat) (xg : Nat) (tr : Nat → Nat) (xs : Nat) (xp : Nat) (xq : Nat) (xe : Nat) (xt : Nat) (xa : Nat → Nat) (ca : Nat → Nat) (na : Nat → Nat) (ra : Nat → Nat) (F : Nat)   (xi : Nat → Int32) (xrr : Nat → Option Nat) (si : Nat → Int32) (rm : OB) (ac : OB) (rz : Nat → OB) (hq : ∀ i, i < 6 → xrr i = some (ra (6 * i))) {res : Int32 × OB × OB × (Nat → OB)} (h : f_X8_minute F xi xrr si rm ac rz = some res) : CtI l yX8_minute wsX8_minute (rmK 6 0 0) [.ref (xo 0)] D k sz (([((xo 0), .inr (6, [.ref (ta 0), .ref xr, .int (xi 2), .ref (sa 0), .ref xm, .ref xg, .ref (tr 0), .ref xs, .ref xp, .ref xq, .ref xe, .ref xt]))] : va_W) ++ (([(xr, hcR k 6 xrr)] : va_W) ++ (([((sa 0), .inr (4, [.ref (xa 0), .ref (ca 0), .ref (na 0), .int (si 3), .int (si 4)]))] : va_W) ++ (rmW k xa rm ++ (acW k ca ac ++ (RU k ra rz)))))) (fun r (_ : Unit) => r = res.1) (fun _ : Unit => ([((xo 0), .inr (6, [.ref (ta 0), .ref xr, .int (xi 2), .ref (sa 0), .ref xm, .ref xg, .ref (tr 0), .ref xs, .ref xp, .ref xq, .ref xe, .ref xt]))] : va_W) ++ (([(xr, hcR k 6 xrr)] : va_W) ++ (([((sa 0), .inr (4, [.ref (xa 0), .ref (ca 0), .ref (na 0), .int (si 3), .int (si 4)]))] : va_W) ++ (rmW k xa res.2.1 ++ (acW k ca res.2.2.1 ++ (RU k ra res.2.2.2)))))) 0 0 := by
  refine CtI.mk (cc := cX8_minute) (maxL := 2) (ret := (some .int)) (by decide) rfl (Nat.le_of_ble_eq_true rfl) ?_
  intro p e s m below meth c A ls E hP hD hS hl
  obtain ⟨hx, hb, hr, hml, hown, hts, hlocks, hin, hG, hA⟩ := E
  have hown : s.vm.findClass RX8 = some m.cls := hown
  have in0 : ∀ w ∈ u_ws RX0 TX0 5, w ∈ wsX8_minute := fun _ h => List.mem_cons_of_mem _ (List.mem_append_left _ (List.mem_append_right _ h))
  have in3 : ∀ w ∈ u_ws RX3 TX3 17, w ∈ wsX8_minute := fun _ h => List.mem_cons_of_mem _ (List.mem_append_left _ (List.mem_append_left _ (List.mem_append_right _ h)))
  have in4 : ∀ w ∈ u_ws RX4 TX4 8, w ∈ wsX8_minute := fun _ h => List.mem_cons_of_mem _ (List.mem_append_right _ h)
  have in6 : ∀ w ∈ u_ws RX6 TX6 5, w ∈ wsX8_minute := fun _ h => List.mem_cons_of_mem _ (List.mem_append_left _ (List.mem_append_left _ (List.mem_append_left _ (List.mem_append_right _ h))))
  have in8 : ∀ w ∈ u_ws RX8 TX8 12, w ∈ wsX8_minute := fun _ h => List.mem_cons_of_mem _ (List.mem_append_left _ (List.mem_append_left _ (List.mem_append_left _ (List.mem_append_left _ (List.mem_append_right _ h)))))
  have hl : lv_has ls 2 [(0, .ref (xo 0))] := hl
  have B25 : ∀ (rm : OB) (ac : OB) (rz : Nat → OB) (H : Heap) (locs : List Loc) (ls : Array Slot), b_X8_minute_25 F xi xrr si rm ac rz = some res → va_P D vwCl (([((xo 0), .inr (6, [.ref (ta 0), .ref xr, .int (xi 2), .ref (sa 0), .ref xm, .ref xg, .ref (tr 0), .ref xs, .ref xp, .ref xq, .ref xe, .ref xt]))] : va_W) ++ (([(xr, hcR k 6 xrr)] : va_W) ++ (([((sa 0), .inr (4, [.ref (xa 0), .ref (ca 0), .ref (na 0), .int (si 3), .int (si 4)]))] : va_W) ++ (rmW k xa rm ++ (acW k ca ac ++ (RU k ra rz)))))) H → va_D A (([((xo 0), .inr (6, [.ref (ta 0), .ref xr, .int (xi 2), .ref (sa 0), .ref xm, .ref xg, .ref (tr 0), .ref xs, .ref xp, .ref xq, .ref xe, .ref xt]))] : va_W) ++ (([(xr, hcR k 6 xrr)] : va_W) ++ (([((sa 0), .inr (4, [.ref (xa 0), .ref (ca 0), .ref (na 0), .int (si 3), .int (si 4)]))] : va_W) ++ (rmW k xa rm ++ (acW k ca ac ++ (RU k ra rz)))))) → va_S A s.heap H locs → lv_has ls 2 [] → W p l e (rmK 6 0 0) s m (List.toArray [.ref (xo 0)]) below meth c H locs 0 0 (MQ below (va_Qi (fun r (_ : Unit) => r = res.1) (hcB D (fun _ : Unit => ([((xo 0), .inr (6, [.ref (ta 0), .ref xr, .int (xi 2), .ref (sa 0), .ref xm, .ref xg, .ref (tr 0), .ref xs, .ref xp, .ref xq, .ref xe, .ref xt]))] : va_W) ++ (([(xr, hcR k 6 xrr)] : va_W) ++ (([((sa 0), .inr (4, [.ref (xa 0), .ref (ca 0), .ref (na 0), .int (si 3), .int (si 4)]))] : va_W) ++ (rmW k xa res.2.1 ++ (acW k ca res.2.2.1 ++ (RU k ra res.2.2.2)))))) A) A) (List.toArray [.ref (xo 0)]) s 0 0 A) (F0 m 25 ls []) := by
    intro rm ac rz H locs ls h hP hD hS hl
    refine lv_iconst (v := (-1)) hx hb dX8_minute_25 (by decide) ?_
    exact fw_endI (rv := fun b : Int32 × OB × OB × (Nat → OB) => b.1) (wp := fun b : Int32 × OB × OB × (Nat → OB) => ([((xo 0), .inr (6, [.ref (ta 0), .ref xr, .int (xi 2), .ref (sa 0), .ref xm, .ref xg, .ref (tr 0), .ref xs, .ref xp, .ref xq, .ref xe, .ref xt]))] : va_W) ++ (([(xr, hcR k 6 xrr)] : va_W) ++ (([((sa 0), .inr (4, [.ref (xa 0), .ref (ca 0), .ref (na 0), .int (si 3), .int (si 4)]))] : va_W) ++ (rmW k xa b.2.1 ++ (acW k ca b.2.2.1 ++ (RU k ra b.2.2.2)))))) hx hb hr hlocks h rfl hP hD hS dX8_minute_26
  refine lv_aload_n hx hb dX8_minute_0 rfl (lv_at hl 0 rfl) ?_
  refine va_get (D := D) (ci := 6) (v := .ref (sa 0)) (C := RX8) (T := TX8) (N := 12) hx hb hts in8 hown hG.1 hP 0 rfl rfl 3 (by decide) (hts (.fieldLink RX8 29 "ChairCane" "now" "LChairCane$Standing;") (mem_b bq_wsX8_minute 0 0 rfl)) (fun _ h9 => h9) rfl dX8_minute_1 ?_
  refine va_get (D := D) (ci := 4) (v := .ref (xa 0)) (C := RX6) (T := TX6) (N := 5) hx hb hts in6 hown hG.1 hP 2 rfl rfl 0 (by decide) (hts (.fieldLink RX8 81 "ChairCane$Standing" "room" "LChairCane$Room;") (mem_b bq_wsX8_minute 0 1 rfl)) (fun _ h9 => h9) rfl dX8_minute_4 ?_
  refine lv_astore_n (lv' := [(1, .ref (xa 0)), (0, .ref (xo 0))]) hx hb dX8_minute_7 rfl hl (by decide) rfl (fun ls hl => ?_)
  refine lv_aload_n hx hb dX8_minute_8 rfl (lv_at hl 0 rfl) ?_
  refine va_get (D := D) (ci := 2) (v := .int (rm.1 0)) (C := RX3) (T := TX3) (N := 17) hx hb hts in3 hown hG.1 hP 3 rfl rfl 0 (by decide) (hts (.fieldLink RX8 150 "ChairCane$Room" "told" "Z") (mem_b bq_wsX8_minute 0 2 rfl)) (fun _ h9 => h9) rfl dX8_minute_9 ?_
  refine lv_if_eq (tgt := 25) hx hb dX8_minute_12 (by decide) (fun c1 => ?_) (fun c1 => ?_)
  · have h := fw_t c1 h
    exact B25 _ _ _ _ _ _ h hP hD hS (lv_sub hl [] rfl)
  · have h := fw_f c1 h
    refine lv_aload_n hx hb dX8_minute_15 rfl (lv_at hl 0 rfl) ?_
    refine va_get (D := D) (ci := 2) (v := .int (rm.1 12)) (C := RX3) (T := TX3) (N := 17) hx hb hts in3 hown hG.1 hP 3 rfl rfl 12 (by decide) (hts (.fieldLink RX8 154 "ChairCane$Room" "minute" "I") (mem_b bq_wsX8_minute 0 3 rfl)) (fun _ h9 => h9) rfl dX8_minute_16 ?_
    refine lv_sipush (v := 999) hx hb dX8_minute_19 (by decide) ?_
    refine lv_icmp_lt (tgt := 27) hx hb dX8_minute_22 (by decide) (fun c2 => ?_) (fun c2 => ?_)
    · have h := fw_t c2 h
      refine lv_aload_n hx hb dX8_minute_27 rfl (lv_at hl 1 rfl) ?_
      refine va_get (D := D) (ci := 6) (v := .ref (sa 0)) (C := RX8) (T := TX8) (N := 12) hx hb hts in8 hown hG.1 hP 0 rfl rfl 3 (by decide) (hts (.fieldLink RX8 29 "ChairCane" "now" "LChairCane$Standing;") (mem_b bq_wsX8_minute 0 0 rfl)) (fun _ h9 => h9) rfl dX8_minute_28 ?_
      refine va_get (D := D) (ci := 4) (v := .ref (ca 0)) (C := RX6) (T := TX6) (N := 5) hx hb hts in6 hown hG.1 hP 2 rfl rfl 1 (by decide) (hts (.fieldLink RX8 88 "ChairCane$Standing" "acts" "LChairCane$Acts;") (mem_b bq_wsX8_minute 0 4 rfl)) (fun _ h9 => h9) rfl dX8_minute_31 ?_
      refine lv_aload_n hx hb dX8_minute_34 rfl (lv_at hl 0 rfl) ?_
      refine fw_Vv (As := [.ref (xa 0)]) (rest := []) (n := 1) (wr := ([((xo 0), .inr (6, [.ref (ta 0), .ref xr, .int (xi 2), .ref (sa 0), .ref xm, .ref xg, .ref (tr 0), .ref xs, .ref xp, .ref xq, .ref xe, .ref xt]))] : va_W) ++ (([(xr, hcR k 6 xrr)] : va_W) ++ (([((sa 0), .inr (4, [.ref (xa 0), .ref (ca 0), .ref (na 0), .int (si 3), .int (si 4)]))] : va_W) ++ (RU k ra rz)))) (wp := fun b : OB => acW k ca b ++ (rmW k xa rm)) h hx hb hml hown hts hG hA hP hD hS hl.1 [12, 13, 14, 15, 3, 4, 5, 6, 7, 8, 9, 10, 11] [0, 1, 2, 16, 17, 18, 19, 20, 21, 22, 23, 24, 25, 26, 27, 28, 29, 30, 31, 32, 33, 34, 35, 36, 37, 38, 39, 40, 41, 42, 43, 44, 45, 46, 47, 48, 49, 50, 51] (fun q hq9 => c_X0_keep l D k _  ca xa F  ac rm  hq9) (ci := 0) (q0 := 12) rfl rfl gX8_minute_X0_keep rfl ⟨rfl, rfl, Nat.le_of_ble_eq_true rfl, Nat.le_of_ble_eq_true rfl⟩ (by decide +kernel) rfl rfl ⟨by decide +kernel, by decide +kernel, by decide +kernel⟩ ⟨rfl, rfl, Nat.le_of_ble_eq_true rfl, Nat.le_of_ble_eq_true rfl, Nat.le_of_ble_eq_true rfl⟩ dX8_minute_35 (fun q3 H locs h hP hD hS => ?_)
      have hP : va_P D vwCl (([((xo 0), .inr (6, [.ref (ta 0), .ref xr, .int (xi 2), .ref (sa 0), .ref xm, .ref xg, .ref (tr 0), .ref xs, .ref xp, .ref xq, .ref xe, .ref xt]))] : va_W) ++ (([(xr, hcR k 6 xrr)] : va_W) ++ (([((sa 0), .inr (4, [.ref (xa 0), .ref (ca 0), .ref (na 0), .int (si 3), .int (si 4)]))] : va_W) ++ (RU k ra rz ++ (acW k ca q3 ++ (rmW k xa rm)))))) H := hP
      have hD : va_D A (([((xo 0), .inr (6, [.ref (ta 0), .ref xr, .int (xi 2), .ref (sa 0), .ref xm, .ref xg, .ref (tr 0), .ref xs, .ref xp, .ref xq, .ref xe, .ref xt]))] : va_W) ++ (([(xr, hcR k 6 xrr)] : va_W) ++ (([((sa 0), .inr (4, [.ref (xa 0), .ref (ca 0), .ref (na 0), .int (si 3), .int (si 4)]))] : va_W) ++ (RU k ra rz ++ (acW k ca q3 ++ (rmW k xa rm)))))) := hD
      refine lv_aload_n hx hb dX8_minute_38 rfl (lv_at hl 0 rfl) ?_
      refine lv_aload_n hx hb dX8_minute_39 rfl (lv_at hl 1 rfl) ?_
      refine fw_Vq (As := []) (rest := [.ref (xa 0)]) (n := 0) (wr := RU k ra rz ++ (acW k ca q3 ++ (rmW k xa rm))) (rv := fun b : Int32 => rAd ra b) (wp := fun b : Int32 => ([((xo 0), .inr (6, [.ref (ta 0), .ref xr, .int (xi 2), .ref (sa 0), .ref xm, .ref xg, .ref (tr 0), .ref xs, .ref xp, .ref xq, .ref xe, .ref xt]))] : va_W) ++ (([(xr, hcR k 6 xrr)] : va_W) ++ (([((sa 0), .inr (4, [.ref (xa 0), .ref (ca 0), .ref (na 0), .int (si 3), .int (si 4)]))] : va_W)))) h hx hb hml hown hts hG hA hP hD hS hl.1 [0, 1, 2] [3, 4, 5, 6, 7, 8, 9, 10, 11, 12, 13, 14, 15, 16, 17, 18, 19, 20, 21, 22, 23, 24, 25, 26, 27, 28, 29, 30, 31, 32, 33, 34, 35, 36, 37, 38, 39, 40, 41, 42, 43, 44, 45, 46, 47, 48, 49, 50, 51] (fun q hq9 => c_X8_ruleInForce l D k _  xo ta xr sa xm xg tr xs xp xq xe xt xa ca na ra F  xi xrr si hq hq9) (ci := 6) (q0 := 0) rfl rfl gX8_minute_X8_ruleInForce rfl ⟨rfl, rfl, Nat.le_of_ble_eq_true rfl, Nat.le_of_ble_eq_true rfl⟩ (by decide +kernel) rfl rfl ⟨by decide +kernel, by decide +kernel, by decide +kernel⟩ ⟨rfl, rfl, Nat.le_of_ble_eq_true rfl, Nat.le_of_ble_eq_true rfl, Nat.le_of_ble_eq_true rfl⟩ dX8_minute_40 (fun q4 H locs h hP hD hS => ?_)
      have hP : va_P D vwCl (RU k ra rz ++ (acW k ca q3 ++ (rmW k xa rm ++ (([((xo 0), .inr (6, [.ref (ta 0), .ref xr, .int (xi 2), .ref (sa 0), .ref xm, .ref xg, .ref (tr 0), .ref xs, .ref xp, .ref xq, .ref xe, .ref xt]))] : va_W) ++ (([(xr, hcR k 6 xrr)] : va_W) ++ (([((sa 0), .inr (4, [.ref (xa 0), .ref (ca 0), .ref (na 0), .int (si 3), .int (si 4)]))] : va_W))))))) H := hP
      have hD : va_D A (RU k ra rz ++ (acW k ca q3 ++ (rmW k xa rm ++ (([((xo 0), .inr (6, [.ref (ta 0), .ref xr, .int (xi 2), .ref (sa 0), .ref xm, .ref xg, .ref (tr 0), .ref xs, .ref xp, .ref xq, .ref xe, .ref xt]))] : va_W) ++ (([(xr, hcR k 6 xrr)] : va_W) ++ (([((sa 0), .inr (4, [.ref (xa 0), .ref (ca 0), .ref (na 0), .int (si 3), .int (si 4)]))] : va_W))))))) := hD
      refine hc_isV (z := va_rf (rAd ra q4)) rfl ?_
      refine fw_Vi (As := [va_rf (rAd ra q4)]) (rest := []) (n := 1) (wr := acW k ca q3 ++ (([((xo 0), .inr (6, [.ref (ta 0), .ref xr, .int (xi 2), .ref (sa 0), .ref xm, .ref xg, .ref (tr 0), .ref xs, .ref xp, .ref xq, .ref xe, .ref xt]))] : va_W) ++ (([(xr, hcR k 6 xrr)] : va_W) ++ (([((sa 0), .inr (4, [.ref (xa 0), .ref (ca 0), .ref (na 0), .int (si 3), .int (si 4)]))] : va_W))))) (rv := fun b : Int32 × OB × (Nat → OB) => b.1) (wp := fun b : Int32 × OB × (Nat → OB) => rmW k xa b.2.1 ++ (RU k ra b.2.2)) h hx hb hml hown hts hG hA hP hD hS hl.1 [40, 41, 42, 43, 44, 45, 46, 47, 48, 0, 1, 2, 3, 4, 5, 6, 7, 8, 9, 10, 11, 12, 13, 14, 15, 16, 17, 18, 19, 20, 21, 22, 23, 24, 25, 26, 27, 28, 29, 30, 31, 32, 33, 34, 35] [36, 37, 38, 39, 49, 50, 51] (fun q hq9 => c_X3_passMinute l D k _  xa ra F q4 rm rz  hq9) (ci := 2) (q0 := 40) rfl rfl gX8_minute_X3_passMinute rfl ⟨rfl, rfl, Nat.le_of_ble_eq_true rfl, Nat.le_of_ble_eq_true rfl⟩ (by decide +kernel) rfl rfl ⟨by decide +kernel, by decide +kernel, by decide +kernel⟩ ⟨rfl, rfl, Nat.le_of_ble_eq_true rfl, Nat.le_of_ble_eq_true rfl, Nat.le_of_ble_eq_true rfl⟩ dX8_minute_43 (fun q5 H locs h hP hD hS => ?_)
      have hP : va_P D vwCl (acW k ca q3 ++ (([((xo 0), .inr (6, [.ref (ta 0), .ref xr, .int (xi 2), .ref (sa 0), .ref xm, .ref xg, .ref (tr 0), .ref xs, .ref xp, .ref xq, .ref xe, .ref xt]))] : va_W) ++ (([(xr, hcR k 6 xrr)] : va_W) ++ (([((sa 0), .inr (4, [.ref (xa 0), .ref (ca 0), .ref (na 0), .int (si 3), .int (si 4)]))] : va_W) ++ (rmW k xa q5.2.1 ++ (RU k ra q5.2.2)))))) H := hP
      have hD : va_D A (acW k ca q3 ++ (([((xo 0), .inr (6, [.ref (ta 0), .ref xr, .int (xi 2), .ref (sa 0), .ref xm, .ref xg, .ref (tr 0), .ref xs, .ref xp, .ref xq, .ref xe, .ref xt]))] : va_W) ++ (([(xr, hcR k 6 xrr)] : va_W) ++ (([((sa 0), .inr (4, [.ref (xa 0), .ref (ca 0), .ref (na 0), .int (si 3), .int (si 4)]))] : va_W) ++ (rmW k xa q5.2.1 ++ (RU k ra q5.2.2)))))) := hD
      refine hc_is (z := q5.1) rfl ?_
      exact fw_endI (rv := fun b : Int32 × OB × OB × (Nat → OB) => b.1) (wp := fun b : Int32 × OB × OB × (Nat → OB) => ([((xo 0), .inr (6, [.ref (ta 0), .ref xr, .int (xi 2), .ref (sa 0), .ref xm, .ref xg, .ref (tr 0), .ref xs, .ref xp, .ref xq, .ref xe, .ref xt]))] : va_W) ++ (([(xr, hcR k 6 xrr)] : va_W) ++ (([((sa 0), .inr (4, [.ref (xa 0), .ref (ca 0), .ref (na 0), .int (si 3), .int (si 4)]))] : va_W) ++ (rmW k xa b.2.1 ++ (acW k ca b.2.2.1 ++ (RU k ra b.2.2.2)))))) hx hb hr hlocks h rfl (hP.sub [4, 5, 6, 7, 8, 9, 10, 11, 12, 13, 14, 15, 0, 1, 2, 3, 16, 17, 18, 19, 20, 21, 22, 23, 24, 25, 26, 27, 28, 29, 30, 31, 32, 33, 34, 35, 36, 37, 38, 39, 40, 41, 42, 43, 44, 45, 46, 47, 48, 49, 50, 51] rfl) (hD.sub [4, 5, 6, 7, 8, 9, 10, 11, 12, 13, 14, 15, 0, 1, 2, 3, 16, 17, 18, 19, 20, 21, 22, 23, 24, 25, 26, 27, 28, 29, 30, 31, 32, 33, 34, 35, 36, 37, 38, 39, 40, 41, 42, 43, 44, 45, 46, 47, 48, 49, 50, 51] (by decide +kernel) rfl) hS dX8_minute_46
    · have h := fw_f c2 h
      exact B25 _ _ _ _ _ _ h hP hD hS (lv_sub hl [] rfl)
noncomputable def f_X8_sit (F : Nat)  (x1 : Int32) (xi : Nat → Int32) (si : Nat → Int32) (rm : OB) (ac : OB) : Option (Int32 × OB × OB) :=
  Option.bind (f_X3_stateOf F x1 rm) (fun q1 => (if q1 = 0 then (Option.bind (f_X0_keep F ac rm) (fun q3 => (Option.bind (f_X3_seat F x1 1 rm) (fun q4 => (Option.bind (f_X3_settle F q4) (fun q5 => (some (q5.1, q5.2, q3)))))))) else (some ((-1), rm, ac))))
set_option maxHeartbeats 4000000 in
set_option maxRecDepth 100000 in
theorem c_X8_sit (l : Launch) (D : va_G) (k : Nat → ClassId) (sz : Nat)  (xo : Nat → Nat) (ta : Nat → Nat) (xr : Nat) (sa : Nat → Nat) (xm : Nat) (xg : Nat) (tr : Nat → Nat) (xs : Nat) (xp : Nat) (xq : Nat) (xe : Nat) (xt : Nat) (xa : Nat → Nat) (ca : Nat → Nat) (na : Nat → Nat) (F : Nat)  (x1 : Int32) (xi : Nat → Int32) (si : Nat → Int32) (rm : OB) (ac : OB)  {res : Int32 × OB × OB} (h : f_X8_sit F x1 xi si rm ac = some res) : CtI l yX8_sit wsX8_sit (rmK 4 0 0) [.ref (xo 0), .int x1] D k sz (([((xo 0), .inr (6, [.ref (ta 0), .ref xr, .int (xi 2), .ref (sa 0), .ref xm, .ref xg, .ref (tr 0), .ref xs, .ref xp, .ref xq, .ref xe, .ref xt]))] : va_W) ++ (([((sa 0), .inr (4, [.ref (xa 0), .ref (ca 0), .ref (na 0), .int (si 3), .int (si 4)]))] : va_W) ++ (rmW k xa rm ++ (acW k ca ac)))) (fun r (_ : Unit) => r = res.1) (fun _ : Unit => ([((xo 0), .inr (6, [.ref (ta 0), .ref xr, .int (xi 2), .ref (sa 0), .ref xm, .ref xg, .ref (tr 0), .ref xs, .ref xp, .ref xq, .ref xe, .ref xt]))] : va_W) ++ (([((sa 0), .inr (4, [.ref (xa 0), .ref (ca 0), .ref (na 0), .int (si 3), .int (si 4)]))] : va_W) ++ (rmW k xa res.2.1 ++ (acW k ca res.2.2)))) 0 0 := by
  refine CtI.mk (cc := cX8_sit) (maxL := 2) (ret := (some .int)) (by decide) rfl (Nat.le_of_ble_eq_true rfl) ?_
  intro p e s m below meth c A ls E hP hD hS hl
  obtain ⟨hx, hb, hr, hml, hown, hts, hlocks, hin, hG, hA⟩ := E
  have hown : s.vm.findClass RX8 = some m.cls := hown
  have in0 : ∀ w ∈ u_ws RX0 TX0 5, w ∈ wsX8_sit := fun _ h => List.mem_cons_of_mem _ (List.mem_append_right _ h)
  have in3 : ∀ w ∈ u_ws RX3 TX3 17, w ∈ wsX8_sit := fun _ h => List.mem_cons_of_mem _ (List.mem_append_left _ (List.mem_append_right _ h))
  have in6 : ∀ w ∈ u_ws RX6 TX6 5, w ∈ wsX8_sit := fun _ h => List.mem_cons_of_mem _ (List.mem_append_left _ (List.mem_append_left _ (List.mem_append_right _ h)))
  have in8 : ∀ w ∈ u_ws RX8 TX8 12, w ∈ wsX8_sit := fun _ h => List.mem_cons_of_mem _ (List.mem_append_left _ (List.mem_append_left _ (List.mem_append_left _ (List.mem_append_right _ h))))
  have hl : lv_has ls 2 [(0, .ref (xo 0)), (1, .int x1)] := hl
  refine lv_aload_n hx hb dX8_sit_0 rfl (lv_at hl 0 rfl) ?_
  refine va_get (D := D) (ci := 6) (v := .ref (sa 0)) (C := RX8) (T := TX8) (N := 12) hx hb hts in8 hown hG.1 hP 0 rfl rfl 3 (by decide) (hts (.fieldLink RX8 29 "ChairCane" "now" "LChairCane$Standing;") (mem_b bq_wsX8_sit 0 0 rfl)) (fun _ h9 => h9) rfl dX8_sit_1 ?_
  refine va_get (D := D) (ci := 4) (v := .ref (xa 0)) (C := RX6) (T := TX6) (N := 5) hx hb hts in6 hown hG.1 hP 1 rfl rfl 0 (by decide) (hts (.fieldLink RX8 81 "ChairCane$Standing" "room" "LChairCane$Room;") (mem_b bq_wsX8_sit 0 1 rfl)) (fun _ h9 => h9) rfl dX8_sit_4 ?_
  refine lv_iload_n hx hb dX8_sit_7 rfl (lv_at hl 1 rfl) ?_
  refine fw_Vi (As := [.int x1]) (rest := []) (n := 1) (wr := ([((xo 0), .inr (6, [.ref (ta 0), .ref xr, .int (xi 2), .ref (sa 0), .ref xm, .ref xg, .ref (tr 0), .ref xs, .ref xp, .ref xq, .ref xe, .ref xt]))] : va_W) ++ (([((sa 0), .inr (4, [.ref (xa 0), .ref (ca 0), .ref (na 0), .int (si 3), .int (si 4)]))] : va_W) ++ (acW k ca ac))) (rv := fun b : Int32 => b) (wp := fun b : Int32 => rmW k xa rm) h hx hb hml hown hts hG hA hP hD hS hl.1 [2, 3, 4, 5, 6, 7, 8, 9, 10] [0, 1, 11, 12, 13, 14] (fun q hq9 => c_X3_stateOf l D k _  xa F x1 rm  hq9) (ci := 2) (q0 := 2) rfl rfl gX8_sit_X3_stateOf rfl ⟨rfl, rfl, Nat.le_of_ble_eq_true rfl, Nat.le_of_ble_eq_true rfl⟩ (by decide +kernel) rfl rfl ⟨by decide +kernel, by decide +kernel, by decide +kernel⟩ ⟨rfl, rfl, Nat.le_of_ble_eq_true rfl, Nat.le_of_ble_eq_true rfl, Nat.le_of_ble_eq_true rfl⟩ dX8_sit_8 (fun q1 H locs h hP hD hS => ?_)
  have hP : va_P D vwCl (([((xo 0), .inr (6, [.ref (ta 0), .ref xr, .int (xi 2), .ref (sa 0), .ref xm, .ref xg, .ref (tr 0), .ref xs, .ref xp, .ref xq, .ref xe, .ref xt]))] : va_W) ++ (([((sa 0), .inr (4, [.ref (xa 0), .ref (ca 0), .ref (na 0), .int (si 3), .int (si 4)]))] : va_W) ++ (acW k ca ac ++ (rmW k xa rm)))) H := hP
  have hD : va_D A (([((xo 0), .inr (6, [.ref (ta 0), .ref xr, .int (xi 2), .ref (sa 0), .ref xm, .ref xg, .ref (tr 0), .ref xs, .ref xp, .ref xq, .ref xe, .ref xt]))] : va_W) ++ (([((sa 0), .inr (4, [.ref (xa 0), .ref (ca 0), .ref (na 0), .int (si 3), .int (si 4)]))] : va_W) ++ (acW k ca ac ++ (rmW k xa rm)))) := hD
  refine hc_is (z := q1) rfl ?_
  refine lv_if_eq (tgt := 16) hx hb dX8_sit_11 (by decide) (fun c2 => ?_) (fun c2 => ?_)
  · have h := fw_t c2 h
    refine lv_aload_n hx hb dX8_sit_16 rfl (lv_at hl 0 rfl) ?_
    refine va_get (D := D) (ci := 6) (v := .ref (sa 0)) (C := RX8) (T := TX8) (N := 12) hx hb hts in8 hown hG.1 hP 0 rfl rfl 3 (by decide) (hts (.fieldLink RX8 29 "ChairCane" "now" "LChairCane$Standing;") (mem_b bq_wsX8_sit 0 0 rfl)) (fun _ h9 => h9) rfl dX8_sit_17 ?_
    refine va_get (D := D) (ci := 4) (v := .ref (ca 0)) (C := RX6) (T := TX6) (N := 5) hx hb hts in6 hown hG.1 hP 1 rfl rfl 1 (by decide) (hts (.fieldLink RX8 88 "ChairCane$Standing" "acts" "LChairCane$Acts;") (mem_b bq_wsX8_sit 0 2 rfl)) (fun _ h9 => h9) rfl dX8_sit_20 ?_
    refine lv_aload_n hx hb dX8_sit_23 rfl (lv_at hl 0 rfl) ?_
    refine va_get (D := D) (ci := 6) (v := .ref (sa 0)) (C := RX8) (T := TX8) (N := 12) hx hb hts in8 hown hG.1 hP 0 rfl rfl 3 (by decide) (hts (.fieldLink RX8 29 "ChairCane" "now" "LChairCane$Standing;") (mem_b bq_wsX8_sit 0 0 rfl)) (fun _ h9 => h9) rfl dX8_sit_24 ?_
    refine va_get (D := D) (ci := 4) (v := .ref (xa 0)) (C := RX6) (T := TX6) (N := 5) hx hb hts in6 hown hG.1 hP 1 rfl rfl 0 (by decide) (hts (.fieldLink RX8 81 "ChairCane$Standing" "room" "LChairCane$Room;") (mem_b bq_wsX8_sit 0 1 rfl)) (fun _ h9 => h9) rfl dX8_sit_27 ?_
    refine fw_Vv (As := [.ref (xa 0)]) (rest := []) (n := 1) (wr := ([((xo 0), .inr (6, [.ref (ta 0), .ref xr, .int (xi 2), .ref (sa 0), .ref xm, .ref xg, .ref (tr 0), .ref xs, .ref xp, .ref xq, .ref xe, .ref xt]))] : va_W) ++ (([((sa 0), .inr (4, [.ref (xa 0), .ref (ca 0), .ref (na 0), .int (si 3), .int (si 4)]))] : va_W))) (wp := fun b : OB => acW k ca b ++ (rmW k xa rm)) h hx hb hml hown hts hG hA hP hD hS hl.1 [2, 3, 4, 5, 6, 7, 8, 9, 10, 11, 12, 13, 14] [0, 1] (fun q hq9 => c_X0_keep l D k _  ca xa F  ac rm  hq9) (ci := 0) (q0 := 2) rfl rfl gX8_sit_X0_keep rfl ⟨rfl, rfl, Nat.le_of_ble_eq_true rfl, Nat.le_of_ble_eq_true rfl⟩ (by decide +kernel) rfl rfl ⟨by decide +kernel, by decide +kernel, by decide +kernel⟩ ⟨rfl, rfl, Nat.le_of_ble_eq_true rfl, Nat.le_of_ble_eq_true rfl, Nat.le_of_ble_eq_true rfl⟩ dX8_sit_30 (fun q3 H locs h hP hD hS => ?_)
    have hP : va_P D vwCl (([((xo 0), .inr (6, [.ref (ta 0), .ref xr, .int (xi 2), .ref (sa 0), .ref xm, .ref xg, .ref (tr 0), .ref xs, .ref xp, .ref xq, .ref xe, .ref xt]))] : va_W) ++ (([((sa 0), .inr (4, [.ref (xa 0), .ref (ca 0), .ref (na 0), .int (si 3), .int (si 4)]))] : va_W) ++ (acW k ca q3 ++ (rmW k xa rm)))) H := hP
    have hD : va_D A (([((xo 0), .inr (6, [.ref (ta 0), .ref xr, .int (xi 2), .ref (sa 0), .ref xm, .ref xg, .ref (tr 0), .ref xs, .ref xp, .ref xq, .ref xe, .ref xt]))] : va_W) ++ (([((sa 0), .inr (4, [.ref (xa 0), .ref (ca 0), .ref (na 0), .int (si 3), .int (si 4)]))] : va_W) ++ (acW k ca q3 ++ (rmW k xa rm)))) := hD
    refine lv_aload_n hx hb dX8_sit_33 rfl (lv_at hl 0 rfl) ?_
    refine va_get (D := D) (ci := 6) (v := .ref (sa 0)) (C := RX8) (T := TX8) (N := 12) hx hb hts in8 hown hG.1 hP 0 rfl rfl 3 (by decide) (hts (.fieldLink RX8 29 "ChairCane" "now" "LChairCane$Standing;") (mem_b bq_wsX8_sit 0 0 rfl)) (fun _ h9 => h9) rfl dX8_sit_34 ?_
    refine va_get (D := D) (ci := 4) (v := .ref (xa 0)) (C := RX6) (T := TX6) (N := 5) hx hb hts in6 hown hG.1 hP 1 rfl rfl 0 (by decide) (hts (.fieldLink RX8 81 "ChairCane$Standing" "room" "LChairCane$Room;") (mem_b bq_wsX8_sit 0 1 rfl)) (fun _ h9 => h9) rfl dX8_sit_37 ?_
    refine lv_iload_n hx hb dX8_sit_40 rfl (lv_at hl 1 rfl) ?_
    refine lv_iconst (v := 1) hx hb dX8_sit_41 (by decide) ?_
    refine fw_Vv (As := [.int x1, .int 1]) (rest := []) (n := 2) (wr := ([((xo 0), .inr (6, [.ref (ta 0), .ref xr, .int (xi 2), .ref (sa 0), .ref xm, .ref xg, .ref (tr 0), .ref xs, .ref xp, .ref xq, .ref xe, .ref xt]))] : va_W) ++ (([((sa 0), .inr (4, [.ref (xa 0), .ref (ca 0), .ref (na 0), .int (si 3), .int (si 4)]))] : va_W) ++ (acW k ca q3))) (wp := fun b : OB => rmW k xa b) h hx hb hml hown hts hG hA hP hD hS hl.1 [6, 7, 8, 9, 10, 11, 12, 13, 14] [0, 1, 2, 3, 4, 5] (fun q hq9 => c_X3_seat l D k _  xa F x1 1 rm  hq9) (ci := 2) (q0 := 6) rfl rfl gX8_sit_X3_seat rfl ⟨rfl, rfl, Nat.le_of_ble_eq_true rfl, Nat.le_of_ble_eq_true rfl⟩ (by decide +kernel) rfl rfl ⟨by decide +kernel, by decide +kernel, by decide +kernel⟩ ⟨rfl, rfl, Nat.le_of_ble_eq_true rfl, Nat.le_of_ble_eq_true rfl, Nat.le_of_ble_eq_true rfl⟩ dX8_sit_42 (fun q4 H locs h hP hD hS => ?_)
    have hP : va_P D vwCl (([((xo 0), .inr (6, [.ref (ta 0), .ref xr, .int (xi 2), .ref (sa 0), .ref xm, .ref xg, .ref (tr 0), .ref xs, .ref xp, .ref xq, .ref xe, .ref xt]))] : va_W) ++ (([((sa 0), .inr (4, [.ref (xa 0), .ref (ca 0), .ref (na 0), .int (si 3), .int (si 4)]))] : va_W) ++ (acW k ca q3 ++ (rmW k xa q4)))) H := hP
    have hD : va_D A (([((xo 0), .inr (6, [.ref (ta 0), .ref xr, .int (xi 2), .ref (sa 0), .ref xm, .ref xg, .ref (tr 0), .ref xs, .ref xp, .ref xq, .ref xe, .ref xt]))] : va_W) ++ (([((sa 0), .inr (4, [.ref (xa 0), .ref (ca 0), .ref (na 0), .int (si 3), .int (si 4)]))] : va_W) ++ (acW k ca q3 ++ (rmW k xa q4)))) := hD
    refine lv_aload_n hx hb dX8_sit_45 rfl (lv_at hl 0 rfl) ?_
    refine va_get (D := D) (ci := 6) (v := .ref (sa 0)) (C := RX8) (T := TX8) (N := 12) hx hb hts in8 hown hG.1 hP 0 rfl rfl 3 (by decide) (hts (.fieldLink RX8 29 "ChairCane" "now" "LChairCane$Standing;") (mem_b bq_wsX8_sit 0 0 rfl)) (fun _ h9 => h9) rfl dX8_sit_46 ?_
    refine va_get (D := D) (ci := 4) (v := .ref (xa 0)) (C := RX6) (T := TX6) (N := 5) hx hb hts in6 hown hG.1 hP 1 rfl rfl 0 (by decide) (hts (.fieldLink RX8 81 "ChairCane$Standing" "room" "LChairCane$Room;") (mem_b bq_wsX8_sit 0 1 rfl)) (fun _ h9 => h9) rfl dX8_sit_49 ?_
    refine fw_Vi (As := []) (rest := []) (n := 0) (wr := ([((xo 0), .inr (6, [.ref (ta 0), .ref xr, .int (xi 2), .ref (sa 0), .ref xm, .ref xg, .ref (tr 0), .ref xs, .ref xp, .ref xq, .ref xe, .ref xt]))] : va_W) ++ (([((sa 0), .inr (4, [.ref (xa 0), .ref (ca 0), .ref (na 0), .int (si 3), .int (si 4)]))] : va_W) ++ (acW k ca q3))) (rv := fun b : Int32 × OB => b.1) (wp := fun b : Int32 × OB => rmW k xa b.2) h hx hb hml hown hts hG hA hP hD hS hl.1 [6, 7, 8, 9, 10, 11, 12, 13, 14] [0, 1, 2, 3, 4, 5] (fun q hq9 => c_X3_settle l D k _  xa F  q4  hq9) (ci := 2) (q0 := 6) rfl rfl gX8_sit_X3_settle rfl ⟨rfl, rfl, Nat.le_of_ble_eq_true rfl, Nat.le_of_ble_eq_true rfl⟩ (by decide +kernel) rfl rfl ⟨by decide +kernel, by decide +kernel, by decide +kernel⟩ ⟨rfl, rfl, Nat.le_of_ble_eq_true rfl, Nat.le_of_ble_eq_true rfl, Nat.le_of_ble_eq_true rfl⟩ dX8_sit_52 (fun q5 H locs h hP hD hS => ?_)
    have hP : va_P D vwCl (([((xo 0), .inr (6, [.ref (ta 0), .ref xr, .int (xi 2), .ref (sa 0), .ref xm, .ref xg, .ref (tr 0), .ref xs, .ref xp, .ref xq, .ref xe, .ref xt]))] : va_W) ++ (([((sa 0), .inr (4, [.ref (xa 0), .ref (ca 0), .ref (na 0), .int (si 3), .int (si 4)]))] : va_W) ++ (acW k ca q3 ++ (rmW k xa q5.2)))) H := hP
    have hD : va_D A (([((xo 0), .inr (6, [.ref (ta 0), .ref xr, .int (xi 2), .ref (sa 0), .ref xm, .ref xg, .ref (tr 0), .ref xs, .ref xp, .ref xq, .ref xe, .ref xt]))] : va_W) ++ (([((sa 0), .inr (4, [.ref (xa 0), .ref (ca 0), .ref (na 0), .int (si 3), .int (si 4)]))] : va_W) ++ (acW k ca q3 ++ (rmW k xa q5.2)))) := hD
    refine hc_is (z := q5.1) rfl ?_
    exact fw_endI (rv := fun b : Int32 × OB × OB => b.1) (wp := fun b : Int32 × OB × OB => ([((xo 0), .inr (6, [.ref (ta 0), .ref xr, .int (xi 2), .ref (sa 0), .ref xm, .ref xg, .ref (tr 0), .ref xs, .ref xp, .ref xq, .ref xe, .ref xt]))] : va_W) ++ (([((sa 0), .inr (4, [.ref (xa 0), .ref (ca 0), .ref (na 0), .int (si 3), .int (si 4)]))] : va_W) ++ (rmW k xa b.2.1 ++ (acW k ca b.2.2)))) hx hb hr hlocks h rfl (hP.sub [0, 1, 6, 7, 8, 9, 10, 11, 12, 13, 14, 2, 3, 4, 5] rfl) (hD.sub [0, 1, 6, 7, 8, 9, 10, 11, 12, 13, 14, 2, 3, 4, 5] (by decide +kernel) rfl) hS dX8_sit_55
  · have h := fw_f c2 h
    refine lv_iconst (v := (-1)) hx hb dX8_sit_14 (by decide) ?_
    exact fw_endI (rv := fun b : Int32 × OB × OB => b.1) (wp := fun b : Int32 × OB × OB => ([((xo 0), .inr (6, [.ref (ta 0), .ref xr, .int (xi 2), .ref (sa 0), .ref xm, .ref xg, .ref (tr 0), .ref xs, .ref xp, .ref xq, .ref xe, .ref xt]))] : va_W) ++ (([((sa 0), .inr (4, [.ref (xa 0), .ref (ca 0), .ref (na 0), .int (si 3), .int (si 4)]))] : va_W) ++ (rmW k xa b.2.1 ++ (acW k ca b.2.2)))) hx hb hr hlocks h rfl (hP.sub [0, 1, 6, 7, 8, 9, 10, 11, 12, 13, 14, 2, 3, 4, 5] rfl) (hD.sub [0, 1, 6, 7, 8, 9, 10, 11, 12, 13, 14, 2, 3, 4, 5] (by decide +kernel) rfl) hS dX8_sit_15
