/-! the class: images, as functions -/
theorem dX8_back_0 : decode cX8_back 0 = .ok (.iload_n 1, 1) := by decide +kernel
theorem dX8_back_1 : decode cX8_back 1 = .ok (.ifCond .lt 17, 3) := by decide +kernel
theorem dX8_back_4 : decode cX8_back 4 = .ok (.iload_n 1, 1) := by decide +kernel
theorem dX8_back_5 : decode cX8_back 5 = .ok (.iconst 4, 1) := by decide +kernel
theorem dX8_back_6 : decode cX8_back 6 = .ok (.if_icmp .ge 12, 3) := by decide +kernel
theorem dX8_back_9 : decode cX8_back 9 = .ok (.aload_n 0, 1) := by decide +kernel
theorem dX8_back_10 : decode cX8_back 10 = .ok (.getfield 37, 3) := by decide +kernel
theorem dX8_back_13 : decode cX8_back 13 = .ok (.iload_n 1, 1) := by decide +kernel
theorem dX8_back_14 : decode cX8_back 14 = .ok (.baload, 1) := by decide +kernel
theorem dX8_back_15 : decode cX8_back 15 = .ok (.ifCond .ne 5, 3) := by decide +kernel
theorem dX8_back_18 : decode cX8_back 18 = .ok (.iconst (-1), 1) := by decide +kernel
theorem dX8_back_19 : decode cX8_back 19 = .ok (.ireturn, 1) := by decide +kernel
theorem dX8_back_20 : decode cX8_back 20 = .ok (.aload_n 0, 1) := by decide +kernel
theorem dX8_back_21 : decode cX8_back 21 = .ok (.getfield 29, 3) := by decide +kernel
theorem dX8_back_24 : decode cX8_back 24 = .ok (.aload_n 0, 1) := by decide +kernel
theorem dX8_back_25 : decode cX8_back 25 = .ok (.getfield 33, 3) := by decide +kernel
theorem dX8_back_28 : decode cX8_back 28 = .ok (.iload_n 1, 1) := by decide +kernel
theorem dX8_back_29 : decode cX8_back 29 = .ok (.aaload, 1) := by decide +kernel
theorem dX8_back_30 : decode cX8_back 30 = .ok (.invokevirtual 318, 3) := by decide +kernel
theorem dX8_back_33 : decode cX8_back 33 = .ok (.aload_n 0, 1) := by decide +kernel
theorem dX8_back_34 : decode cX8_back 34 = .ok (.getfield 29, 3) := by decide +kernel
theorem dX8_back_37 : decode cX8_back 37 = .ok (.getfield 81, 3) := by decide +kernel
theorem dX8_back_40 : decode cX8_back 40 = .ok (.getfield 154, 3) := by decide +kernel
theorem dX8_back_43 : decode cX8_back 43 = .ok (.ireturn, 1) := by decide +kernel
theorem dX8_image_0 : decode cX8_image 0 = .ok (.iload_n 1, 1) := by decide +kernel
theorem dX8_image_1 : decode cX8_image 1 = .ok (.ifCond .lt 8, 3) := by decide +kernel
theorem dX8_image_4 : decode cX8_image 4 = .ok (.iload_n 1, 1) := by decide +kernel
theorem dX8_image_5 : decode cX8_image 5 = .ok (.iconst 4, 1) := by decide +kernel
theorem dX8_image_6 : decode cX8_image 6 = .ok (.if_icmp .lt 5, 3) := by decide +kernel
theorem dX8_image_9 : decode cX8_image 9 = .ok (.iconst (-1), 1) := by decide +kernel
theorem dX8_image_10 : decode cX8_image 10 = .ok (.ireturn, 1) := by decide +kernel
theorem dX8_image_11 : decode cX8_image 11 = .ok (.aload_n 0, 1) := by decide +kernel
theorem dX8_image_12 : decode cX8_image 12 = .ok (.getfield 33, 3) := by decide +kernel
theorem dX8_image_15 : decode cX8_image 15 = .ok (.iload_n 1, 1) := by decide +kernel
theorem dX8_image_16 : decode cX8_image 16 = .ok (.aaload, 1) := by decide +kernel
theorem dX8_image_17 : decode cX8_image 17 = .ok (.aload_n 0, 1) := by decide +kernel
theorem dX8_image_18 : decode cX8_image 18 = .ok (.getfield 29, 3) := by decide +kernel
theorem dX8_image_21 : decode cX8_image 21 = .ok (.invokevirtual 318, 3) := by decide +kernel
theorem dX8_image_24 : decode cX8_image 24 = .ok (.aload_n 0, 1) := by decide +kernel
theorem dX8_image_25 : decode cX8_image 25 = .ok (.getfield 37, 3) := by decide +kernel
theorem dX8_image_28 : decode cX8_image 28 = .ok (.iload_n 1, 1) := by decide +kernel
theorem dX8_image_29 : decode cX8_image 29 = .ok (.iconst 1, 1) := by decide +kernel
theorem dX8_image_30 : decode cX8_image 30 = .ok (.bastore, 1) := by decide +kernel
theorem dX8_image_31 : decode cX8_image 31 = .ok (.aload_n 0, 1) := by decide +kernel
theorem dX8_image_32 : decode cX8_image 32 = .ok (.getfield 29, 3) := by decide +kernel
theorem dX8_image_35 : decode cX8_image 35 = .ok (.getfield 81, 3) := by decide +kernel
theorem dX8_image_38 : decode cX8_image 38 = .ok (.getfield 154, 3) := by decide +kernel
theorem dX8_image_41 : decode cX8_image 41 = .ok (.ireturn, 1) := by decide +kernel
set_option maxRecDepth 20000 in
theorem ggX8_back_X6_copyFrom : GoodIn wsX8_back wsX6_copyFrom := good_rp ([10, 11, 12, 13, 14, 15, 16, 17, 18, 19, 20, 21, 22, 23, 24, 25, 26, 27, 28, 29, 30, 31, 32, 33, 34, 35, 36, 37, 38, 39, 40, 41, 42, 43, 44, 45, 46, 47, 48, 49, 50, 51, 52, 53, 54, 55, 56, 57, 58, 59, 60, 61, 74, 75, 76, 77, 78, 79, 80, 81, 82, 83, 84, 85, 86, 87, 88, 89, 90, 91, 92, 93, 94, 95, 96, 97, 98, 99, 100, 101, 102, 103, 104] : List Nat) rfl (by decide +kernel)
set_option maxRecDepth 20000 in
theorem gX8_back_X6_copyFrom : GoodIn wsX8_back (wsV RX8 318 RX6 yX6_copyFrom wsX6_copyFrom) := goodIn_app (good_rp ([6, 7, 8, 9] : List Nat) rfl (by decide +kernel)) ggX8_back_X6_copyFrom
set_option maxRecDepth 20000 in
theorem ggX8_image_X6_copyFrom : GoodIn wsX8_image wsX6_copyFrom := good_rp ([10, 11, 12, 13, 14, 15, 16, 17, 18, 19, 20, 21, 22, 23, 24, 25, 26, 27, 28, 29, 30, 31, 32, 33, 34, 35, 36, 37, 38, 39, 40, 41, 42, 43, 44, 45, 46, 47, 48, 49, 50, 51, 52, 53, 54, 55, 56, 57, 58, 59, 60, 61, 74, 75, 76, 77, 78, 79, 80, 81, 82, 83, 84, 85, 86, 87, 88, 89, 90, 91, 92, 93, 94, 95, 96, 97, 98, 99, 100, 101, 102, 103, 104] : List Nat) rfl (by decide +kernel)
set_option maxRecDepth 20000 in
theorem gX8_image_X6_copyFrom : GoodIn wsX8_image (wsV RX8 318 RX6 yX6_copyFrom wsX6_copyFrom) := goodIn_app (good_rp ([6, 7, 8, 9] : List Nat) rfl (by decide +kernel)) ggX8_image_X6_copyFrom
def b_X8_image_9 (F : Nat)  (xi : Nat → Int32) (si : Nat → Int32) (rm : OB) (ac : OB) (nt : OB) (xmr : Nat → Option Nat)  (xgr : Nat → Int32) (sj : Nat → Int32) (rn : OB) (ae : OB) (nu : OB) : Option (Int32 × (Nat → Int32) × (Nat → Int32) × OB × OB × OB) :=
  some ((-1), xgr, sj, rn, ae, nu)
def f_X8_image (F : Nat)  (x1 : Int32) (xi : Nat → Int32) (si : Nat → Int32) (rm : OB) (ac : OB) (nt : OB) (xmr : Nat → Option Nat) (xgr : Nat → Int32) (sj : Nat → Int32) (rn : OB) (ae : OB) (nu : OB) : Option (Int32 × (Nat → Int32) × (Nat → Int32) × OB × OB × OB) :=
  if x1 < 0 then (b_X8_image_9 F xi si rm ac nt xmr xgr sj rn ae nu) else (if x1 < 4 then (if ib x1 4 then (Option.bind (f_X6_copyFrom F sj rn ae nu si rm ac nt) (fun q4 => (some ((rm.1 12), (upd xgr (Int32.toNatClampNeg x1) (vp_nar .boolean 1)), q4.1, q4.2.1, q4.2.2.1, q4.2.2.2)))) else none) else (b_X8_image_9 F xi si rm ac nt xmr xgr sj rn ae nu))
set_option maxHeartbeats 4000000 in
set_option maxRecDepth 100000 in
theorem c_X8_image (l : Launch) (D : va_G) (k : Nat → ClassId) (sz : Nat)  (xo : Nat → Nat) (ta : Nat → Nat) (xr : Nat) (sa : Nat → Nat) (xm : Nat) (xg : Nat) (tr : Nat → Nat) (xs : Nat) (xp : Nat) (xq : Nat) (xe : Nat) (xt : Nat) (xa : Nat → Nat) (ca : Nat → Nat) (na : Nat → Nat) (sb : Nat → Nat) (xb : Nat → Nat) (cb : Nat → Nat) (nb : Nat → Nat) (F : Nat)  (x1 : Int32) (xi : Nat → Int32) (si : Nat → Int32) (rm : OB) (ac : OB) (nt : OB) (xmr : Nat → Option Nat) (xgr : Nat → Int32) (sj : Nat → Int32) (rn : OB) (ae : OB) (nu : OB) (hq : ib x1 4 → xmr (Int32.toNatClampNeg x1) = some (sb 0)) {res : Int32 × (Nat → Int32) × (Nat → Int32) × OB × OB × OB} (h : f_X8_image F x1 xi si rm ac nt xmr xgr sj rn ae nu = some res) : CtI l yX8_image wsX8_image (rmK 4 0 0) [.ref (xo 0), .int x1] D k sz ([((xo 0), .inr (6, [.ref (ta 0), .ref xr, .int (xi 2), .ref (sa 0), .ref xm, .ref xg, .ref (tr 0), .ref xs, .ref xp, .ref xq, .ref xe, .ref xt]))] ++ ([((sa 0), .inr (4, [.ref (xa 0), .ref (ca 0), .ref (na 0), .int (si 3), .int (si 4)]))] ++ (rmW k xa rm ++ (acW k ca ac ++ (ntW k na nt ++ ([(xm, hcS k 4 xmr)] ++ ([(xg, hcZ k 4 xgr)] ++ ([((sb 0), .inr (4, [.ref (xb 0), .ref (cb 0), .ref (nb 0), .int (sj 3), .int (sj 4)]))] ++ (rmW k xb rn ++ (acW k cb ae ++ (ntW k nb nu))))))))))) (fun r (_ : Unit) => r = res.1) (fun _ : Unit => [((xo 0), .inr (6, [.ref (ta 0), .ref xr, .int (xi 2), .ref (sa 0), .ref xm, .ref xg, .ref (tr 0), .ref xs, .ref xp, .ref xq, .ref xe, .ref xt]))] ++ ([((sa 0), .inr (4, [.ref (xa 0), .ref (ca 0), .ref (na 0), .int (si 3), .int (si 4)]))] ++ (rmW k xa rm ++ (acW k ca ac ++ (ntW k na nt ++ ([(xm, hcS k 4 xmr)] ++ ([(xg, hcZ k 4 res.2.1)] ++ ([((sb 0), .inr (4, [.ref (xb 0), .ref (cb 0), .ref (nb 0), .int (res.2.2.1 3), .int (res.2.2.1 4)]))] ++ (rmW k xb res.2.2.2.1 ++ (acW k cb res.2.2.2.2.1 ++ (ntW k nb res.2.2.2.2.2))))))))))) 0 0 := by
  refine CtI.mk (cc := cX8_image) (maxL := 2) (ret := (some .int)) (by decide) rfl (Nat.le_of_ble_eq_true rfl) ?_
  intro p e s m below meth c A ls E hP hD hS hl
  obtain ⟨hx, hb, hr, hml, hown, hts, hlocks, hin, hG, hA⟩ := E
  have hown : s.vm.findClass RX8 = some m.cls := hown
  have in0 : ∀ w ∈ u_ws RX0 TX0 5, w ∈ wsX8_image := fun _ h => List.mem_cons_of_mem _ (List.mem_append_left _ (List.mem_append_right _ h))
  have in2 : ∀ w ∈ u_ws RX2 TX2 4, w ∈ wsX8_image := fun _ h => List.mem_cons_of_mem _ (List.mem_append_right _ h)
  have in3 : ∀ w ∈ u_ws RX3 TX3 17, w ∈ wsX8_image := fun _ h => List.mem_cons_of_mem _ (List.mem_append_left _ (List.mem_append_left _ (List.mem_append_right _ h)))
  have in6 : ∀ w ∈ u_ws RX6 TX6 5, w ∈ wsX8_image := fun _ h => List.mem_cons_of_mem _ (List.mem_append_left _ (List.mem_append_left _ (List.mem_append_left _ (List.mem_append_right _ h))))
  have in8 : ∀ w ∈ u_ws RX8 TX8 12, w ∈ wsX8_image := fun _ h => List.mem_cons_of_mem _ (List.mem_append_left _ (List.mem_append_left _ (List.mem_append_left _ (List.mem_append_left _ (List.mem_append_right _ h)))))
  have hl : lv_has ls 2 [(0, .ref (xo 0)), (1, .int x1)] := hl
  have B9 : ∀ (xgr : Nat → Int32) (sj : Nat → Int32) (rn : OB) (ae : OB) (nu : OB) (H : Heap) (locs : List Loc) (ls : Array Slot), b_X8_image_9 F xi si rm ac nt xmr xgr sj rn ae nu = some res → va_P D vwCl ([((xo 0), .inr (6, [.ref (ta 0), .ref xr, .int (xi 2), .ref (sa 0), .ref xm, .ref xg, .ref (tr 0), .ref xs, .ref xp, .ref xq, .ref xe, .ref xt]))] ++ ([((sa 0), .inr (4, [.ref (xa 0), .ref (ca 0), .ref (na 0), .int (si 3), .int (si 4)]))] ++ (rmW k xa rm ++ (acW k ca ac ++ (ntW k na nt ++ ([(xm, hcS k 4 xmr)] ++ ([(xg, hcZ k 4 xgr)] ++ ([((sb 0), .inr (4, [.ref (xb 0), .ref (cb 0), .ref (nb 0), .int (sj 3), .int (sj 4)]))] ++ (rmW k xb rn ++ (acW k cb ae ++ (ntW k nb nu))))))))))) H → va_D A ([((xo 0), .inr (6, [.ref (ta 0), .ref xr, .int (xi 2), .ref (sa 0), .ref xm, .ref xg, .ref (tr 0), .ref xs, .ref xp, .ref xq, .ref xe, .ref xt]))] ++ ([((sa 0), .inr (4, [.ref (xa 0), .ref (ca 0), .ref (na 0), .int (si 3), .int (si 4)]))] ++ (rmW k xa rm ++ (acW k ca ac ++ (ntW k na nt ++ ([(xm, hcS k 4 xmr)] ++ ([(xg, hcZ k 4 xgr)] ++ ([((sb 0), .inr (4, [.ref (xb 0), .ref (cb 0), .ref (nb 0), .int (sj 3), .int (sj 4)]))] ++ (rmW k xb rn ++ (acW k cb ae ++ (ntW k nb nu))))))))))) → va_S A s.heap H locs → lv_has ls 2 [] → W p l e (rmK 4 0 0) s m (List.toArray [.ref (xo 0), .int x1]) below meth c H locs 0 0 (MQ below (va_Qi (fun r (_ : Unit) => r = res.1) (hcB D (fun _ : Unit => [((xo 0), .inr (6, [.ref (ta 0), .ref xr, .int (xi 2), .ref (sa 0), .ref xm, .ref xg, .ref (tr 0), .ref xs, .ref xp, .ref xq, .ref xe, .ref xt]))] ++ ([((sa 0), .inr (4, [.ref (xa 0), .ref (ca 0), .ref (na 0), .int (si 3), .int (si 4)]))] ++ (rmW k xa rm ++ (acW k ca ac ++ (ntW k na nt ++ ([(xm, hcS k 4 xmr)] ++ ([(xg, hcZ k 4 res.2.1)] ++ ([((sb 0), .inr (4, [.ref (xb 0), .ref (cb 0), .ref (nb 0), .int (res.2.2.1 3), .int (res.2.2.1 4)]))] ++ (rmW k xb res.2.2.2.1 ++ (acW k cb res.2.2.2.2.1 ++ (ntW k nb res.2.2.2.2.2))))))))))) A) A) (List.toArray [.ref (xo 0), .int x1]) s 0 0 A) (F0 m 9 ls []) := by
    intro xgr sj rn ae nu H locs ls h hP hD hS hl
    refine lv_iconst (v := (-1)) hx hb dX8_image_9 (by decide) ?_
    exact fw_endI (rv := fun b : Int32 × (Nat → Int32) × (Nat → Int32) × OB × OB × OB => b.1) (wp := fun b : Int32 × (Nat → Int32) × (Nat → Int32) × OB × OB × OB => [((xo 0), .inr (6, [.ref (ta 0), .ref xr, .int (xi 2), .ref (sa 0), .ref xm, .ref xg, .ref (tr 0), .ref xs, .ref xp, .ref xq, .ref xe, .ref xt]))] ++ ([((sa 0), .inr (4, [.ref (xa 0), .ref (ca 0), .ref (na 0), .int (si 3), .int (si 4)]))] ++ (rmW k xa rm ++ (acW k ca ac ++ (ntW k na nt ++ ([(xm, hcS k 4 xmr)] ++ ([(xg, hcZ k 4 b.2.1)] ++ ([((sb 0), .inr (4, [.ref (xb 0), .ref (cb 0), .ref (nb 0), .int (b.2.2.1 3), .int (b.2.2.1 4)]))] ++ (rmW k xb b.2.2.2.1 ++ (acW k cb b.2.2.2.2.1 ++ (ntW k nb b.2.2.2.2.2))))))))))) hx hb hr hlocks h rfl hP hD hS dX8_image_10
  refine lv_iload_n hx hb dX8_image_0 rfl (lv_at hl 1 rfl) ?_
  refine lv_if_lt (tgt := 9) hx hb dX8_image_1 (by decide) (fun c1 => ?_) (fun c1 => ?_)
  · have h := fw_t c1 h
    exact B9 _ _ _ _ _ _ _ _ h hP hD hS (lv_sub hl [] rfl)
  · have h := fw_f c1 h
    refine lv_iload_n hx hb dX8_image_4 rfl (lv_at hl 1 rfl) ?_
    refine lv_iconst (v := 4) hx hb dX8_image_5 (by decide) ?_
    refine lv_icmp_lt (tgt := 11) hx hb dX8_image_6 (by decide) (fun c2 => ?_) (fun c2 => ?_)
    · have h := fw_t c2 h
      refine lv_aload_n hx hb dX8_image_11 rfl (lv_at hl 0 rfl) ?_
      refine va_get (D := D) (ci := 6) (v := .ref xm) (C := RX8) (T := TX8) (N := 12) hx hb hts in8 hown hG.1 hP 0 rfl rfl 4 (by decide) (hts (.fieldLink RX8 33 "ChairCane" "images" "[LChairCane$Standing;") (by decide +kernel)) (fun _ h9 => h9) rfl dX8_image_12 ?_
      refine lv_iload_n hx hb dX8_image_15 rfl (lv_at hl 1 rfl) ?_
      obtain ⟨g3, h⟩ := fw_g h
      refine va_aldq hx hb hG.1 hP 19 5 rfl rfl (ib_vp g3) dX8_image_16 ?_
      refine hc_isV (z := .ref (sb 0)) (congrArg va_rf (hq g3)) ?_
      refine lv_aload_n hx hb dX8_image_17 rfl (lv_at hl 0 rfl) ?_
      refine va_get (D := D) (ci := 6) (v := .ref (sa 0)) (C := RX8) (T := TX8) (N := 12) hx hb hts in8 hown hG.1 hP 0 rfl rfl 3 (by decide) (hts (.fieldLink RX8 29 "ChairCane" "now" "LChairCane$Standing;") (by decide +kernel)) (fun _ h9 => h9) rfl dX8_image_18 ?_
      refine fw_Vv (As := [.ref (sa 0)]) (rest := []) (n := 1) (wr := [((xo 0), .inr (6, [.ref (ta 0), .ref xr, .int (xi 2), .ref (sa 0), .ref xm, .ref xg, .ref (tr 0), .ref xs, .ref xp, .ref xq, .ref xe, .ref xt]))] ++ ([(xm, hcS k 4 xmr)] ++ ([(xg, hcZ k 4 xgr)]))) (wp := fun b : (Nat → Int32) × OB × OB × OB => [((sb 0), .inr (4, [.ref (xb 0), .ref (cb 0), .ref (nb 0), .int (b.1 3), .int (b.1 4)]))] ++ (rmW k xb b.2.1 ++ (acW k cb b.2.2.1 ++ (ntW k nb b.2.2.2 ++ ([((sa 0), .inr (4, [.ref (xa 0), .ref (ca 0), .ref (na 0), .int (si 3), .int (si 4)]))] ++ (rmW k xa rm ++ (acW k ca ac ++ (ntW k na nt)))))))) h hx hb hml hown hts hG hA hP hD hS hl.1 [21, 22, 23, 24, 25, 26, 27, 28, 29, 30, 31, 32, 33, 34, 35, 36, 37, 38, 1, 2, 3, 4, 5, 6, 7, 8, 9, 10, 11, 12, 13, 14, 15, 16, 17, 18] [0, 19, 20] (fun q hq9 => c_X6_copyFrom l D k _  sb xb cb nb sa xa ca na F  sj rn ae nu si rm ac nt  hq9) (ci := 4) (q0 := 21) rfl rfl gX8_image_X6_copyFrom rfl ⟨rfl, rfl, Nat.le_of_ble_eq_true rfl, Nat.le_of_ble_eq_true rfl⟩ (by decide +kernel) rfl rfl ⟨by decide, by decide, by decide⟩ ⟨rfl, rfl, Nat.le_of_ble_eq_true rfl, Nat.le_of_ble_eq_true rfl, Nat.le_of_ble_eq_true rfl⟩ dX8_image_21 (fun q4 H locs h hP hD hS => ?_)
      have hP : va_P D vwCl ([((xo 0), .inr (6, [.ref (ta 0), .ref xr, .int (xi 2), .ref (sa 0), .ref xm, .ref xg, .ref (tr 0), .ref xs, .ref xp, .ref xq, .ref xe, .ref xt]))] ++ ([(xm, hcS k 4 xmr)] ++ ([(xg, hcZ k 4 xgr)] ++ ([((sb 0), .inr (4, [.ref (xb 0), .ref (cb 0), .ref (nb 0), .int (q4.1 3), .int (q4.1 4)]))] ++ (rmW k xb q4.2.1 ++ (acW k cb q4.2.2.1 ++ (ntW k nb q4.2.2.2 ++ ([((sa 0), .inr (4, [.ref (xa 0), .ref (ca 0), .ref (na 0), .int (si 3), .int (si 4)]))] ++ (rmW k xa rm ++ (acW k ca ac ++ (ntW k na nt))))))))))) H := hP
      have hD : va_D A ([((xo 0), .inr (6, [.ref (ta 0), .ref xr, .int (xi 2), .ref (sa 0), .ref xm, .ref xg, .ref (tr 0), .ref xs, .ref xp, .ref xq, .ref xe, .ref xt]))] ++ ([(xm, hcS k 4 xmr)] ++ ([(xg, hcZ k 4 xgr)] ++ ([((sb 0), .inr (4, [.ref (xb 0), .ref (cb 0), .ref (nb 0), .int (q4.1 3), .int (q4.1 4)]))] ++ (rmW k xb q4.2.1 ++ (acW k cb q4.2.2.1 ++ (ntW k nb q4.2.2.2 ++ ([((sa 0), .inr (4, [.ref (xa 0), .ref (ca 0), .ref (na 0), .int (si 3), .int (si 4)]))] ++ (rmW k xa rm ++ (acW k ca ac ++ (ntW k na nt))))))))))) := hD
      refine lv_aload_n hx hb dX8_image_24 rfl (lv_at hl 0 rfl) ?_
      refine va_get (D := D) (ci := 6) (v := .ref xg) (C := RX8) (T := TX8) (N := 12) hx hb hts in8 hown hG.1 hP 0 rfl rfl 5 (by decide) (hts (.fieldLink RX8 37 "ChairCane" "imageMade" "[Z") (by decide +kernel)) (fun _ h9 => h9) rfl dX8_image_25 ?_
      refine lv_iload_n hx hb dX8_image_28 rfl (lv_at hl 1 rfl) ?_
      refine lv_iconst (v := 1) hx hb dX8_image_29 (by decide) ?_
      refine va_zast hx hb hG.1 hP hD hS 2 2 rfl rfl (ib_vp g3) dX8_image_30 (fun H locs hP hD hS => ?_)
      refine lv_aload_n hx hb dX8_image_31 rfl (lv_at hl 0 rfl) ?_
      refine va_get (D := D) (ci := 6) (v := .ref (sa 0)) (C := RX8) (T := TX8) (N := 12) hx hb hts in8 hown hG.1 hP 0 rfl rfl 3 (by decide) (hts (.fieldLink RX8 29 "ChairCane" "now" "LChairCane$Standing;") (by decide +kernel)) (fun _ h9 => h9) rfl dX8_image_32 ?_
      refine va_get (D := D) (ci := 4) (v := .ref (xa 0)) (C := RX6) (T := TX6) (N := 5) hx hb hts in6 hown hG.1 hP 21 rfl rfl 0 (by decide) (hts (.fieldLink RX8 81 "ChairCane$Standing" "room" "LChairCane$Room;") (by decide +kernel)) (fun _ h9 => h9) rfl dX8_image_35 ?_
      refine va_get (D := D) (ci := 2) (v := .int (rm.1 12)) (C := RX3) (T := TX3) (N := 17) hx hb hts in3 hown hG.1 hP 22 rfl rfl 12 (by decide) (hts (.fieldLink RX8 154 "ChairCane$Room" "minute" "I") (by decide +kernel)) (fun _ h9 => h9) rfl dX8_image_38 ?_
      exact fw_endI (rv := fun b : Int32 × (Nat → Int32) × (Nat → Int32) × OB × OB × OB => b.1) (wp := fun b : Int32 × (Nat → Int32) × (Nat → Int32) × OB × OB × OB => [((xo 0), .inr (6, [.ref (ta 0), .ref xr, .int (xi 2), .ref (sa 0), .ref xm, .ref xg, .ref (tr 0), .ref xs, .ref xp, .ref xq, .ref xe, .ref xt]))] ++ ([((sa 0), .inr (4, [.ref (xa 0), .ref (ca 0), .ref (na 0), .int (si 3), .int (si 4)]))] ++ (rmW k xa rm ++ (acW k ca ac ++ (ntW k na nt ++ ([(xm, hcS k 4 xmr)] ++ ([(xg, hcZ k 4 b.2.1)] ++ ([((sb 0), .inr (4, [.ref (xb 0), .ref (cb 0), .ref (nb 0), .int (b.2.2.1 3), .int (b.2.2.1 4)]))] ++ (rmW k xb b.2.2.2.1 ++ (acW k cb b.2.2.2.2.1 ++ (ntW k nb b.2.2.2.2.2))))))))))) hx hb hr hlocks h rfl (hP.sub [0, 21, 22, 23, 24, 25, 26, 27, 28, 29, 30, 31, 32, 33, 34, 35, 36, 37, 38, 1, 2, 3, 4, 5, 6, 7, 8, 9, 10, 11, 12, 13, 14, 15, 16, 17, 18, 19, 20] rfl) (hD.sub [0, 21, 22, 23, 24, 25, 26, 27, 28, 29, 30, 31, 32, 33, 34, 35, 36, 37, 38, 1, 2, 3, 4, 5, 6, 7, 8, 9, 10, 11, 12, 13, 14, 15, 16, 17, 18, 19, 20] (by decide) rfl) hS dX8_image_41
    · have h := fw_f c2 h
      exact B9 _ _ _ _ _ _ _ _ h hP hD hS (lv_sub hl [] rfl)
def b_X8_back_18 (F : Nat)  (xi : Nat → Int32) (xmr : Nat → Option Nat) (xgr : Nat → Int32) (sj : Nat → Int32) (rn : OB) (ae : OB) (nu : OB)  (si : Nat → Int32) (rm : OB) (ac : OB) (nt : OB) : Option (Int32 × (Nat → Int32) × OB × OB × OB) :=
  some ((-1), si, rm, ac, nt)
def f_X8_back (F : Nat)  (x1 : Int32) (xi : Nat → Int32) (si : Nat → Int32) (rm : OB) (ac : OB) (nt : OB) (xmr : Nat → Option Nat) (xgr : Nat → Int32) (sj : Nat → Int32) (rn : OB) (ae : OB) (nu : OB) : Option (Int32 × (Nat → Int32) × OB × OB × OB) :=
  if x1 < 0 then (b_X8_back_18 F xi xmr xgr sj rn ae nu si rm ac nt) else (if 4 ≤ x1 then (b_X8_back_18 F xi xmr xgr sj rn ae nu si rm ac nt) else (if ib x1 4 then (if (xgr (Int32.toNatClampNeg x1)) = 0 then (b_X8_back_18 F xi xmr xgr sj rn ae nu si rm ac nt) else (Option.bind (f_X6_copyFrom F si rm ac nt sj rn ae nu) (fun q5 => (some ((q5.2.1.1 12), q5.1, q5.2.1, q5.2.2.1, q5.2.2.2))))) else none))
set_option maxHeartbeats 4000000 in
set_option maxRecDepth 100000 in
theorem c_X8_back (l : Launch) (D : va_G) (k : Nat → ClassId) (sz : Nat)  (xo : Nat → Nat) (ta : Nat → Nat) (xr : Nat) (sa : Nat → Nat) (xm : Nat) (xg : Nat) (tr : Nat → Nat) (xs : Nat) (xp : Nat) (xq : Nat) (xe : Nat) (xt : Nat) (xa : Nat → Nat) (ca : Nat → Nat) (na : Nat → Nat) (sb : Nat → Nat) (xb : Nat → Nat) (cb : Nat → Nat) (nb : Nat → Nat) (F : Nat)  (x1 : Int32) (xi : Nat → Int32) (si : Nat → Int32) (rm : OB) (ac : OB) (nt : OB) (xmr : Nat → Option Nat) (xgr : Nat → Int32) (sj : Nat → Int32) (rn : OB) (ae : OB) (nu : OB) (hq : ib x1 4 → xmr (Int32.toNatClampNeg x1) = some (sb 0)) {res : Int32 × (Nat → Int32) × OB × OB × OB} (h : f_X8_back F x1 xi si rm ac nt xmr xgr sj rn ae nu = some res) : CtI l yX8_back wsX8_back (rmK 4 0 0) [.ref (xo 0), .int x1] D k sz ([((xo 0), .inr (6, [.ref (ta 0), .ref xr, .int (xi 2), .ref (sa 0), .ref xm, .ref xg, .ref (tr 0), .ref xs, .ref xp, .ref xq, .ref xe, .ref xt]))] ++ ([((sa 0), .inr (4, [.ref (xa 0), .ref (ca 0), .ref (na 0), .int (si 3), .int (si 4)]))] ++ (rmW k xa rm ++ (acW k ca ac ++ (ntW k na nt ++ ([(xm, hcS k 4 xmr)] ++ ([(xg, hcZ k 4 xgr)] ++ ([((sb 0), .inr (4, [.ref (xb 0), .ref (cb 0), .ref (nb 0), .int (sj 3), .int (sj 4)]))] ++ (rmW k xb rn ++ (acW k cb ae ++ (ntW k nb nu))))))))))) (fun r (_ : Unit) => r = res.1) (fun _ : Unit => [((xo 0), .inr (6, [.ref (ta 0), .ref xr, .int (xi 2), .ref (sa 0), .ref xm, .ref xg, .ref (tr 0), .ref xs, .ref xp, .ref xq, .ref xe, .ref xt]))] ++ ([((sa 0), .inr (4, [.ref (xa 0), .ref (ca 0), .ref (na 0), .int (res.2.1 3), .int (res.2.1 4)]))] ++ (rmW k xa res.2.2.1 ++ (acW k ca res.2.2.2.1 ++ (ntW k na res.2.2.2.2 ++ ([(xm, hcS k 4 xmr)] ++ ([(xg, hcZ k 4 xgr)] ++ ([((sb 0), .inr (4, [.ref (xb 0), .ref (cb 0), .ref (nb 0), .int (sj 3), .int (sj 4)]))] ++ (rmW k xb rn ++ (acW k cb ae ++ (ntW k nb nu))))))))))) 0 0 := by
  refine CtI.mk (cc := cX8_back) (maxL := 2) (ret := (some .int)) (by decide) rfl (Nat.le_of_ble_eq_true rfl) ?_
  intro p e s m below meth c A ls E hP hD hS hl
  obtain ⟨hx, hb, hr, hml, hown, hts, hlocks, hin, hG, hA⟩ := E
  have hown : s.vm.findClass RX8 = some m.cls := hown
  have in0 : ∀ w ∈ u_ws RX0 TX0 5, w ∈ wsX8_back := fun _ h => List.mem_cons_of_mem _ (List.mem_append_left _ (List.mem_append_right _ h))
  have in2 : ∀ w ∈ u_ws RX2 TX2 4, w ∈ wsX8_back := fun _ h => List.mem_cons_of_mem _ (List.mem_append_right _ h)
  have in3 : ∀ w ∈ u_ws RX3 TX3 17, w ∈ wsX8_back := fun _ h => List.mem_cons_of_mem _ (List.mem_append_left _ (List.mem_append_left _ (List.mem_append_right _ h)))
  have in6 : ∀ w ∈ u_ws RX6 TX6 5, w ∈ wsX8_back := fun _ h => List.mem_cons_of_mem _ (List.mem_append_left _ (List.mem_append_left _ (List.mem_append_left _ (List.mem_append_right _ h))))
  have in8 : ∀ w ∈ u_ws RX8 TX8 12, w ∈ wsX8_back := fun _ h => List.mem_cons_of_mem _ (List.mem_append_left _ (List.mem_append_left _ (List.mem_append_left _ (List.mem_append_left _ (List.mem_append_right _ h)))))
  have hl : lv_has ls 2 [(0, .ref (xo 0)), (1, .int x1)] := hl
  have B18 : ∀ (si : Nat → Int32) (rm : OB) (ac : OB) (nt : OB) (H : Heap) (locs : List Loc) (ls : Array Slot), b_X8_back_18 F xi xmr xgr sj rn ae nu si rm ac nt = some res → va_P D vwCl ([((xo 0), .inr (6, [.ref (ta 0), .ref xr, .int (xi 2), .ref (sa 0), .ref xm, .ref xg, .ref (tr 0), .ref xs, .ref xp, .ref xq, .ref xe, .ref xt]))] ++ ([((sa 0), .inr (4, [.ref (xa 0), .ref (ca 0), .ref (na 0), .int (si 3), .int (si 4)]))] ++ (rmW k xa rm ++ (acW k ca ac ++ (ntW k na nt ++ ([(xm, hcS k 4 xmr)] ++ ([(xg, hcZ k 4 xgr)] ++ ([((sb 0), .inr (4, [.ref (xb 0), .ref (cb 0), .ref (nb 0), .int (sj 3), .int (sj 4)]))] ++ (rmW k xb rn ++ (acW k cb ae ++ (ntW k nb nu))))))))))) H → va_D A ([((xo 0), .inr (6, [.ref (ta 0), .ref xr, .int (xi 2), .ref (sa 0), .ref xm, .ref xg, .ref (tr 0), .ref xs, .ref xp, .ref xq, .ref xe, .ref xt]))] ++ ([((sa 0), .inr (4, [.ref (xa 0), .ref (ca 0), .ref (na 0), .int (si 3), .int (si 4)]))] ++ (rmW k xa rm ++ (acW k ca ac ++ (ntW k na nt ++ ([(xm, hcS k 4 xmr)] ++ ([(xg, hcZ k 4 xgr)] ++ ([((sb 0), .inr (4, [.ref (xb 0), .ref (cb 0), .ref (nb 0), .int (sj 3), .int (sj 4)]))] ++ (rmW k xb rn ++ (acW k cb ae ++ (ntW k nb nu))))))))))) → va_S A s.heap H locs → lv_has ls 2 [] → W p l e (rmK 4 0 0) s m (List.toArray [.ref (xo 0), .int x1]) below meth c H locs 0 0 (MQ below (va_Qi (fun r (_ : Unit) => r = res.1) (hcB D (fun _ : Unit => [((xo 0), .inr (6, [.ref (ta 0), .ref xr, .int (xi 2), .ref (sa 0), .ref xm, .ref xg, .ref (tr 0), .ref xs, .ref xp, .ref xq, .ref xe, .ref xt]))] ++ ([((sa 0), .inr (4, [.ref (xa 0), .ref (ca 0), .ref (na 0), .int (res.2.1 3), .int (res.2.1 4)]))] ++ (rmW k xa res.2.2.1 ++ (acW k ca res.2.2.2.1 ++ (ntW k na res.2.2.2.2 ++ ([(xm, hcS k 4 xmr)] ++ ([(xg, hcZ k 4 xgr)] ++ ([((sb 0), .inr (4, [.ref (xb 0), .ref (cb 0), .ref (nb 0), .int (sj 3), .int (sj 4)]))] ++ (rmW k xb rn ++ (acW k cb ae ++ (ntW k nb nu))))))))))) A) A) (List.toArray [.ref (xo 0), .int x1]) s 0 0 A) (F0 m 18 ls []) := by
    intro si rm ac nt H locs ls h hP hD hS hl
    refine lv_iconst (v := (-1)) hx hb dX8_back_18 (by decide) ?_
    exact fw_endI (rv := fun b : Int32 × (Nat → Int32) × OB × OB × OB => b.1) (wp := fun b : Int32 × (Nat → Int32) × OB × OB × OB => [((xo 0), .inr (6, [.ref (ta 0), .ref xr, .int (xi 2), .ref (sa 0), .ref xm, .ref xg, .ref (tr 0), .ref xs, .ref xp, .ref xq, .ref xe, .ref xt]))] ++ ([((sa 0), .inr (4, [.ref (xa 0), .ref (ca 0), .ref (na 0), .int (b.2.1 3), .int (b.2.1 4)]))] ++ (rmW k xa b.2.2.1 ++ (acW k ca b.2.2.2.1 ++ (ntW k na b.2.2.2.2 ++ ([(xm, hcS k 4 xmr)] ++ ([(xg, hcZ k 4 xgr)] ++ ([((sb 0), .inr (4, [.ref (xb 0), .ref (cb 0), .ref (nb 0), .int (sj 3), .int (sj 4)]))] ++ (rmW k xb rn ++ (acW k cb ae ++ (ntW k nb nu))))))))))) hx hb hr hlocks h rfl hP hD hS dX8_back_19
  refine lv_iload_n hx hb dX8_back_0 rfl (lv_at hl 1 rfl) ?_
  refine lv_if_lt (tgt := 18) hx hb dX8_back_1 (by decide) (fun c1 => ?_) (fun c1 => ?_)
  · have h := fw_t c1 h
    exact B18 _ _ _ _ _ _ _ h hP hD hS (lv_sub hl [] rfl)
  · have h := fw_f c1 h
    refine lv_iload_n hx hb dX8_back_4 rfl (lv_at hl 1 rfl) ?_
    refine lv_iconst (v := 4) hx hb dX8_back_5 (by decide) ?_
    refine lv_icmp_ge (tgt := 18) hx hb dX8_back_6 (by decide) (fun c2 => ?_) (fun c2 => ?_)
    · have h := fw_t c2 h
      exact B18 _ _ _ _ _ _ _ h hP hD hS (lv_sub hl [] rfl)
    · have h := fw_f c2 h
      refine lv_aload_n hx hb dX8_back_9 rfl (lv_at hl 0 rfl) ?_
      refine va_get (D := D) (ci := 6) (v := .ref xg) (C := RX8) (T := TX8) (N := 12) hx hb hts in8 hown hG.1 hP 0 rfl rfl 5 (by decide) (hts (.fieldLink RX8 37 "ChairCane" "imageMade" "[Z") (by decide +kernel)) (fun _ h9 => h9) rfl dX8_back_10 ?_
      refine lv_iload_n hx hb dX8_back_13 rfl (lv_at hl 1 rfl) ?_
      obtain ⟨g3, h⟩ := fw_g h
      refine va_zald hx hb hG.1 hP 20 2 rfl rfl (ib_vp g3) dX8_back_14 ?_
      refine lv_if_ne (tgt := 20) hx hb dX8_back_15 (by decide) (fun c4 => ?_) (fun c4 => ?_)
      · have h := fw_f c4 h
        refine lv_aload_n hx hb dX8_back_20 rfl (lv_at hl 0 rfl) ?_
        refine va_get (D := D) (ci := 6) (v := .ref (sa 0)) (C := RX8) (T := TX8) (N := 12) hx hb hts in8 hown hG.1 hP 0 rfl rfl 3 (by decide) (hts (.fieldLink RX8 29 "ChairCane" "now" "LChairCane$Standing;") (by decide +kernel)) (fun _ h9 => h9) rfl dX8_back_21 ?_
        refine lv_aload_n hx hb dX8_back_24 rfl (lv_at hl 0 rfl) ?_
        refine va_get (D := D) (ci := 6) (v := .ref xm) (C := RX8) (T := TX8) (N := 12) hx hb hts in8 hown hG.1 hP 0 rfl rfl 4 (by decide) (hts (.fieldLink RX8 33 "ChairCane" "images" "[LChairCane$Standing;") (by decide +kernel)) (fun _ h9 => h9) rfl dX8_back_25 ?_
        refine lv_iload_n hx hb dX8_back_28 rfl (lv_at hl 1 rfl) ?_
        refine va_aldq hx hb hG.1 hP 19 5 rfl rfl (ib_vp g3) dX8_back_29 ?_
        refine hc_isV (z := .ref (sb 0)) (congrArg va_rf (hq g3)) ?_
        refine fw_Vv (As := [.ref (sb 0)]) (rest := []) (n := 1) (wr := [((xo 0), .inr (6, [.ref (ta 0), .ref xr, .int (xi 2), .ref (sa 0), .ref xm, .ref xg, .ref (tr 0), .ref xs, .ref xp, .ref xq, .ref xe, .ref xt]))] ++ ([(xm, hcS k 4 xmr)] ++ ([(xg, hcZ k 4 xgr)]))) (wp := fun b : (Nat → Int32) × OB × OB × OB => [((sa 0), .inr (4, [.ref (xa 0), .ref (ca 0), .ref (na 0), .int (b.1 3), .int (b.1 4)]))] ++ (rmW k xa b.2.1 ++ (acW k ca b.2.2.1 ++ (ntW k na b.2.2.2 ++ ([((sb 0), .inr (4, [.ref (xb 0), .ref (cb 0), .ref (nb 0), .int (sj 3), .int (sj 4)]))] ++ (rmW k xb rn ++ (acW k cb ae ++ (ntW k nb nu)))))))) h hx hb hml hown hts hG hA hP hD hS hl.1 [1, 2, 3, 4, 5, 6, 7, 8, 9, 10, 11, 12, 13, 14, 15, 16, 17, 18, 21, 22, 23, 24, 25, 26, 27, 28, 29, 30, 31, 32, 33, 34, 35, 36, 37, 38] [0, 19, 20] (fun q hq9 => c_X6_copyFrom l D k _  sa xa ca na sb xb cb nb F  si rm ac nt sj rn ae nu  hq9) (ci := 4) (q0 := 1) rfl rfl gX8_back_X6_copyFrom rfl ⟨rfl, rfl, Nat.le_of_ble_eq_true rfl, Nat.le_of_ble_eq_true rfl⟩ (by decide +kernel) rfl rfl ⟨by decide, by decide, by decide⟩ ⟨rfl, rfl, Nat.le_of_ble_eq_true rfl, Nat.le_of_ble_eq_true rfl, Nat.le_of_ble_eq_true rfl⟩ dX8_back_30 (fun q5 H locs h hP hD hS => ?_)
        have hP : va_P D vwCl ([((xo 0), .inr (6, [.ref (ta 0), .ref xr, .int (xi 2), .ref (sa 0), .ref xm, .ref xg, .ref (tr 0), .ref xs, .ref xp, .ref xq, .ref xe, .ref xt]))] ++ ([(xm, hcS k 4 xmr)] ++ ([(xg, hcZ k 4 xgr)] ++ ([((sa 0), .inr (4, [.ref (xa 0), .ref (ca 0), .ref (na 0), .int (q5.1 3), .int (q5.1 4)]))] ++ (rmW k xa q5.2.1 ++ (acW k ca q5.2.2.1 ++ (ntW k na q5.2.2.2 ++ ([((sb 0), .inr (4, [.ref (xb 0), .ref (cb 0), .ref (nb 0), .int (sj 3), .int (sj 4)]))] ++ (rmW k xb rn ++ (acW k cb ae ++ (ntW k nb nu))))))))))) H := hP
        have hD : va_D A ([((xo 0), .inr (6, [.ref (ta 0), .ref xr, .int (xi 2), .ref (sa 0), .ref xm, .ref xg, .ref (tr 0), .ref xs, .ref xp, .ref xq, .ref xe, .ref xt]))] ++ ([(xm, hcS k 4 xmr)] ++ ([(xg, hcZ k 4 xgr)] ++ ([((sa 0), .inr (4, [.ref (xa 0), .ref (ca 0), .ref (na 0), .int (q5.1 3), .int (q5.1 4)]))] ++ (rmW k xa q5.2.1 ++ (acW k ca q5.2.2.1 ++ (ntW k na q5.2.2.2 ++ ([((sb 0), .inr (4, [.ref (xb 0), .ref (cb 0), .ref (nb 0), .int (sj 3), .int (sj 4)]))] ++ (rmW k xb rn ++ (acW k cb ae ++ (ntW k nb nu))))))))))) := hD
        refine lv_aload_n hx hb dX8_back_33 rfl (lv_at hl 0 rfl) ?_
        refine va_get (D := D) (ci := 6) (v := .ref (sa 0)) (C := RX8) (T := TX8) (N := 12) hx hb hts in8 hown hG.1 hP 0 rfl rfl 3 (by decide) (hts (.fieldLink RX8 29 "ChairCane" "now" "LChairCane$Standing;") (by decide +kernel)) (fun _ h9 => h9) rfl dX8_back_34 ?_
        refine va_get (D := D) (ci := 4) (v := .ref (xa 0)) (C := RX6) (T := TX6) (N := 5) hx hb hts in6 hown hG.1 hP 3 rfl rfl 0 (by decide) (hts (.fieldLink RX8 81 "ChairCane$Standing" "room" "LChairCane$Room;") (by decide +kernel)) (fun _ h9 => h9) rfl dX8_back_37 ?_
        refine va_get (D := D) (ci := 2) (v := .int (q5.2.1.1 12)) (C := RX3) (T := TX3) (N := 17) hx hb hts in3 hown hG.1 hP 4 rfl rfl 12 (by decide) (hts (.fieldLink RX8 154 "ChairCane$Room" "minute" "I") (by decide +kernel)) (fun _ h9 => h9) rfl dX8_back_40 ?_
        exact fw_endI (rv := fun b : Int32 × (Nat → Int32) × OB × OB × OB => b.1) (wp := fun b : Int32 × (Nat → Int32) × OB × OB × OB => [((xo 0), .inr (6, [.ref (ta 0), .ref xr, .int (xi 2), .ref (sa 0), .ref xm, .ref xg, .ref (tr 0), .ref xs, .ref xp, .ref xq, .ref xe, .ref xt]))] ++ ([((sa 0), .inr (4, [.ref (xa 0), .ref (ca 0), .ref (na 0), .int (b.2.1 3), .int (b.2.1 4)]))] ++ (rmW k xa b.2.2.1 ++ (acW k ca b.2.2.2.1 ++ (ntW k na b.2.2.2.2 ++ ([(xm, hcS k 4 xmr)] ++ ([(xg, hcZ k 4 xgr)] ++ ([((sb 0), .inr (4, [.ref (xb 0), .ref (cb 0), .ref (nb 0), .int (sj 3), .int (sj 4)]))] ++ (rmW k xb rn ++ (acW k cb ae ++ (ntW k nb nu))))))))))) hx hb hr hlocks h rfl (hP.sub [0, 3, 4, 5, 6, 7, 8, 9, 10, 11, 12, 13, 14, 15, 16, 17, 18, 19, 20, 1, 2, 21, 22, 23, 24, 25, 26, 27, 28, 29, 30, 31, 32, 33, 34, 35, 36, 37, 38] rfl) (hD.sub [0, 3, 4, 5, 6, 7, 8, 9, 10, 11, 12, 13, 14, 15, 16, 17, 18, 19, 20, 1, 2, 21, 22, 23, 24, 25, 26, 27, 28, 29, 30, 31, 32, 33, 34, 35, 36, 37, 38] (by decide) rfl) hS dX8_back_43
      · have h := fw_t c4 h
        exact B18 _ _ _ _ _ _ _ h hP hD hS (lv_sub hl [] rfl)
