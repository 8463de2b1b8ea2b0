/-! the law from its entry, and the claim -/
theorem dL_law_0 : decode cL_law 0 = .ok (.new 7, 3) := by decide +kernel
theorem dL_law_3 : decode cL_law 3 = .ok (.dup, 1) := by decide +kernel
theorem dL_law_4 : decode cL_law 4 = .ok (.invokespecial 9, 3) := by decide +kernel
theorem dL_law_7 : decode cL_law 7 = .ok (.astore_n 1, 1) := by decide +kernel
theorem dL_law_8 : decode cL_law 8 = .ok (.new 10, 3) := by decide +kernel
theorem dL_law_11 : decode cL_law 11 = .ok (.dup, 1) := by decide +kernel
theorem dL_law_12 : decode cL_law 12 = .ok (.invokespecial 12, 3) := by decide +kernel
theorem dL_law_15 : decode cL_law 15 = .ok (.astore_n 2, 1) := by decide +kernel
theorem dL_law_16 : decode cL_law 16 = .ok (.iconst 0, 1) := by decide +kernel
theorem dL_law_17 : decode cL_law 17 = .ok (.istore_n 3, 1) := by decide +kernel
theorem dL_law_27 : decode cL_law 27 = .ok (.aload_n 0, 1) := by decide +kernel
theorem dL_law_28 : decode cL_law 28 = .ok (.iload_n 3, 1) := by decide +kernel
theorem dL_law_29 : decode cL_law 29 = .ok (.iaload, 1) := by decide +kernel
theorem dL_law_30 : decode cL_law 30 = .ok (.bipush 63, 2) := by decide +kernel
theorem dL_law_32 : decode cL_law 32 = .ok (.iand, 1) := by decide +kernel
theorem dL_law_33 : decode cL_law 33 = .ok (.tableswitch 1093 0 33 #[151, 214, 237, 250, 263, 286, 309, 342, 375, 388, 411, 434, 457, 490, 503, 546, 569, 592, 615, 638, 661, 684, 717, 740, 793, 816, 849, 892, 915, 948, 971, 1024, 1047, 1070], 151) := by decide +kernel
set_option maxHeartbeats 4000000 in
set_option maxRecDepth 100000 in
theorem whole_start {p : Program} {e : Env} {s : State} {m : MethodId} {below : List Frame} {meth : Method} {c : Code} (l : Launch) {b L : Nat} {xs : Nat → Int32} (hL : L ≤ 6) (C0 : lw_At p s m meth c b L xs) : W p l e room_1 s m #[Value.ref b] below meth c s.heap [] 0 0 (lw_Z below #[Value.ref b] s) (entryFrame m ([Value.ref b] : List Value).toArray 4) := by
  obtain ⟨hx, hb, hr, hml, hown, hts, hX, hbl, hlocks, hgv⟩ := id C0
  have hown : s.vm.findClass RL = some m.cls := hown
  have hA : ∀ q : Nat, s.heap.size ≤ q → (fun q : Nat => s.heap.size ≤ q) q := fun _ h => h
  have hbA : ¬ (fun q : Nat => s.heap.size ≤ q) b := Nat.not_le.mpr hbl
  obtain ⟨D, k, hG⟩ := law_GK hts
  obtain ⟨ad, tv, hE⟩ := law_texts hts hgv
  have hS : va_S (fun q : Nat => s.heap.size ≤ q) s.heap s.heap [] := va_S.rf
  have hP : va_P D vwCl [] s.heap := fun k q h => by simp at h
  have hD : va_D (fun q : Nat => s.heap.size ≤ q) [] := ⟨fun i j p q h => by simp at h, fun k q h => by simp at h⟩
  have hl := lv_entry ([.ref b]) (n := 4) (Nat.le_of_ble_eq_true rfl)
  rw [lg_entry_eq]
  generalize (lg_sl ([.ref b]) ++ List.replicate (4 - (lg_sl ([.ref b])).length) Slot.unset).toArray = ls at hl ⊢
  have hl : lv_has ls 4 [(0, .ref b)] := hl
  refine va_new (ci := 6) (fs := [.null, .null, .int 0, .null, .null, .null, .null, .null, .null, .null, .null, .null]) (C := RX8) (T := TX8) (N := 12) hx hb hts inX8 tyX8 tyX8_ok hown (hts (.classLink RL 7 RX8) (List.mem_of_getElem? (i := 105) (by decide +kernel))) (hts (.instantiable RX8 12) (List.mem_of_getElem? (i := 106) (by decide +kernel))) (hts (.initialized RX8) (List.mem_of_getElem? (i := 87) (by decide +kernel))) hG.1 hP hD hS hA rfl (fun j hj => match j, hj with | 0, _ => rfl | 1, _ => rfl | 2, _ => rfl | 3, _ => rfl | 4, _ => rfl | 5, _ => rfl | 6, _ => rfl | 7, _ => rfl | 8, _ => rfl | 9, _ => rfl | 10, _ => rfl | 11, _ => rfl | n + 12, h => absurd h (by omega)) (Nat.le_of_ble_eq_true rfl) (Nat.le_of_ble_eq_true rfl) dL_law_0 (fun qx H hP hD hS => ?_)
  have hP : va_P D vwCl ([(qx, .inr (6, [.null, .null, .int 0, .null, .null, .null, .null, .null, .null, .null, .null, .null]))]) H := hP
  have hD : va_D (fun q : Nat => s.heap.size ≤ q) ([(qx, .inr (6, [.null, .null, .int 0, .null, .null, .null, .null, .null, .null, .null, .null, .null]))]) := hD
  refine lv_dup hx hb dL_law_3 rfl ?_
  refine hc_I (As := []) (rest := [.ref qx]) (n := 0) (wr := []) hx hb hml hown hts hG hA hP hD hS hl.1 [0] [] (c_X8_init l D k _ qx) ggL_law_X8_init rfl ⟨rfl, rfl, Nat.le_of_ble_eq_true rfl, Nat.le_of_ble_eq_true rfl⟩ (hts (.initialized RX8) (List.mem_of_getElem? (i := 87) (by decide +kernel))) (hts (.methodLink RL 9 yX8_init) (List.mem_of_getElem? (i := 107) (by decide +kernel))) (hts (.instanceMethod yX8_init) (List.mem_of_getElem? (i := 108) (by decide +kernel))) rfl (by decide +kernel) rfl rfl ⟨by decide, by decide, by decide⟩ ⟨rfl, rfl, Nat.le_of_ble_eq_true rfl, Nat.le_of_ble_eq_true rfl, Nat.le_of_ble_eq_true rfl⟩ dL_law_4 (fun u H locs hw hP hD hS => ?_)
  obtain ⟨q, qt, qn, i0, i1, i2, i3⟩ := u
  have hP : va_P D vwCl (chairZ k qx q qt qn i0 i1 i2 i3) H := hP
  have hD : va_D (fun q : Nat => s.heap.size ≤ q) (chairZ k qx q qt qn i0 i1 i2 i3) := hD
  refine lv_astore_n (lv' := [(1, .ref qx), (0, .ref b)]) hx hb dL_law_7 rfl hl (by decide) rfl (fun ls hl => ?_)
  refine va_new (ci := 7) (fs := [.int 0, .null, .null, .null, .null, .null, .null, .null, .null, .null, .null, .null, .null, .null, .null, .null, .null, .null, .int 0, .int 0, .int 0, .int 0, .int 0, .int 0, .int 0, .int 0, .int 0, .int 0, .null, .null, .null, .null, .null, .null, .null, .null, .null, .null, .null, .null, .null, .int 0, .int 0, .int 0, .null, .null, .null, .null, .null, .null, .null, .int 0, .int 0]) (C := RX9) (T := TX9) (N := 53) hx hb hts inX9 tyX9 tyX9_ok hown (hts (.classLink RL 10 RX9) (List.mem_of_getElem? (i := 947) (by decide +kernel))) (hts (.instantiable RX9 53) (List.mem_of_getElem? (i := 948) (by decide +kernel))) (hts (.initialized RX9) (List.mem_of_getElem? (i := 94) (by decide +kernel))) hG.1 hP hD hS hA rfl (fun j hj => match j, hj with | 0, _ => rfl | 1, _ => rfl | 2, _ => rfl | 3, _ => rfl | 4, _ => rfl | 5, _ => rfl | 6, _ => rfl | 7, _ => rfl | 8, _ => rfl | 9, _ => rfl | 10, _ => rfl | 11, _ => rfl | 12, _ => rfl | 13, _ => rfl | 14, _ => rfl | 15, _ => rfl | 16, _ => rfl | 17, _ => rfl | 18, _ => rfl | 19, _ => rfl | 20, _ => rfl | 21, _ => rfl | 22, _ => rfl | 23, _ => rfl | 24, _ => rfl | 25, _ => rfl | 26, _ => rfl | 27, _ => rfl | 28, _ => rfl | 29, _ => rfl | 30, _ => rfl | 31, _ => rfl | 32, _ => rfl | 33, _ => rfl | 34, _ => rfl | 35, _ => rfl | 36, _ => rfl | 37, _ => rfl | 38, _ => rfl | 39, _ => rfl | 40, _ => rfl | 41, _ => rfl | 42, _ => rfl | 43, _ => rfl | 44, _ => rfl | 45, _ => rfl | 46, _ => rfl | 47, _ => rfl | 48, _ => rfl | 49, _ => rfl | 50, _ => rfl | 51, _ => rfl | 52, _ => rfl | n + 53, h => absurd h (by omega)) (Nat.le_of_ble_eq_true rfl) (Nat.le_of_ble_eq_true rfl) dL_law_8 (fun qm H hP hD hS => ?_)
  have hP : va_P D vwCl (chairZ k qx q qt qn i0 i1 i2 i3 ++ ([(qm, .inr (7, [.int 0, .null, .null, .null, .null, .null, .null, .null, .null, .null, .null, .null, .null, .null, .null, .null, .null, .null, .int 0, .int 0, .int 0, .int 0, .int 0, .int 0, .int 0, .int 0, .int 0, .int 0, .null, .null, .null, .null, .null, .null, .null, .null, .null, .null, .null, .null, .null, .int 0, .int 0, .int 0, .null, .null, .null, .null, .null, .null, .null, .int 0, .int 0]))])) H := hP
  have hD : va_D (fun q : Nat => s.heap.size ≤ q) (chairZ k qx q qt qn i0 i1 i2 i3 ++ ([(qm, .inr (7, [.int 0, .null, .null, .null, .null, .null, .null, .null, .null, .null, .null, .null, .null, .null, .null, .null, .null, .null, .int 0, .int 0, .int 0, .int 0, .int 0, .int 0, .int 0, .int 0, .int 0, .int 0, .null, .null, .null, .null, .null, .null, .null, .null, .null, .null, .null, .null, .null, .int 0, .int 0, .int 0, .null, .null, .null, .null, .null, .null, .null, .int 0, .int 0]))])) := hD
  refine lv_dup hx hb dL_law_11 rfl ?_
  refine hc_I (As := []) (rest := [.ref qm]) (n := 0) (wr := chairZ k qx q qt qn i0 i1 i2 i3) hx hb hml hown hts hG hA hP hD hS hl.1 [101] [0, 1, 2, 3, 4, 5, 6, 7, 8, 9, 10, 11, 12, 13, 14, 15, 16, 17, 18, 19, 20, 21, 22, 23, 24, 25, 26, 27, 28, 29, 30, 31, 32, 33, 34, 35, 36, 37, 38, 39, 40, 41, 42, 43, 44, 45, 46, 47, 48, 49, 50, 51, 52, 53, 54, 55, 56, 57, 58, 59, 60, 61, 62, 63, 64, 65, 66, 67, 68, 69, 70, 71, 72, 73, 74, 75, 76, 77, 78, 79, 80, 81, 82, 83, 84, 85, 86, 87, 88, 89, 90, 91, 92, 93, 94, 95, 96, 97, 98, 99, 100] (c_X9_init l D k _ qm) ggL_law_X9_init rfl ⟨rfl, rfl, Nat.le_of_ble_eq_true rfl, Nat.le_of_ble_eq_true rfl⟩ (hts (.initialized RX9) (List.mem_of_getElem? (i := 94) (by decide +kernel))) (hts (.methodLink RL 12 yX9_init) (List.mem_of_getElem? (i := 949) (by decide +kernel))) (hts (.instanceMethod yX9_init) (List.mem_of_getElem? (i := 950) (by decide +kernel))) rfl (by decide +kernel) rfl rfl ⟨by decide, by decide, by decide⟩ ⟨rfl, rfl, Nat.le_of_ble_eq_true rfl, Nat.le_of_ble_eq_true rfl, Nat.le_of_ble_eq_true rfl⟩ dL_law_12 (fun v H locs hw hP hD hS => ?_)
  have hP : va_P D vwCl (chairZ k qx q qt qn i0 i1 i2 i3 ++ modelZ k qm v) H := hP
  have hD : va_D (fun q : Nat => s.heap.size ≤ q) (chairZ k qx q qt qn i0 i1 i2 i3 ++ modelZ k qm v) := hD
  refine lv_astore_n (lv' := [(2, .ref qm), (1, .ref qx), (0, .ref b)]) hx hb dL_law_15 rfl hl (by decide) rfl (fun ls hl => ?_)
  refine lv_iconst (v := 0) hx hb dL_law_16 (by decide) ?_
  refine lv_istore_n (lv' := [(3, .int 0), (2, .ref qm), (1, .ref qx), (0, .ref b)]) hx hb dL_law_17 rfl hl (by decide) rfl (fun ls hl => ?_)
  refine W.widen (k := 187) (n := 14115) (Nat.le_of_ble_eq_true rfl) (Nat.le_of_ble_eq_true rfl) ?_
  refine lv_iload_n hx hb dL_law_18 rfl (lv_at hl 0 rfl) ?_
  refine lv_aload_n hx hb dL_law_19 rfl (lv_at hl 3 rfl) ?_
  refine va_slen hx hb hX hbl hbA hS dL_law_20 ?_
  refine lv_bipush (v := 6) hx hb dL_law_21 (by decide) ?_
  refine lv_isub hx hb dL_law_23 ?_
  rcases Nat.lt_or_ge L 6 with hlt | hge
  · refine lv_icmp_gt (tgt := 1132) hx hb dL_law_24 (by decide) (fun _ => ?_) (fun h => absurd (pk_sneg (a := L) (b := 6) (by decide) hlt) h)
    refine lv_iconst (v := 1) hx hb dL_law_1132 (by decide) ?_
    refine va_forget (fun q hq => hS.2.2 q hq) ?_
    refine W.widen (k := 600000) (n := 7302250) (Nat.le_of_ble_eq_true rfl) (Nat.le_of_ble_eq_true rfl) ?_
    exact lw_ret hx hb hr hlocks dL_law_1133
  · obtain rfl : L = 6 := Nat.le_antisymm hL hge
    refine lv_icmp_gt (tgt := 1132) hx hb dL_law_24 (by decide) (fun h => absurd h (by decide)) (fun _ => ?_)
    refine lv_aload_n hx hb dL_law_27 rfl (lv_at hl 3 rfl) ?_
    refine lv_iload_n hx hb dL_law_28 rfl (lv_at hl 0 rfl) ?_
    refine va_sld hx hb hX hbl hbA hS (i := 0) (by unfold vp_in; decide) dL_law_29 ?_
    refine lv_bipush (v := 63) hx hb dL_law_30 (by decide) ?_
    refine lv_iand hx hb dL_law_32 ?_
    refine lv_topi (fun z ez => ?_)
    rcases sp_d34 z with hO | rfl | rfl | rfl | rfl | rfl | rfl | rfl | rfl | rfl | rfl | rfl | rfl | rfl | rfl | rfl | rfl | rfl | rfl | rfl | rfl | rfl | rfl | rfl | rfl | rfl | rfl | rfl | rfl | rfl | rfl | rfl | rfl | rfl | rfl
    · refine lv_tableOut (tgt := 1126) hx hb dL_law_33 hO (by decide) ?_
      exact law_tail l C0 (Nat.le_of_ble_eq_true rfl) (Nat.le_of_ble_eq_true rfl) hS hl
    · refine lv_tableIn (tgt := 184) hx hb dL_law_33 (by decide) (by decide) (by rfl) (by decide) ?_
      exact law_case_0 l C0 hG hE hP hD hS hl
    · refine lv_tableIn (tgt := 247) hx hb dL_law_33 (by decide) (by decide) (by rfl) (by decide) ?_
      exact law_case_1 l C0 hG hE hP hD hS hl
    · refine lv_tableIn (tgt := 270) hx hb dL_law_33 (by decide) (by decide) (by rfl) (by decide) ?_
      exact law_case_2 l C0 hG hE hP hD hS hl
    · refine lv_tableIn (tgt := 283) hx hb dL_law_33 (by decide) (by decide) (by rfl) (by decide) ?_
      exact law_case_3 l C0 hG hE hP hD hS hl
    · refine lv_tableIn (tgt := 296) hx hb dL_law_33 (by decide) (by decide) (by rfl) (by decide) ?_
      exact law_case_4 l C0 hG hE hP hD hS hl
    · refine lv_tableIn (tgt := 319) hx hb dL_law_33 (by decide) (by decide) (by rfl) (by decide) ?_
      exact law_case_5 l C0 hG hE hP hD hS hl
    · refine lv_tableIn (tgt := 342) hx hb dL_law_33 (by decide) (by decide) (by rfl) (by decide) ?_
      exact law_case_6 l C0 hG hE hP hD hS hl
    · refine lv_tableIn (tgt := 375) hx hb dL_law_33 (by decide) (by decide) (by rfl) (by decide) ?_
      exact law_case_7 l C0 hG hE hP hD hS hl
    · refine lv_tableIn (tgt := 408) hx hb dL_law_33 (by decide) (by decide) (by rfl) (by decide) ?_
      exact law_case_8 l C0 hG hE hP hD hS hl
    · refine lv_tableIn (tgt := 421) hx hb dL_law_33 (by decide) (by decide) (by rfl) (by decide) ?_
      exact law_case_9 l C0 hG hE hP hD hS hl
    · refine lv_tableIn (tgt := 444) hx hb dL_law_33 (by decide) (by decide) (by rfl) (by decide) ?_
      exact law_case_10 l C0 hG hE hP hD hS hl
    · refine lv_tableIn (tgt := 467) hx hb dL_law_33 (by decide) (by decide) (by rfl) (by decide) ?_
      exact law_case_11 l C0 hG hE hP hD hS hl
    · refine lv_tableIn (tgt := 490) hx hb dL_law_33 (by decide) (by decide) (by rfl) (by decide) ?_
      exact law_case_12 l C0 hG hE hP hD hS hl
    · refine lv_tableIn (tgt := 523) hx hb dL_law_33 (by decide) (by decide) (by rfl) (by decide) ?_
      exact law_case_13 l C0 hG hE hP hD hS hl
    · refine lv_tableIn (tgt := 536) hx hb dL_law_33 (by decide) (by decide) (by rfl) (by decide) ?_
      exact law_case_14 l C0 hG hE hP hD hS hl
    · refine lv_tableIn (tgt := 579) hx hb dL_law_33 (by decide) (by decide) (by rfl) (by decide) ?_
      exact law_case_15 l C0 hG hE hP hD hS hl
    · refine lv_tableIn (tgt := 602) hx hb dL_law_33 (by decide) (by decide) (by rfl) (by decide) ?_
      exact law_case_16 l C0 hG hE hP hD hS hl
    · refine lv_tableIn (tgt := 625) hx hb dL_law_33 (by decide) (by decide) (by rfl) (by decide) ?_
      exact law_case_17 l C0 hG hE hP hD hS hl
    · refine lv_tableIn (tgt := 648) hx hb dL_law_33 (by decide) (by decide) (by rfl) (by decide) ?_
      exact law_case_18 l C0 hG hE hP hD hS hl
    · refine lv_tableIn (tgt := 671) hx hb dL_law_33 (by decide) (by decide) (by rfl) (by decide) ?_
      exact law_case_19 l C0 hG hE hP hD hS hl
    · refine lv_tableIn (tgt := 694) hx hb dL_law_33 (by decide) (by decide) (by rfl) (by decide) ?_
      exact law_case_20 l C0 hG hE hP hD hS hl
    · refine lv_tableIn (tgt := 717) hx hb dL_law_33 (by decide) (by decide) (by rfl) (by decide) ?_
      exact law_case_21 l C0 hG hE hP hD hS hl
    · refine lv_tableIn (tgt := 750) hx hb dL_law_33 (by decide) (by decide) (by rfl) (by decide) ?_
      exact law_case_22 l C0 hG hE hP hD hS hl
    · refine lv_tableIn (tgt := 773) hx hb dL_law_33 (by decide) (by decide) (by rfl) (by decide) ?_
      exact law_case_23 l C0 hG hE hP hD hS hl
    · refine lv_tableIn (tgt := 826) hx hb dL_law_33 (by decide) (by decide) (by rfl) (by decide) ?_
      exact law_case_24 l C0 hG hE hP hD hS hl
    · refine lv_tableIn (tgt := 849) hx hb dL_law_33 (by decide) (by decide) (by rfl) (by decide) ?_
      exact law_case_25 l C0 hG hE hP hD hS hl
    · refine lv_tableIn (tgt := 882) hx hb dL_law_33 (by decide) (by decide) (by rfl) (by decide) ?_
      exact law_case_26 l C0 hG hE hP hD hS hl
    · refine lv_tableIn (tgt := 925) hx hb dL_law_33 (by decide) (by decide) (by rfl) (by decide) ?_
      exact law_case_27 l C0 hG hE hP hD hS hl
    · refine lv_tableIn (tgt := 948) hx hb dL_law_33 (by decide) (by decide) (by rfl) (by decide) ?_
      exact law_case_28 l C0 hG hE hP hD hS hl
    · refine lv_tableIn (tgt := 981) hx hb dL_law_33 (by decide) (by decide) (by rfl) (by decide) ?_
      exact law_case_29 l C0 hG hE hP hD hS hl
    · refine lv_tableIn (tgt := 1004) hx hb dL_law_33 (by decide) (by decide) (by rfl) (by decide) ?_
      exact law_case_30 l C0 hG hE hP hD hS hl
    · refine lv_tableIn (tgt := 1057) hx hb dL_law_33 (by decide) (by decide) (by rfl) (by decide) ?_
      exact law_case_31 l C0 hG hE hP hD hS hl
    · refine lv_tableIn (tgt := 1080) hx hb dL_law_33 (by decide) (by decide) (by rfl) (by decide) ?_
      exact law_case_32 l C0 hG hE hP hD hS hl
    · refine lv_tableIn (tgt := 1103) hx hb dL_law_33 (by decide) (by decide) (by rfl) (by decide) ?_
      exact law_case_33 l C0 hG hE hP hD hS hl
-- ===== YOUR PART ENDS =====
set_option maxHeartbeats 4000000 in
theorem lw_walk (l : Launch) (b : Addr) (xs : List Int32) : MetFree l x (headSpec (Jvm.Cond.code x code maxLocals ret :: tables_1) room_1) (lw_P b xs) (fun _ _ _ _ _ => True) lw_Q := by
  refine MetFree.of_bodyS (code := code) (maxLocals := maxLocals) (ret := ret) (by decide) ?_ ?_
  · intro args s m h hn
    obtain ⟨meth, c, h1, h2, h3, h4, h5, h6, -, -⟩ := Cond.code_spec hn (atoms_spec (ws := Jvm.Cond.code x code maxLocals ret :: tables_1) h _ List.mem_cons_self)
    exact ⟨meth, c, h1, h2, h3, h4, h5, h6⟩
  · intro p e s m args below meth c s₁ B hml0 hP _
    obtain ⟨rfl, hx, hbd, hgv⟩ := hP
    obtain ⟨scr, harrAt, hlist, hof, hsmall⟩ := hx
    obtain ⟨hcb, hkn, -, -⟩ := State.arrayAt?_spec harrAt
    have hown : s.vm.findClass R_law = some m.cls := findClass_of_methodNamed B.named
    have hts0 : ∀ c ∈ (Jvm.Cond.code x code maxLocals ret :: tables_1), c.before #[Value.ref b] s = true := atoms_spec (ws := Jvm.Cond.code x code maxLocals ret :: tables_1) B.pre
    have hts : ∀ w ∈ lw_tbl, w.before #[Value.ref b] s = true := k2_hts_sels lw_privs (fun w hw => hts0 w (List.mem_cons_of_mem _ hw)) lw_privs_ok
    have hml : c.maxLocals = 4 := B.maxLocals_eq (hts0 _ List.mem_cons_self)
    have X₀ : Stand p l e room_1 s m #[Value.ref b] below meth c s₁ [] 0 0 := Stand.of_body B
    have hh0 : s₁.heap = s.heap := by rw [B.state]; rfl
    have hsz : scr.slots.size = xs.length := by rw [← Array.length_toList, hlist, List.length_map]
    have hval : ∀ j : Nat, j < xs.length → scr.slots[j]? = some (.int (xs.getD j 0)) := fun j hj => by
      rw [← Array.getElem?_toList, hlist]
      simp [hj]
    have hbl : b < s.heap.size := (Array.getElem?_eq_some_iff.mp hcb).1
    have hX : va_X b xs.length (fun j => xs.getD j 0) s s.heap := ⟨scr, hcb, hof, hkn, hsz, hval⟩
    have K : W p l e room_1 s m #[Value.ref b] below meth c s₁.heap [] 0 0 (lw_Z below #[Value.ref b] s) (entryFrame m ([Value.ref b] : List Value).toArray 4) := by
      rw [hh0]
      exact whole_start l hbd ⟨B.exec, B.bytes, B.returns, hml, hown, hts, hX, hbl, B.notSynchronized, hgv⟩
    obtain ⟨t, a1, o, b1, b2, b3⟩ := K s₁ rfl X₀
    exact ⟨t, o, a1, b1, b2, b3⟩
theorem lw_pre_spec {args : Array Value} {s : State} (h : (Jvm.Cond.and given_1 narrow_1).before args s = true) (hr : rest_1_c.before args s = true) : ∃ (b : Addr) (xs : List Int32), lw_P b xs args s := by
  have hs := flat_of_before _ h
  have hq := flat_of_before _ hr
  have hc : (Cond.count 1).before args s = true := hs _ (by decide +kernel)
  have harr : (Cond.arrayOf (.arg 0) .int).before args s = true := hs _ (by decide +kernel)
  have hle : (Cond.le (.length (.arg 0)) (.int 6)).before args s = true := hs _ (by decide +kernel)
  have hlen : (Cond.isInt (.length (.arg 0))).before args s = true := hq _ (by decide +kernel)
  have hall : (Cond.all (.arg 0) (.isInt (.elem (.arg 0) (.index 0)))).before args s = true := hq _ (by decide +kernel)
  obtain ⟨b, xs, hb, hx⟩ := State.ints_of_pre rfl harr hlen hall
  have hsm : xs.length < 2 ^ 31 := hx.choose_spec.2.2.2
  have hev : (Term.length (.arg 0)).eval args s none [] s = some (.int xs.length.toInt32) := hx.length_eval hb
  have hv := Cond.le_ints hev (show (Term.int 6).eval args s none [] s = some (.int 6) from rfl)
  have hd : xs.length.toInt32 ≤ 6 := by
    simpa [Cond.before, Cond.holds, hv] using hle
  have hN : xs.length ≤ 6 := (Int32.ofNat_le_ofNat hsm (by decide)).mp (show Int32.ofNat xs.length ≤ Int32.ofNat 6 from hd)
  exact ⟨b, xs, Cond.one_arg hc (show args[0]? = some (.ref b) from hb), hx, hN, h⟩
theorem lw_comes (l : Launch) : Comes l x (Jvm.Cond.code x code maxLocals ret :: tables_1) room_1 (fun tb e args s => Calls_1 tb e args s ∧ rest_1 tb e args s ∧ Pre_1 tb e args s)
    (fun _ _ args s o t => lw_Q args s o t) := by
  intro p e ha hc hk s m args below hf hfit hheap happ hpre
  obtain ⟨b, xs, hP⟩ := lw_pre_spec hpre.2.2 hpre.2.1
  obtain ⟨k, o, h1, h2, h3, hQ⟩ := lw_walk l b xs p e ha hc hk s m args below hf ((Spec.applies_iff_loose hf).mp happ).1 hP trivial
  exact ⟨k, o, h1, h2, h3, hQ⟩
theorem lw_frame {s t : State} {o : Outcome} {args : Array Value} (h : Framed s o t [] 600000 7302250) :
    Framed s o t (fieldLocs frame_1_writes args s ++ arrayLocs frame_1_arrays args s ++ staticLocs frame_1_statics s) 600000 7302250 := h
theorem lw_limb (L : Cond) (hL : ∀ (args : Array Value) (s t : State), L.after args s (.returned (some (.int 1))) t = true) :
    ArmFor flags0 classFile x code maxLocals ret World_1 tables_1 room_1 Calls_1 rest_1 Pre_1
      (fun tb e a s o t => postC L tb e a s o t ∧ Framed s o t (fieldLocs frame_1_writes a s ++ arrayLocs frame_1_arrays a s ++ staticLocs frame_1_statics s) 600000 7302250) := by
  intro l _ _ _ p e ha hc hk s m args below hf hfit hheap happ hpre
  obtain ⟨k, o, h1, h2, h3, rfl, hF⟩ := lw_comes l p e ha hc hk s m args below hf hfit hheap happ hpre
  exact ⟨k, _, h1, h2, h3, hL args s _, lw_frame hF⟩
theorem i_vc : Claimed_1_1 ∧ Claimed_1_2 := ⟨lw_limb limb_1_1 (fun args s t => by simp [limb_1_1, Cond.after, Cond.holds, Cond.value]), lw_limb limb_1_2 (fun args s t => Cond.after_iff.mpr (by
  first | (rw [show limb_1_2 = Cond.eq .result (.int 1) from rfl, Cond.eq_ints (x := 1) (y := 1) rfl rfl]; simp; done) | (simp [limb_1_2, Cond.value, Term.eval]; done)))⟩

