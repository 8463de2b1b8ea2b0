/-! the law from its entry, and the claim -/
theorem dL_law_0 : decode cL_law 0 = .ok (.new 7, 3) := of_u2 ok_new 0 7 (od_ca (j := 0) lch_0 (by decide +kernel))
theorem dL_law_3 : decode cL_law 3 = .ok (.dup, 1) := of_0 ok_dup (od_ch (j := 3) lch_0 (by decide +kernel))
theorem dL_law_4 : decode cL_law 4 = .ok (.invokespecial 9, 3) := of_u2 ok_invokespecial 0 9 (od_ca (j := 4) lch_0 (by decide +kernel))
theorem dL_law_7 : decode cL_law 7 = .ok (.astore_n 1, 1) := of_0 ok_astore_n_1 (od_ch (j := 7) lch_0 (by decide +kernel))
theorem dL_law_8 : decode cL_law 8 = .ok (.new 10, 3) := of_u2 ok_new 0 10 (od_ca (j := 8) lch_0 (by decide +kernel))
theorem dL_law_11 : decode cL_law 11 = .ok (.dup, 1) := of_0 ok_dup (od_ch (j := 11) lch_0 (by decide +kernel))
theorem dL_law_12 : decode cL_law 12 = .ok (.invokespecial 12, 3) := of_u2 ok_invokespecial 0 12 (od_ca (j := 12) lch_0 (by decide +kernel))
theorem dL_law_15 : decode cL_law 15 = .ok (.astore_n 2, 1) := of_0 ok_astore_n_2 (od_ch (j := 15) lch_0 (by decide +kernel))
theorem dL_law_16 : decode cL_law 16 = .ok (.iconst 0, 1) := of_0 ok_iconst_0 (od_ch (j := 16) lch_0 (by decide +kernel))
theorem dL_law_17 : decode cL_law 17 = .ok (.istore_n 3, 1) := of_0 ok_istore_n_3 (od_ch (j := 17) lch_0 (by decide +kernel))
theorem dL_law_18 : decode cL_law 18 = .ok (.iload_n 3, 1) := of_0 ok_iload_n_3 (od_ch (j := 18) lch_0 (by decide +kernel))
theorem dL_law_19 : decode cL_law 19 = .ok (.aload_n 0, 1) := of_0 ok_aload_n_0 (od_ch (j := 19) lch_0 (by decide +kernel))
theorem dL_law_20 : decode cL_law 20 = .ok (.arraylength, 1) := of_0 ok_arraylength (od_ch (j := 20) lch_0 (by decide +kernel))
theorem dL_law_21 : decode cL_law 21 = .ok (.bipush 6, 2) := of_s1 ok_bipush 6 (od_ca (j := 21) lch_0 (by decide +kernel))
theorem dL_law_23 : decode cL_law 23 = .ok (.isub, 1) := of_0 ok_isub (od_ch (j := 23) lch_0 (by decide +kernel))
theorem dL_law_24 : decode cL_law 24 = .ok (.if_icmp .gt 1108, 3) := of_s2 ok_if_icmp_gt 4 84 (od_ca (j := 24) lch_0 (by decide +kernel))
theorem dL_law_27 : decode cL_law 27 = .ok (.aload_n 0, 1) := of_0 ok_aload_n_0 (od_ch (j := 27) lch_0 (by decide +kernel))
theorem dL_law_28 : decode cL_law 28 = .ok (.iload_n 3, 1) := of_0 ok_iload_n_3 (od_ch (j := 28) lch_0 (by decide +kernel))
theorem dL_law_29 : decode cL_law 29 = .ok (.iaload, 1) := of_0 ok_iaload (od_ch (j := 29) lch_0 (by decide +kernel))
theorem dL_law_30 : decode cL_law 30 = .ok (.bipush 63, 2) := of_s1 ok_bipush 63 (od_ca (j := 30) lch_0 (by decide +kernel))
theorem dL_law_32 : decode cL_law 32 = .ok (.iand, 1) := of_0 ok_iand (od_ch (j := 32) lch_0 (by decide +kernel))
theorem dL_law_33 : decode cL_law 33 = .ok (.tableswitch 1093 0 33 #[151, 214, 237, 250, 263, 286, 309, 342, 375, 388, 411, 434, 457, 490, 503, 546, 569, 592, 615, 638, 661, 684, 717, 740, 793, 816, 849, 892, 915, 948, 971, 1024, 1047, 1070], 151) := by decide +kernel
theorem dL_law_1126 : decode cL_law 1126 = .ok (.iinc 3 6, 3) := of_ii ok_iinc 6 (od_ca (j := 38) lch_17 (by decide +kernel))
theorem dL_law_1129 : decode cL_law 1129 = .ok (.goto (-1111), 3) := of_s2 ok_goto 251 169 (od_ca (j := 41) lch_17 (by decide +kernel))
theorem dL_law_1132 : decode cL_law 1132 = .ok (.iconst 1, 1) := of_0 ok_iconst_1 (od_ch (j := 44) lch_17 (by decide +kernel))
theorem dL_law_1133 : decode cL_law 1133 = .ok (.ireturn, 1) := of_0 ok_ireturn (od_ch (j := 45) lch_17 (by decide +kernel))
theorem sp_d34 (x : Int32) : (x.toInt < 0 ∨ 33 < x.toInt) ∨ x = 0 ∨ x = 1 ∨ x = 2 ∨ x = 3 ∨ x = 4 ∨ x = 5 ∨ x = 6 ∨ x = 7 ∨ x = 8 ∨ x = 9 ∨ x = 10 ∨ x = 11 ∨ x = 12 ∨ x = 13 ∨ x = 14 ∨ x = 15 ∨ x = 16 ∨ x = 17 ∨ x = 18 ∨ x = 19 ∨ x = 20 ∨ x = 21 ∨ x = 22 ∨ x = 23 ∨ x = 24 ∨ x = 25 ∨ x = 26 ∨ x = 27 ∨ x = 28 ∨ x = 29 ∨ x = 30 ∨ x = 31 ∨ x = 32 ∨ x = 33 := by
  simp only [sp_eq, show (0 : Int32).toInt = 0 from by decide, show (1 : Int32).toInt = 1 from by decide, show (2 : Int32).toInt = 2 from by decide, show (3 : Int32).toInt = 3 from by decide, show (4 : Int32).toInt = 4 from by decide, show (5 : Int32).toInt = 5 from by decide, show (6 : Int32).toInt = 6 from by decide, show (7 : Int32).toInt = 7 from by decide, show (8 : Int32).toInt = 8 from by decide, show (9 : Int32).toInt = 9 from by decide, show (10 : Int32).toInt = 10 from by decide, show (11 : Int32).toInt = 11 from by decide, show (12 : Int32).toInt = 12 from by decide, show (13 : Int32).toInt = 13 from by decide, show (14 : Int32).toInt = 14 from by decide, show (15 : Int32).toInt = 15 from by decide, show (16 : Int32).toInt = 16 from by decide, show (17 : Int32).toInt = 17 from by decide, show (18 : Int32).toInt = 18 from by decide, show (19 : Int32).toInt = 19 from by decide, show (20 : Int32).toInt = 20 from by decide, show (21 : Int32).toInt = 21 from by decide, show (22 : Int32).toInt = 22 from by decide, show (23 : Int32).toInt = 23 from by decide, show (24 : Int32).toInt = 24 from by decide, show (25 : Int32).toInt = 25 from by decide, show (26 : Int32).toInt = 26 from by decide, show (27 : Int32).toInt = 27 from by decide, show (28 : Int32).toInt = 28 from by decide, show (29 : Int32).toInt = 29 from by decide, show (30 : Int32).toInt = 30 from by decide, show (31 : Int32).toInt = 31 from by decide, show (32 : Int32).toInt = 32 from by decide, show (33 : Int32).toInt = 33 from by decide]
  omega
set_option maxHeartbeats 4000000 in
set_option maxRecDepth 100000 in
theorem law_loop {p : Program} {e : Env} {s : State} {m : MethodId} {below : List Frame} {meth : Method} {c : Code} (l : Launch) {b L : Nat} {xs : Nat → Int32} (hL : L ≤ 3072) (C0 : lw_At p s m meth c b L xs) {D : va_G} {k : Nat → ClassId} (hG : GK D k s) {ad tv ad2 tv2 : Nat → Nat} (hE : EX ad tv (A0 s) s) (hE2 : EY ad2 tv2 (A0 s) s) {a ra ia v : Nat → Nat} {rr ii : Nat → Option Nat} (hq : RQ ra ia rr ii) : ∀ (fu : Nat) (i : Int32) (z : CSt) (y : OB), 0 ≤ i.toInt → i.toInt ≤ 4000 → (L : Int) - i.toInt < (fu : Int) → GLs z y → ∀ (H : Heap) (locs : List Loc) (ls : Array Slot), va_P D vwCl (CWs k a ra ia rr ii z ++ moW k v y) H → va_D (A0 s) (CWs k a ra ia rr ii z ++ moW k v y) → va_S (A0 s) s.heap H locs → lv_has ls 4 [(3, .int i), (2, .ref (v 0)), (1, .ref (a 0)), (0, .ref b)] → W p l e room_1 s m #[Value.ref b] below meth c H locs 187 14115 (lw_Z below #[Value.ref b] s) (F0 m 18 ls []) := by
  obtain ⟨hx, hb, hr, hml, hown, hts, hX, hbl, hlocks, hgv⟩ := id C0
  have hbA : ¬ A0 s b := Nat.not_le.mpr hbl
  intro fu
  have fin : ∀ (i : Int32) (z : CSt) (y : OB), (L : Int) - 6 < i.toInt → 0 ≤ i.toInt → i.toInt ≤ 4000 → ∀ (H : Heap) (locs : List Loc) (ls : Array Slot), va_S (A0 s) s.heap H locs → lv_has ls 4 [(3, .int i), (2, .ref (v 0)), (1, .ref (a 0)), (0, .ref b)] → W p l e room_1 s m #[Value.ref b] below meth c H locs 187 14115 (lw_Z below #[Value.ref b] s) (F0 m 18 ls []) := by
    intro i z y hi hi0 hi4 H locs ls hS hl
    refine lv_iload_n hx hb dL_law_18 rfl (lv_at hl 0 rfl) ?_
    refine lv_aload_n hx hb dL_law_19 rfl (lv_at hl 3 rfl) ?_
    refine va_slen hx hb hX hbl hbA hS dL_law_20 ?_
    refine lv_bipush (v := 6) hx hb dL_law_21 (by decide) ?_
    refine lv_isub hx hb dL_law_23 ?_
    refine lv_topi (fun w ew => ?_)
    have tw : w.toInt = (L : Int) - 6 := ai_sub (nI_toInt (by omega)) (by decide) ew (by omega) (by omega)
    refine lv_icmp_gt (tgt := 1132) hx hb dL_law_24 (by decide) (fun _ => ?_) (fun h => absurd (cd_gt_t (a := i.toInt) (b := w.toInt) rfl rfl (by omega)) h)
    refine lv_iconst (v := 1) hx hb dL_law_1132 (by decide) ?_
    refine va_forget (fun q hq => hS.2.2 q hq) ?_
    refine W.widen (k := 600000) (n := 7302250) (Nat.le_of_ble_eq_true rfl) (Nat.le_of_ble_eq_true rfl) ?_
    exact lw_ret hx hb hr hlocks dL_law_1133
  induction fu with
  | zero =>
    intro i z y h0 h4 hf hk H locs ls hP hD hS hl
    exact fin i z y (by omega) h0 h4 H locs ls hS hl
  | succ fu ih =>
    intro i z y h0 h4 hf hk H locs ls hP hD hS hl
    rcases (show (L : Int) - 6 < i.toInt ∨ i.toInt ≤ (L : Int) - 6 from by omega) with hlt | hge
    · exact fin i z y hlt h0 h4 H locs ls hS hl
    have KK : ∀ (z : CSt) (y : OB), GLs z y → ∀ (H : Heap) (locs : List Loc) (ls : Array Slot), va_P D vwCl (CWs k a ra ia rr ii z ++ moW k v y) H → va_D (A0 s) (CWs k a ra ia rr ii z ++ moW k v y) → va_S (A0 s) s.heap H locs → lv_has ls 4 [(3, .int i), (2, .ref (v 0)), (1, .ref (a 0)), (0, .ref b)] → W p l e room_1 s m #[Value.ref b] below meth c H locs 187 14115 (lw_Z below #[Value.ref b] s) (F0 m 1126 ls []) := by
      intro z y hk H locs ls hP hD hS hl
      obtain ⟨i2, ei2⟩ : ∃ q : Int32, q = i + 6 := ⟨_, rfl⟩
      have ti2 : i2.toInt = i.toInt + 6 := ai_add rfl (by decide) ei2 (by omega) (by omega)
      refine lv_iinc (v := i2) (lv' := [(3, .int i2), (2, .ref (v 0)), (1, .ref (a 0)), (0, .ref b)]) hx hb dL_law_1126 hl (k := 0) rfl (by rw [ei2]; rfl) (by decide) rfl (fun ls hl => ?_)
      refine lv_goto (tgt := 18) hx hb dL_law_1129 (by decide) ?_
      exact ih i2 z y (by omega) (by omega) (by omega) hk H locs ls hP hD hS hl
    refine lv_iload_n hx hb dL_law_18 rfl (lv_at hl 0 rfl) ?_
    refine lv_aload_n hx hb dL_law_19 rfl (lv_at hl 3 rfl) ?_
    refine va_slen hx hb hX hbl hbA hS dL_law_20 ?_
    refine lv_bipush (v := 6) hx hb dL_law_21 (by decide) ?_
    refine lv_isub hx hb dL_law_23 ?_
    refine lv_topi (fun w ew => ?_)
    have tw : w.toInt = (L : Int) - 6 := ai_sub (nI_toInt (by omega)) (by decide) ew (by omega) (by omega)
    refine lv_icmp_gt (tgt := 1132) hx hb dL_law_24 (by decide) (fun h => absurd h (cd_gt_f (a := i.toInt) (b := w.toInt) rfl rfl (by omega))) (fun _ => ?_)
    refine lv_aload_n hx hb dL_law_27 rfl (lv_at hl 3 rfl) ?_
    refine lv_iload_n hx hb dL_law_28 rfl (lv_at hl 0 rfl) ?_
    refine va_sld hx hb hX hbl hbA hS (i := i) (vp_in_iff.mpr ⟨by omega, by omega⟩) dL_law_29 ?_
    refine lv_bipush (v := 63) hx hb dL_law_30 (by decide) ?_
    refine lv_iand hx hb dL_law_32 ?_
    refine lv_topi (fun q eq => ?_)
    rcases sp_d34 q with hO | rfl | rfl | rfl | rfl | rfl | rfl | rfl | rfl | rfl | rfl | rfl | rfl | rfl | rfl | rfl | rfl | rfl | rfl | rfl | rfl | rfl | rfl | rfl | rfl | rfl | rfl | rfl | rfl | rfl | rfl | rfl | rfl | rfl | rfl
    · refine lv_tableOut (tgt := 1126) hx hb dL_law_33 hO (by decide) ?_
      exact KK z y hk H locs ls hP hD hS hl
    · refine lv_tableIn (tgt := 184) hx hb dL_law_33 (by decide) (by decide) (by rfl) (by decide) ?_
      exact law_case_0 l hL C0 hG hE hE2 hq h0 (by omega) hk hP hD hS hl KK
    · refine lv_tableIn (tgt := 247) hx hb dL_law_33 (by decide) (by decide) (by rfl) (by decide) ?_
      exact law_case_1 l hL C0 hG hE hE2 hq h0 (by omega) hk hP hD hS hl KK
    · refine lv_tableIn (tgt := 270) hx hb dL_law_33 (by decide) (by decide) (by rfl) (by decide) ?_
      exact law_case_2 l hL C0 hG hE hE2 hq h0 (by omega) hk hP hD hS hl KK
    · refine lv_tableIn (tgt := 283) hx hb dL_law_33 (by decide) (by decide) (by rfl) (by decide) ?_
      exact law_case_3 l hL C0 hG hE hE2 hq h0 (by omega) hk hP hD hS hl KK
    · refine lv_tableIn (tgt := 296) hx hb dL_law_33 (by decide) (by decide) (by rfl) (by decide) ?_
      exact law_case_4 l hL C0 hG hE hE2 hq h0 (by omega) hk hP hD hS hl KK
    · refine lv_tableIn (tgt := 319) hx hb dL_law_33 (by decide) (by decide) (by rfl) (by decide) ?_
      exact law_case_5 l hL C0 hG hE hE2 hq h0 (by omega) hk hP hD hS hl KK
    · refine lv_tableIn (tgt := 342) hx hb dL_law_33 (by decide) (by decide) (by rfl) (by decide) ?_
      exact law_case_6 l hL C0 hG hE hE2 hq h0 (by omega) hk hP hD hS hl KK
    · refine lv_tableIn (tgt := 375) hx hb dL_law_33 (by decide) (by decide) (by rfl) (by decide) ?_
      exact law_case_7 l hL C0 hG hE hE2 hq h0 (by omega) hk hP hD hS hl KK
    · refine lv_tableIn (tgt := 408) hx hb dL_law_33 (by decide) (by decide) (by rfl) (by decide) ?_
      exact law_case_8 l hL C0 hG hE hE2 hq h0 (by omega) hk hP hD hS hl KK
    · refine lv_tableIn (tgt := 421) hx hb dL_law_33 (by decide) (by decide) (by rfl) (by decide) ?_
      exact law_case_9 l hL C0 hG hE hE2 hq h0 (by omega) hk hP hD hS hl KK
    · refine lv_tableIn (tgt := 444) hx hb dL_law_33 (by decide) (by decide) (by rfl) (by decide) ?_
      exact law_case_10 l hL C0 hG hE hE2 hq h0 (by omega) hk hP hD hS hl KK
    · refine lv_tableIn (tgt := 467) hx hb dL_law_33 (by decide) (by decide) (by rfl) (by decide) ?_
      exact law_case_11 l hL C0 hG hE hE2 hq h0 (by omega) hk hP hD hS hl KK
    · refine lv_tableIn (tgt := 490) hx hb dL_law_33 (by decide) (by decide) (by rfl) (by decide) ?_
      exact law_case_12 l hL C0 hG hE hE2 hq h0 (by omega) hk hP hD hS hl KK
    · refine lv_tableIn (tgt := 523) hx hb dL_law_33 (by decide) (by decide) (by rfl) (by decide) ?_
      exact law_case_13 l hL C0 hG hE hE2 hq h0 (by omega) hk hP hD hS hl KK
    · refine lv_tableIn (tgt := 536) hx hb dL_law_33 (by decide) (by decide) (by rfl) (by decide) ?_
      exact law_case_14 l hL C0 hG hE hE2 hq h0 (by omega) hk hP hD hS hl KK
    · refine lv_tableIn (tgt := 579) hx hb dL_law_33 (by decide) (by decide) (by rfl) (by decide) ?_
      exact law_case_15 l hL C0 hG hE hE2 hq h0 (by omega) hk hP hD hS hl KK
    · refine lv_tableIn (tgt := 602) hx hb dL_law_33 (by decide) (by decide) (by rfl) (by decide) ?_
      exact law_case_16 l hL C0 hG hE hE2 hq h0 (by omega) hk hP hD hS hl KK
    · refine lv_tableIn (tgt := 625) hx hb dL_law_33 (by decide) (by decide) (by rfl) (by decide) ?_
      exact law_case_17 l hL C0 hG hE hE2 hq h0 (by omega) hk hP hD hS hl KK
    · refine lv_tableIn (tgt := 648) hx hb dL_law_33 (by decide) (by decide) (by rfl) (by decide) ?_
      exact law_case_18 l hL C0 hG hE hE2 hq h0 (by omega) hk hP hD hS hl KK
    · refine lv_tableIn (tgt := 671) hx hb dL_law_33 (by decide) (by decide) (by rfl) (by decide) ?_
      exact law_case_19 l hL C0 hG hE hE2 hq h0 (by omega) hk hP hD hS hl KK
    · refine lv_tableIn (tgt := 694) hx hb dL_law_33 (by decide) (by decide) (by rfl) (by decide) ?_
      exact law_case_20 l hL C0 hG hE hE2 hq h0 (by omega) hk hP hD hS hl KK
    · refine lv_tableIn (tgt := 717) hx hb dL_law_33 (by decide) (by decide) (by rfl) (by decide) ?_
      exact law_case_21 l hL C0 hG hE hE2 hq h0 (by omega) hk hP hD hS hl KK
    · refine lv_tableIn (tgt := 750) hx hb dL_law_33 (by decide) (by decide) (by rfl) (by decide) ?_
      exact law_case_22 l hL C0 hG hE hE2 hq h0 (by omega) hk hP hD hS hl KK
    · refine lv_tableIn (tgt := 773) hx hb dL_law_33 (by decide) (by decide) (by rfl) (by decide) ?_
      exact law_case_23 l hL C0 hG hE hE2 hq h0 (by omega) hk hP hD hS hl KK
    · refine lv_tableIn (tgt := 826) hx hb dL_law_33 (by decide) (by decide) (by rfl) (by decide) ?_
      exact law_case_24 l hL C0 hG hE hE2 hq h0 (by omega) hk hP hD hS hl KK
    · refine lv_tableIn (tgt := 849) hx hb dL_law_33 (by decide) (by decide) (by rfl) (by decide) ?_
      exact law_case_25 l hL C0 hG hE hE2 hq h0 (by omega) hk hP hD hS hl KK
    · refine lv_tableIn (tgt := 882) hx hb dL_law_33 (by decide) (by decide) (by rfl) (by decide) ?_
      exact law_case_26 l hL C0 hG hE hE2 hq h0 (by omega) hk hP hD hS hl KK
    · refine lv_tableIn (tgt := 925) hx hb dL_law_33 (by decide) (by decide) (by rfl) (by decide) ?_
      exact law_case_27 l hL C0 hG hE hE2 hq h0 (by omega) hk hP hD hS hl KK
    · refine lv_tableIn (tgt := 948) hx hb dL_law_33 (by decide) (by decide) (by rfl) (by decide) ?_
      exact law_case_28 l hL C0 hG hE hE2 hq h0 (by omega) hk hP hD hS hl KK
    · refine lv_tableIn (tgt := 981) hx hb dL_law_33 (by decide) (by decide) (by rfl) (by decide) ?_
      exact law_case_29 l hL C0 hG hE hE2 hq h0 (by omega) hk hP hD hS hl KK
    · refine lv_tableIn (tgt := 1004) hx hb dL_law_33 (by decide) (by decide) (by rfl) (by decide) ?_
      exact law_case_30 l hL C0 hG hE hE2 hq h0 (by omega) hk hP hD hS hl KK
    · refine lv_tableIn (tgt := 1057) hx hb dL_law_33 (by decide) (by decide) (by rfl) (by decide) ?_
      exact law_case_31 l hL C0 hG hE hE2 hq h0 (by omega) hk hP hD hS hl KK
    · refine lv_tableIn (tgt := 1080) hx hb dL_law_33 (by decide) (by decide) (by rfl) (by decide) ?_
      exact law_case_32 l hL C0 hG hE hE2 hq h0 (by omega) hk hP hD hS hl KK
    · refine lv_tableIn (tgt := 1103) hx hb dL_law_33 (by decide) (by decide) (by rfl) (by decide) ?_
      exact law_case_33 l hL C0 hG hE hE2 hq h0 (by omega) hk hP hD hS hl KK
set_option maxHeartbeats 4000000 in
set_option maxRecDepth 100000 in
theorem whole_start {p : Program} {e : Env} {s : State} {m : MethodId} {below : List Frame} {meth : Method} {c : Code} (l : Launch) {b L : Nat} {xs : Nat → Int32} (hL : L ≤ 3072) (C0 : lw_At p s m meth c b L xs) : W p l e room_1 s m #[Value.ref b] below meth c s.heap [] 0 0 (lw_Z below #[Value.ref b] s) (entryFrame m ([Value.ref b] : List Value).toArray 4) := by
  obtain ⟨hx, hb, hr, hml, hown, hts, hX, hbl, hlocks, hgv⟩ := id C0
  have hown : s.vm.findClass RL = some m.cls := hown
  have hA : ∀ q : Nat, s.heap.size ≤ q → (fun q : Nat => s.heap.size ≤ q) q := fun _ h => h
  have hbA : ¬ (fun q : Nat => s.heap.size ≤ q) b := Nat.not_le.mpr hbl
  obtain ⟨D, k, hG⟩ := law_GK hts
  obtain ⟨ad, tv, hE⟩ := law_tX hts hgv
  obtain ⟨ad2, tv2, hE2⟩ := law_tY hts hgv
  have hS : va_S (fun q : Nat => s.heap.size ≤ q) s.heap s.heap [] := va_S.rf
  have hP : va_P D vwCl [] s.heap := fun k q h => by simp at h
  have hD : va_D (fun q : Nat => s.heap.size ≤ q) [] := ⟨fun i j p q h => by simp at h, fun k q h => by simp at h⟩
  have hl := lv_entry ([.ref b]) (n := 4) (Nat.le_of_ble_eq_true rfl)
  rw [lg_entry_eq]
  generalize (lg_sl ([.ref b]) ++ List.replicate (4 - (lg_sl ([.ref b])).length) Slot.unset).toArray = ls at hl ⊢
  have hl : lv_has ls 4 [(0, .ref b)] := hl
  refine va_new (ci := 6) (fs := [.null, .null, .int 0, .null, .null, .null, .null, .null, .null, .null, .null, .null]) (C := RX8) (T := TX8) (N := 12) hx hb hts inX8 tyX8 tyX8_ok hown (hts (.classLink RL 7 RX8) (List.mem_of_getElem? (i := 105) (by decide +kernel))) (hts (.instantiable RX8 12) (List.mem_of_getElem? (i := 106) (by decide +kernel))) (hts (.initialized RX8) (List.mem_of_getElem? (i := 87) (by decide +kernel))) hG.1 hP hD hS hA rfl (fun j hj => match j, hj with | 0, _ => rfl | 1, _ => rfl | 2, _ => rfl | 3, _ => rfl | 4, _ => rfl | 5, _ => rfl | 6, _ => rfl | 7, _ => rfl | 8, _ => rfl | 9, _ => rfl | 10, _ => rfl | 11, _ => rfl | n + 12, h => absurd h (by omega)) (Nat.le_of_ble_eq_true rfl) (Nat.le_of_ble_eq_true rfl) dL_law_0 (fun qx H hP hD hS => ?_)
  have hP : va_P D vwCl (([(qx, .inr (6, [.null, .null, .int 0, .null, .null, .null, .null, .null, .null, .null, .null, .null]))] : va_W)) H := hP
  have hD : va_D (fun q : Nat => s.heap.size ≤ q) (([(qx, .inr (6, [.null, .null, .int 0, .null, .null, .null, .null, .null, .null, .null, .null, .null]))] : va_W)) := hD
  refine lv_dup hx hb dL_law_3 rfl ?_
  refine hc_I (As := []) (rest := [.ref qx]) (n := 0) (wr := []) hx hb hml hown hts hG hA hP hD hS hl.1 [0] [] (k_X8_init l D k _ qx) ggL_law_X8_init rfl ⟨rfl, rfl, Nat.le_of_ble_eq_true rfl, Nat.le_of_ble_eq_true rfl⟩ (hts (.initialized RX8) (List.mem_of_getElem? (i := 87) (by decide +kernel))) (hts (.methodLink RL 9 yX8_init) (List.mem_of_getElem? (i := 107) (by decide +kernel))) (hts (.instanceMethod yX8_init) (List.mem_of_getElem? (i := 108) (by decide +kernel))) rfl (by decide +kernel) rfl rfl ⟨by decide +kernel, by decide +kernel, by decide +kernel⟩ ⟨rfl, rfl, Nat.le_of_ble_eq_true rfl, Nat.le_of_ble_eq_true rfl, Nat.le_of_ble_eq_true rfl⟩ dL_law_4 (fun u H locs hw hP hD hS => ?_)
  obtain ⟨a, ra, ia, rr, ii⟩ := u
  obtain ⟨ha, hq⟩ := hw
  have ha : a 0 = qx := ha
  have hq : RQ ra ia rr ii := hq
  have hP9 : va_P D vwCl (CWs k a ra ia rr ii s0) H := hP
  have hD9 : va_D (fun q : Nat => s.heap.size ≤ q) (CWs k a ra ia rr ii s0) := hD
  subst ha
  have hP := hP9
  have hD := hD9
  refine lv_astore_n (lv' := [(1, .ref (a 0)), (0, .ref b)]) hx hb dL_law_7 rfl hl (by decide) rfl (fun ls hl => ?_)
  refine va_new (ci := 7) (fs := [.int 0, .null, .null, .null, .null, .null, .null, .null, .null, .null, .null, .null, .null, .null, .null, .null, .null, .null, .int 0, .int 0, .int 0, .int 0, .int 0, .int 0, .int 0, .int 0, .int 0, .int 0, .null, .null, .null, .null, .null, .null, .null, .null, .null, .null, .null, .null, .null, .int 0, .int 0, .int 0, .null, .null, .null, .null, .null, .null, .null, .int 0, .int 0]) (C := RX9) (T := TX9) (N := 53) hx hb hts inX9 tyX9 tyX9_ok hown (hts (.classLink RL 10 RX9) (List.mem_of_getElem? (i := 947) (by decide +kernel))) (hts (.instantiable RX9 53) (List.mem_of_getElem? (i := 948) (by decide +kernel))) (hts (.initialized RX9) (List.mem_of_getElem? (i := 94) (by decide +kernel))) hG.1 hP hD hS hA rfl (fun j hj => match j, hj with | 0, _ => rfl | 1, _ => rfl | 2, _ => rfl | 3, _ => rfl | 4, _ => rfl | 5, _ => rfl | 6, _ => rfl | 7, _ => rfl | 8, _ => rfl | 9, _ => rfl | 10, _ => rfl | 11, _ => rfl | 12, _ => rfl | 13, _ => rfl | 14, _ => rfl | 15, _ => rfl | 16, _ => rfl | 17, _ => rfl | 18, _ => rfl | 19, _ => rfl | 20, _ => rfl | 21, _ => rfl | 22, _ => rfl | 23, _ => rfl | 24, _ => rfl | 25, _ => rfl | 26, _ => rfl | 27, _ => rfl | 28, _ => rfl | 29, _ => rfl | 30, _ => rfl | 31, _ => rfl | 32, _ => rfl | 33, _ => rfl | 34, _ => rfl | 35, _ => rfl | 36, _ => rfl | 37, _ => rfl | 38, _ => rfl | 39, _ => rfl | 40, _ => rfl | 41, _ => rfl | 42, _ => rfl | 43, _ => rfl | 44, _ => rfl | 45, _ => rfl | 46, _ => rfl | 47, _ => rfl | 48, _ => rfl | 49, _ => rfl | 50, _ => rfl | 51, _ => rfl | 52, _ => rfl | n + 53, h => absurd h (by omega)) (Nat.le_of_ble_eq_true rfl) (Nat.le_of_ble_eq_true rfl) dL_law_8 (fun qm H hP hD hS => ?_)
  have hP : va_P D vwCl (CWs k a ra ia rr ii s0 ++ (([(qm, .inr (7, [.int 0, .null, .null, .null, .null, .null, .null, .null, .null, .null, .null, .null, .null, .null, .null, .null, .null, .null, .int 0, .int 0, .int 0, .int 0, .int 0, .int 0, .int 0, .int 0, .int 0, .int 0, .null, .null, .null, .null, .null, .null, .null, .null, .null, .null, .null, .null, .null, .int 0, .int 0, .int 0, .null, .null, .null, .null, .null, .null, .null, .int 0, .int 0]))] : va_W))) H := hP
  have hD : va_D (fun q : Nat => s.heap.size ≤ q) (CWs k a ra ia rr ii s0 ++ (([(qm, .inr (7, [.int 0, .null, .null, .null, .null, .null, .null, .null, .null, .null, .null, .null, .null, .null, .null, .null, .null, .null, .int 0, .int 0, .int 0, .int 0, .int 0, .int 0, .int 0, .int 0, .int 0, .int 0, .null, .null, .null, .null, .null, .null, .null, .null, .null, .null, .null, .null, .null, .int 0, .int 0, .int 0, .null, .null, .null, .null, .null, .null, .null, .int 0, .int 0]))] : va_W))) := hD
  refine lv_dup hx hb dL_law_11 rfl ?_
  refine hc_I (As := []) (rest := [.ref qm]) (n := 0) (wr := CWs k a ra ia rr ii s0) hx hb hml hown hts hG hA hP hD hS hl.1 _ _ (k_X9_init l D k _ qm) ggL_law_X9_init rfl ⟨rfl, rfl, Nat.le_of_ble_eq_true rfl, Nat.le_of_ble_eq_true rfl⟩ (hts (.initialized RX9) (List.mem_of_getElem? (i := 94) (by decide +kernel))) (hts (.methodLink RL 12 yX9_init) (List.mem_of_getElem? (i := 949) (by decide +kernel))) (hts (.instanceMethod yX9_init) (List.mem_of_getElem? (i := 950) (by decide +kernel))) rfl (by decide +kernel) (q_r _ _) (q_l _ _) (q_nd2 _ _) ⟨rfl, rfl, Nat.le_of_ble_eq_true rfl, Nat.le_of_ble_eq_true rfl, Nat.le_of_ble_eq_true rfl⟩ dL_law_12 (fun v H locs hw hP hD hS => ?_)
  have hv : v 0 = qm := hw
  have hP8 : va_P D vwCl (CWs k a ra ia rr ii s0 ++ moW k v mo0) H := hP
  have hD8 : va_D (fun q : Nat => s.heap.size ≤ q) (CWs k a ra ia rr ii s0 ++ moW k v mo0) := hD
  subst hv
  have hP := hP8
  have hD := hD8
  refine lv_astore_n (lv' := [(2, .ref (v 0)), (1, .ref (a 0)), (0, .ref b)]) hx hb dL_law_15 rfl hl (by decide) rfl (fun ls hl => ?_)
  refine lv_iconst (v := 0) hx hb dL_law_16 (by decide) ?_
  refine lv_istore_n (lv' := [(3, .int 0), (2, .ref (v 0)), (1, .ref (a 0)), (0, .ref b)]) hx hb dL_law_17 rfl hl (by decide) rfl (fun ls hl => ?_)
  refine W.widen (k := 187) (n := 14115) (Nat.le_of_ble_eq_true rfl) (Nat.le_of_ble_eq_true rfl) ?_
  exact law_loop l hL C0 hG hE hE2 hq 5000 0 s0 mo0 (by decide) (by decide) (by rw [sp0]; omega) GLs0 H locs ls hP hD hS hl

