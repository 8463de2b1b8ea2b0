/-! the law's cases, on -/
set_option maxHeartbeats 4000000 in
set_option maxRecDepth 100000 in
theorem law_case_17 {p : Program} {e : Env} {s : State} {m : MethodId} {below : List Frame} {meth : Method} {c : Code} (l : Launch) {b L : Nat} {xs : Nat → Int32} (hL : L ≤ 3072) (C0 : lw_At p s m meth c b L xs) {D : va_G} {k : Nat → ClassId} (hG : GK D k s) {ad tv ad2 tv2 : Nat → Nat} (hE : EX ad tv (A0 s) s) (hE2 : EY ad2 tv2 (A0 s) s) {a ra ia v : Nat → Nat} {rr ii : Nat → Option Nat} (hq : RQ ra ia rr ii) {i : Int32} (hi0 : 0 ≤ i.toInt) (hi1 : i.toInt + 6 ≤ (L : Int)) {z : CSt} {y : OB} (hk : GLs z y) {H : Heap} {locs : List Loc} {ls : Array Slot} (hP : va_P D vwCl (CWs k a ra ia rr ii z ++ moW k v y) H) (hD : va_D (A0 s) (CWs k a ra ia rr ii z ++ moW k v y)) (hS : va_S (A0 s) s.heap H locs) (hl : lv_has ls 4 [(3, .int i), (2, .ref (v 0)), (1, .ref (a 0)), (0, .ref b)]) (KK : ∀ (z : CSt) (y : OB), GLs z y → ∀ (H : Heap) (locs : List Loc) (ls : Array Slot), va_P D vwCl (CWs k a ra ia rr ii z ++ moW k v y) H → va_D (A0 s) (CWs k a ra ia rr ii z ++ moW k v y) → va_S (A0 s) s.heap H locs → lv_has ls 4 [(3, .int i), (2, .ref (v 0)), (1, .ref (a 0)), (0, .ref b)] → W p l e room_1 s m #[Value.ref b] below meth c H locs 187 14115 (lw_Z below #[Value.ref b] s) (F0 m 1126 ls [])) : W p l e room_1 s m #[Value.ref b] below meth c H locs 187 14115 (lw_Z below #[Value.ref b] s) (F0 m 625 ls []) := by
  obtain ⟨hx, hb, hr, hml, hown, hts, hX, hbl, hlocks, hgv⟩ := id C0
  have hown : s.vm.findClass RL = some m.cls := hown
  have hA : ∀ q : Nat, s.heap.size ≤ q → A0 s q := fun _ h => h
  have hbA : ¬ A0 s b := Nat.not_le.mpr hbl
  refine lv_aload_n hx hb dL_law_625 rfl (lv_at hl 2 rfl) ?_
  refine lv_aload_n hx hb dL_law_626 rfl (lv_at hl 3 rfl) ?_
  refine lv_iload_n hx hb dL_law_627 rfl (lv_at hl 0 rfl) ?_
  refine lv_iconst (v := 1) hx hb dL_law_628 (by decide) ?_
  refine lv_iadd hx hb dL_law_629 ?_
  refine lv_topi (fun w1_1 ew1_1 => ?_)
  have tw1_1 : w1_1.toInt = i.toInt + 1 := ai_add rfl (by decide) ew1_1 (by omega) (by omega)
  refine va_sld hx hb hX hbl hbA hS (i := w1_1) (vp_in_iff.mpr ⟨by omega, by omega⟩) dL_law_630 ?_
  refine lv_topi (fun x1_1 ex1_1 => ?_)
  obtain ⟨r0, z2, y2, t8, t9, G2⟩ := t_tall l D k a ra ia v rr ii hq z y hk x1_1
  refine hc_Vi (As := [.int x1_1]) (rest := []) (n := 1) (wr := moW k v y) hx hb hml hown hts hG hA hP hD hS hl.1 (List.range 149) (List.range' 149 38) (t8 _) (ci := 6) (q0 := 0) rfl rfl gL_law_X8_tall rfl ⟨rfl, rfl, Nat.le_of_ble_eq_true rfl, Nat.le_of_ble_eq_true rfl⟩ (by decide +kernel) (rng_l _ _ _ (CWlen k a ra ia rr ii z)) (rng_r _ _ _ _ (CWlen k a ra ia rr ii z) (MWlen k v y)) nd1 ⟨rfl, rfl, Nat.le_of_ble_eq_true rfl, Nat.le_of_ble_eq_true rfl, Nat.le_of_ble_eq_true rfl⟩ dL_law_631 (fun r1 u1 H locs e1 hP hD hS => ?_)
  obtain ⟨hP, hD⟩ := cv (w' := moW k v y ++ CWs k a ra ia rr ii z2) hP hD rfl
  refine lv_pop hx hb dL_law_634 rfl ?_
  refine lv_aload_n hx hb dL_law_635 rfl (lv_at hl 1 rfl) ?_
  refine lv_aload_n hx hb dL_law_636 rfl (lv_at hl 3 rfl) ?_
  refine lv_iload_n hx hb dL_law_637 rfl (lv_at hl 0 rfl) ?_
  refine lv_iconst (v := 1) hx hb dL_law_638 (by decide) ?_
  refine lv_iadd hx hb dL_law_639 ?_
  refine lv_topi (fun w2_1 ew2_1 => ?_)
  have tw2_1 : w2_1.toInt = i.toInt + 1 := ai_add rfl (by decide) ew2_1 (by omega) (by omega)
  refine va_sld hx hb hX hbl hbA hS (i := w2_1) (vp_in_iff.mpr ⟨by omega, by omega⟩) dL_law_640 ?_
  refine lv_topi (fun x2_1 ex2_1 => ?_)
  have ex1 : x2_1 = x1_1 := by rw [ex2_1, ew2_1, ex1_1, ew1_1]
  rw [← ex1] at t9
  refine hc_Vi (As := [.int x2_1]) (rest := []) (n := 1) (wr := CWs k a ra ia rr ii z2) hx hb hml hown hts hG hA hP hD hS hl.1 (List.range 38) (List.range' 38 149) (t9 _) (ci := 7) (q0 := 0) rfl rfl gL_law_X9_tall rfl ⟨rfl, rfl, Nat.le_of_ble_eq_true rfl, Nat.le_of_ble_eq_true rfl⟩ (by decide +kernel) (rng_l _ _ _ (MWlen k v y)) (rng_r _ _ _ _ (MWlen k v y) (CWlen k a ra ia rr ii z2)) nd2 ⟨rfl, rfl, Nat.le_of_ble_eq_true rfl, Nat.le_of_ble_eq_true rfl, Nat.le_of_ble_eq_true rfl⟩ dL_law_641 (fun r2 u2 H locs e2 hP hD hS => ?_)
  obtain ⟨hP, hD⟩ := cv (w' := CWs k a ra ia rr ii z2 ++ moW k v y2) hP hD rfl
  refine lv_pop hx hb dL_law_644 rfl ?_
  refine lv_goto (tgt := 1126) hx hb dL_law_645 (by decide) ?_
  exact KK z2 y2 G2 H locs ls hP hD hS hl
set_option maxHeartbeats 4000000 in
set_option maxRecDepth 100000 in
theorem law_case_18 {p : Program} {e : Env} {s : State} {m : MethodId} {below : List Frame} {meth : Method} {c : Code} (l : Launch) {b L : Nat} {xs : Nat → Int32} (hL : L ≤ 3072) (C0 : lw_At p s m meth c b L xs) {D : va_G} {k : Nat → ClassId} (hG : GK D k s) {ad tv ad2 tv2 : Nat → Nat} (hE : EX ad tv (A0 s) s) (hE2 : EY ad2 tv2 (A0 s) s) {a ra ia v : Nat → Nat} {rr ii : Nat → Option Nat} (hq : RQ ra ia rr ii) {i : Int32} (hi0 : 0 ≤ i.toInt) (hi1 : i.toInt + 6 ≤ (L : Int)) {z : CSt} {y : OB} (hk : GLs z y) {H : Heap} {locs : List Loc} {ls : Array Slot} (hP : va_P D vwCl (CWs k a ra ia rr ii z ++ moW k v y) H) (hD : va_D (A0 s) (CWs k a ra ia rr ii z ++ moW k v y)) (hS : va_S (A0 s) s.heap H locs) (hl : lv_has ls 4 [(3, .int i), (2, .ref (v 0)), (1, .ref (a 0)), (0, .ref b)]) (KK : ∀ (z : CSt) (y : OB), GLs z y → ∀ (H : Heap) (locs : List Loc) (ls : Array Slot), va_P D vwCl (CWs k a ra ia rr ii z ++ moW k v y) H → va_D (A0 s) (CWs k a ra ia rr ii z ++ moW k v y) → va_S (A0 s) s.heap H locs → lv_has ls 4 [(3, .int i), (2, .ref (v 0)), (1, .ref (a 0)), (0, .ref b)] → W p l e room_1 s m #[Value.ref b] below meth c H locs 187 14115 (lw_Z below #[Value.ref b] s) (F0 m 1126 ls [])) : W p l e room_1 s m #[Value.ref b] below meth c H locs 187 14115 (lw_Z below #[Value.ref b] s) (F0 m 648 ls []) := by
  obtain ⟨hx, hb, hr, hml, hown, hts, hX, hbl, hlocks, hgv⟩ := id C0
  have hown : s.vm.findClass RL = some m.cls := hown
  have hA : ∀ q : Nat, s.heap.size ≤ q → A0 s q := fun _ h => h
  have hbA : ¬ A0 s b := Nat.not_le.mpr hbl
  refine lv_aload_n hx hb dL_law_648 rfl (lv_at hl 2 rfl) ?_
  refine lv_aload_n hx hb dL_law_649 rfl (lv_at hl 3 rfl) ?_
  refine lv_iload_n hx hb dL_law_650 rfl (lv_at hl 0 rfl) ?_
  refine lv_iconst (v := 1) hx hb dL_law_651 (by decide) ?_
  refine lv_iadd hx hb dL_law_652 ?_
  refine lv_topi (fun w1_1 ew1_1 => ?_)
  have tw1_1 : w1_1.toInt = i.toInt + 1 := ai_add rfl (by decide) ew1_1 (by omega) (by omega)
  refine va_sld hx hb hX hbl hbA hS (i := w1_1) (vp_in_iff.mpr ⟨by omega, by omega⟩) dL_law_653 ?_
  refine lv_topi (fun x1_1 ex1_1 => ?_)
  obtain ⟨r0, z2, y2, t8, t9, G2⟩ := t_ease l D k a ra ia v rr ii hq z y hk x1_1
  refine hc_Vi (As := [.int x1_1]) (rest := []) (n := 1) (wr := moW k v y) hx hb hml hown hts hG hA hP hD hS hl.1 (List.range 149) (List.range' 149 38) (t8 _) (ci := 6) (q0 := 0) rfl rfl gL_law_X8_ease rfl ⟨rfl, rfl, Nat.le_of_ble_eq_true rfl, Nat.le_of_ble_eq_true rfl⟩ (by decide +kernel) (rng_l _ _ _ (CWlen k a ra ia rr ii z)) (rng_r _ _ _ _ (CWlen k a ra ia rr ii z) (MWlen k v y)) nd1 ⟨rfl, rfl, Nat.le_of_ble_eq_true rfl, Nat.le_of_ble_eq_true rfl, Nat.le_of_ble_eq_true rfl⟩ dL_law_654 (fun r1 u1 H locs e1 hP hD hS => ?_)
  obtain ⟨hP, hD⟩ := cv (w' := moW k v y ++ CWs k a ra ia rr ii z2) hP hD rfl
  refine lv_pop hx hb dL_law_657 rfl ?_
  refine lv_aload_n hx hb dL_law_658 rfl (lv_at hl 1 rfl) ?_
  refine lv_aload_n hx hb dL_law_659 rfl (lv_at hl 3 rfl) ?_
  refine lv_iload_n hx hb dL_law_660 rfl (lv_at hl 0 rfl) ?_
  refine lv_iconst (v := 1) hx hb dL_law_661 (by decide) ?_
  refine lv_iadd hx hb dL_law_662 ?_
  refine lv_topi (fun w2_1 ew2_1 => ?_)
  have tw2_1 : w2_1.toInt = i.toInt + 1 := ai_add rfl (by decide) ew2_1 (by omega) (by omega)
  refine va_sld hx hb hX hbl hbA hS (i := w2_1) (vp_in_iff.mpr ⟨by omega, by omega⟩) dL_law_663 ?_
  refine lv_topi (fun x2_1 ex2_1 => ?_)
  have ex1 : x2_1 = x1_1 := by rw [ex2_1, ew2_1, ex1_1, ew1_1]
  rw [← ex1] at t9
  refine hc_Vi (As := [.int x2_1]) (rest := []) (n := 1) (wr := CWs k a ra ia rr ii z2) hx hb hml hown hts hG hA hP hD hS hl.1 (List.range 38) (List.range' 38 149) (t9 _) (ci := 7) (q0 := 0) rfl rfl gL_law_X9_ease rfl ⟨rfl, rfl, Nat.le_of_ble_eq_true rfl, Nat.le_of_ble_eq_true rfl⟩ (by decide +kernel) (rng_l _ _ _ (MWlen k v y)) (rng_r _ _ _ _ (MWlen k v y) (CWlen k a ra ia rr ii z2)) nd2 ⟨rfl, rfl, Nat.le_of_ble_eq_true rfl, Nat.le_of_ble_eq_true rfl, Nat.le_of_ble_eq_true rfl⟩ dL_law_664 (fun r2 u2 H locs e2 hP hD hS => ?_)
  obtain ⟨hP, hD⟩ := cv (w' := CWs k a ra ia rr ii z2 ++ moW k v y2) hP hD rfl
  refine lv_pop hx hb dL_law_667 rfl ?_
  refine lv_goto (tgt := 1126) hx hb dL_law_668 (by decide) ?_
  exact KK z2 y2 G2 H locs ls hP hD hS hl
set_option maxHeartbeats 4000000 in
set_option maxRecDepth 100000 in
theorem law_case_19 {p : Program} {e : Env} {s : State} {m : MethodId} {below : List Frame} {meth : Method} {c : Code} (l : Launch) {b L : Nat} {xs : Nat → Int32} (hL : L ≤ 3072) (C0 : lw_At p s m meth c b L xs) {D : va_G} {k : Nat → ClassId} (hG : GK D k s) {ad tv ad2 tv2 : Nat → Nat} (hE : EX ad tv (A0 s) s) (hE2 : EY ad2 tv2 (A0 s) s) {a ra ia v : Nat → Nat} {rr ii : Nat → Option Nat} (hq : RQ ra ia rr ii) {i : Int32} (hi0 : 0 ≤ i.toInt) (hi1 : i.toInt + 6 ≤ (L : Int)) {z : CSt} {y : OB} (hk : GLs z y) {H : Heap} {locs : List Loc} {ls : Array Slot} (hP : va_P D vwCl (CWs k a ra ia rr ii z ++ moW k v y) H) (hD : va_D (A0 s) (CWs k a ra ia rr ii z ++ moW k v y)) (hS : va_S (A0 s) s.heap H locs) (hl : lv_has ls 4 [(3, .int i), (2, .ref (v 0)), (1, .ref (a 0)), (0, .ref b)]) (KK : ∀ (z : CSt) (y : OB), GLs z y → ∀ (H : Heap) (locs : List Loc) (ls : Array Slot), va_P D vwCl (CWs k a ra ia rr ii z ++ moW k v y) H → va_D (A0 s) (CWs k a ra ia rr ii z ++ moW k v y) → va_S (A0 s) s.heap H locs → lv_has ls 4 [(3, .int i), (2, .ref (v 0)), (1, .ref (a 0)), (0, .ref b)] → W p l e room_1 s m #[Value.ref b] below meth c H locs 187 14115 (lw_Z below #[Value.ref b] s) (F0 m 1126 ls [])) : W p l e room_1 s m #[Value.ref b] below meth c H locs 187 14115 (lw_Z below #[Value.ref b] s) (F0 m 671 ls []) := by
  obtain ⟨hx, hb, hr, hml, hown, hts, hX, hbl, hlocks, hgv⟩ := id C0
  have hown : s.vm.findClass RL = some m.cls := hown
  have hA : ∀ q : Nat, s.heap.size ≤ q → A0 s q := fun _ h => h
  have hbA : ¬ A0 s b := Nat.not_le.mpr hbl
  refine lv_aload_n hx hb dL_law_671 rfl (lv_at hl 2 rfl) ?_
  refine lv_aload_n hx hb dL_law_672 rfl (lv_at hl 3 rfl) ?_
  refine lv_iload_n hx hb dL_law_673 rfl (lv_at hl 0 rfl) ?_
  refine lv_iconst (v := 1) hx hb dL_law_674 (by decide) ?_
  refine lv_iadd hx hb dL_law_675 ?_
  refine lv_topi (fun w1_1 ew1_1 => ?_)
  have tw1_1 : w1_1.toInt = i.toInt + 1 := ai_add rfl (by decide) ew1_1 (by omega) (by omega)
  refine va_sld hx hb hX hbl hbA hS (i := w1_1) (vp_in_iff.mpr ⟨by omega, by omega⟩) dL_law_676 ?_
  refine lv_topi (fun x1_1 ex1_1 => ?_)
  obtain ⟨r0, r0', z2, y2, t8, t9, G2⟩ := t_way l D k a ra ia v rr ii hq z y hk x1_1
  refine hc_Vi (As := [.int x1_1]) (rest := []) (n := 1) (wr := moW k v y) hx hb hml hown hts hG hA hP hD hS hl.1 (List.range 149) (List.range' 149 38) (t8 _) (ci := 6) (q0 := 0) rfl rfl gL_law_X8_way rfl ⟨rfl, rfl, Nat.le_of_ble_eq_true rfl, Nat.le_of_ble_eq_true rfl⟩ (by decide +kernel) (rng_l _ _ _ (CWlen k a ra ia rr ii z)) (rng_r _ _ _ _ (CWlen k a ra ia rr ii z) (MWlen k v y)) nd1 ⟨rfl, rfl, Nat.le_of_ble_eq_true rfl, Nat.le_of_ble_eq_true rfl, Nat.le_of_ble_eq_true rfl⟩ dL_law_677 (fun r1 u1 H locs e1 hP hD hS => ?_)
  obtain ⟨hP, hD⟩ := cv (w' := moW k v y ++ CWs k a ra ia rr ii z2) hP hD rfl
  refine lv_pop hx hb dL_law_680 rfl ?_
  refine lv_aload_n hx hb dL_law_681 rfl (lv_at hl 1 rfl) ?_
  refine lv_aload_n hx hb dL_law_682 rfl (lv_at hl 3 rfl) ?_
  refine lv_iload_n hx hb dL_law_683 rfl (lv_at hl 0 rfl) ?_
  refine lv_iconst (v := 1) hx hb dL_law_684 (by decide) ?_
  refine lv_iadd hx hb dL_law_685 ?_
  refine lv_topi (fun w2_1 ew2_1 => ?_)
  have tw2_1 : w2_1.toInt = i.toInt + 1 := ai_add rfl (by decide) ew2_1 (by omega) (by omega)
  refine va_sld hx hb hX hbl hbA hS (i := w2_1) (vp_in_iff.mpr ⟨by omega, by omega⟩) dL_law_686 ?_
  refine lv_topi (fun x2_1 ex2_1 => ?_)
  have ex1 : x2_1 = x1_1 := by rw [ex2_1, ew2_1, ex1_1, ew1_1]
  rw [← ex1] at t9
  refine hc_Vi (As := [.int x2_1]) (rest := []) (n := 1) (wr := CWs k a ra ia rr ii z2) hx hb hml hown hts hG hA hP hD hS hl.1 (List.range 38) (List.range' 38 149) (t9 _) (ci := 7) (q0 := 0) rfl rfl gL_law_X9_way rfl ⟨rfl, rfl, Nat.le_of_ble_eq_true rfl, Nat.le_of_ble_eq_true rfl⟩ (by decide +kernel) (rng_l _ _ _ (MWlen k v y)) (rng_r _ _ _ _ (MWlen k v y) (CWlen k a ra ia rr ii z2)) nd2 ⟨rfl, rfl, Nat.le_of_ble_eq_true rfl, Nat.le_of_ble_eq_true rfl, Nat.le_of_ble_eq_true rfl⟩ dL_law_687 (fun r2 u2 H locs e2 hP hD hS => ?_)
  obtain ⟨hP, hD⟩ := cv (w' := CWs k a ra ia rr ii z2 ++ moW k v y2) hP hD rfl
  refine lv_pop hx hb dL_law_690 rfl ?_
  refine lv_goto (tgt := 1126) hx hb dL_law_691 (by decide) ?_
  exact KK z2 y2 G2 H locs ls hP hD hS hl
set_option maxHeartbeats 4000000 in
set_option maxRecDepth 100000 in
theorem law_case_20 {p : Program} {e : Env} {s : State} {m : MethodId} {below : List Frame} {meth : Method} {c : Code} (l : Launch) {b L : Nat} {xs : Nat → Int32} (hL : L ≤ 3072) (C0 : lw_At p s m meth c b L xs) {D : va_G} {k : Nat → ClassId} (hG : GK D k s) {ad tv ad2 tv2 : Nat → Nat} (hE : EX ad tv (A0 s) s) (hE2 : EY ad2 tv2 (A0 s) s) {a ra ia v : Nat → Nat} {rr ii : Nat → Option Nat} (hq : RQ ra ia rr ii) {i : Int32} (hi0 : 0 ≤ i.toInt) (hi1 : i.toInt + 6 ≤ (L : Int)) {z : CSt} {y : OB} (hk : GLs z y) {H : Heap} {locs : List Loc} {ls : Array Slot} (hP : va_P D vwCl (CWs k a ra ia rr ii z ++ moW k v y) H) (hD : va_D (A0 s) (CWs k a ra ia rr ii z ++ moW k v y)) (hS : va_S (A0 s) s.heap H locs) (hl : lv_has ls 4 [(3, .int i), (2, .ref (v 0)), (1, .ref (a 0)), (0, .ref b)]) (KK : ∀ (z : CSt) (y : OB), GLs z y → ∀ (H : Heap) (locs : List Loc) (ls : Array Slot), va_P D vwCl (CWs k a ra ia rr ii z ++ moW k v y) H → va_D (A0 s) (CWs k a ra ia rr ii z ++ moW k v y) → va_S (A0 s) s.heap H locs → lv_has ls 4 [(3, .int i), (2, .ref (v 0)), (1, .ref (a 0)), (0, .ref b)] → W p l e room_1 s m #[Value.ref b] below meth c H locs 187 14115 (lw_Z below #[Value.ref b] s) (F0 m 1126 ls [])) : W p l e room_1 s m #[Value.ref b] below meth c H locs 187 14115 (lw_Z below #[Value.ref b] s) (F0 m 694 ls []) := by
  obtain ⟨hx, hb, hr, hml, hown, hts, hX, hbl, hlocks, hgv⟩ := id C0
  have hown : s.vm.findClass RL = some m.cls := hown
  have hA : ∀ q : Nat, s.heap.size ≤ q → A0 s q := fun _ h => h
  have hbA : ¬ A0 s b := Nat.not_le.mpr hbl
  refine lv_aload_n hx hb dL_law_694 rfl (lv_at hl 2 rfl) ?_
  refine lv_aload_n hx hb dL_law_695 rfl (lv_at hl 3 rfl) ?_
  refine lv_iload_n hx hb dL_law_696 rfl (lv_at hl 0 rfl) ?_
  refine lv_iconst (v := 1) hx hb dL_law_697 (by decide) ?_
  refine lv_iadd hx hb dL_law_698 ?_
  refine lv_topi (fun w1_1 ew1_1 => ?_)
  have tw1_1 : w1_1.toInt = i.toInt + 1 := ai_add rfl (by decide) ew1_1 (by omega) (by omega)
  refine va_sld hx hb hX hbl hbA hS (i := w1_1) (vp_in_iff.mpr ⟨by omega, by omega⟩) dL_law_699 ?_
  refine lv_topi (fun x1_1 ex1_1 => ?_)
  obtain ⟨r0, z2, y2, t8, t9, G2⟩ := t_most l D k a ra ia v rr ii hq z y hk x1_1
  refine hc_Vi (As := [.int x1_1]) (rest := []) (n := 1) (wr := moW k v y) hx hb hml hown hts hG hA hP hD hS hl.1 (List.range 149) (List.range' 149 38) (t8 _) (ci := 6) (q0 := 0) rfl rfl gL_law_X8_most rfl ⟨rfl, rfl, Nat.le_of_ble_eq_true rfl, Nat.le_of_ble_eq_true rfl⟩ (by decide +kernel) (rng_l _ _ _ (CWlen k a ra ia rr ii z)) (rng_r _ _ _ _ (CWlen k a ra ia rr ii z) (MWlen k v y)) nd1 ⟨rfl, rfl, Nat.le_of_ble_eq_true rfl, Nat.le_of_ble_eq_true rfl, Nat.le_of_ble_eq_true rfl⟩ dL_law_700 (fun r1 u1 H locs e1 hP hD hS => ?_)
  obtain ⟨hP, hD⟩ := cv (w' := moW k v y ++ CWs k a ra ia rr ii z2) hP hD rfl
  refine lv_pop hx hb dL_law_703 rfl ?_
  refine lv_aload_n hx hb dL_law_704 rfl (lv_at hl 1 rfl) ?_
  refine lv_aload_n hx hb dL_law_705 rfl (lv_at hl 3 rfl) ?_
  refine lv_iload_n hx hb dL_law_706 rfl (lv_at hl 0 rfl) ?_
  refine lv_iconst (v := 1) hx hb dL_law_707 (by decide) ?_
  refine lv_iadd hx hb dL_law_708 ?_
  refine lv_topi (fun w2_1 ew2_1 => ?_)
  have tw2_1 : w2_1.toInt = i.toInt + 1 := ai_add rfl (by decide) ew2_1 (by omega) (by omega)
  refine va_sld hx hb hX hbl hbA hS (i := w2_1) (vp_in_iff.mpr ⟨by omega, by omega⟩) dL_law_709 ?_
  refine lv_topi (fun x2_1 ex2_1 => ?_)
  have ex1 : x2_1 = x1_1 := by rw [ex2_1, ew2_1, ex1_1, ew1_1]
  rw [← ex1] at t9
  refine hc_Vi (As := [.int x2_1]) (rest := []) (n := 1) (wr := CWs k a ra ia rr ii z2) hx hb hml hown hts hG hA hP hD hS hl.1 (List.range 38) (List.range' 38 149) (t9 _) (ci := 7) (q0 := 0) rfl rfl gL_law_X9_most rfl ⟨rfl, rfl, Nat.le_of_ble_eq_true rfl, Nat.le_of_ble_eq_true rfl⟩ (by decide +kernel) (rng_l _ _ _ (MWlen k v y)) (rng_r _ _ _ _ (MWlen k v y) (CWlen k a ra ia rr ii z2)) nd2 ⟨rfl, rfl, Nat.le_of_ble_eq_true rfl, Nat.le_of_ble_eq_true rfl, Nat.le_of_ble_eq_true rfl⟩ dL_law_710 (fun r2 u2 H locs e2 hP hD hS => ?_)
  obtain ⟨hP, hD⟩ := cv (w' := CWs k a ra ia rr ii z2 ++ moW k v y2) hP hD rfl
  refine lv_pop hx hb dL_law_713 rfl ?_
  refine lv_goto (tgt := 1126) hx hb dL_law_714 (by decide) ?_
  exact KK z2 y2 G2 H locs ls hP hD hS hl
set_option maxHeartbeats 4000000 in
set_option maxRecDepth 100000 in
theorem law_case_21 {p : Program} {e : Env} {s : State} {m : MethodId} {below : List Frame} {meth : Method} {c : Code} (l : Launch) {b L : Nat} {xs : Nat → Int32} (hL : L ≤ 3072) (C0 : lw_At p s m meth c b L xs) {D : va_G} {k : Nat → ClassId} (hG : GK D k s) {ad tv ad2 tv2 : Nat → Nat} (hE : EX ad tv (A0 s) s) (hE2 : EY ad2 tv2 (A0 s) s) {a ra ia v : Nat → Nat} {rr ii : Nat → Option Nat} (hq : RQ ra ia rr ii) {i : Int32} (hi0 : 0 ≤ i.toInt) (hi1 : i.toInt + 6 ≤ (L : Int)) {z : CSt} {y : OB} (hk : GLs z y) {H : Heap} {locs : List Loc} {ls : Array Slot} (hP : va_P D vwCl (CWs k a ra ia rr ii z ++ moW k v y) H) (hD : va_D (A0 s) (CWs k a ra ia rr ii z ++ moW k v y)) (hS : va_S (A0 s) s.heap H locs) (hl : lv_has ls 4 [(3, .int i), (2, .ref (v 0)), (1, .ref (a 0)), (0, .ref b)]) (KK : ∀ (z : CSt) (y : OB), GLs z y → ∀ (H : Heap) (locs : List Loc) (ls : Array Slot), va_P D vwCl (CWs k a ra ia rr ii z ++ moW k v y) H → va_D (A0 s) (CWs k a ra ia rr ii z ++ moW k v y) → va_S (A0 s) s.heap H locs → lv_has ls 4 [(3, .int i), (2, .ref (v 0)), (1, .ref (a 0)), (0, .ref b)] → W p l e room_1 s m #[Value.ref b] below meth c H locs 187 14115 (lw_Z below #[Value.ref b] s) (F0 m 1126 ls [])) : W p l e room_1 s m #[Value.ref b] below meth c H locs 187 14115 (lw_Z below #[Value.ref b] s) (F0 m 717 ls []) := by
  obtain ⟨hx, hb, hr, hml, hown, hts, hX, hbl, hlocks, hgv⟩ := id C0
  have hown : s.vm.findClass RL = some m.cls := hown
  have hA : ∀ q : Nat, s.heap.size ≤ q → A0 s q := fun _ h => h
  have hbA : ¬ A0 s b := Nat.not_le.mpr hbl
  refine lv_aload_n hx hb dL_law_717 rfl (lv_at hl 2 rfl) ?_
  refine lv_aload_n hx hb dL_law_718 rfl (lv_at hl 3 rfl) ?_
  refine lv_iload_n hx hb dL_law_719 rfl (lv_at hl 0 rfl) ?_
  refine lv_iconst (v := 1) hx hb dL_law_720 (by decide) ?_
  refine lv_iadd hx hb dL_law_721 ?_
  refine lv_topi (fun w1_1 ew1_1 => ?_)
  have tw1_1 : w1_1.toInt = i.toInt + 1 := ai_add rfl (by decide) ew1_1 (by omega) (by omega)
  refine va_sld hx hb hX hbl hbA hS (i := w1_1) (vp_in_iff.mpr ⟨by omega, by omega⟩) dL_law_722 ?_
  refine lv_topi (fun x1_1 ex1_1 => ?_)
  refine lv_aload_n hx hb dL_law_723 rfl (lv_at hl 3 rfl) ?_
  refine lv_iload_n hx hb dL_law_724 rfl (lv_at hl 0 rfl) ?_
  refine lv_iconst (v := 2) hx hb dL_law_725 (by decide) ?_
  refine lv_iadd hx hb dL_law_726 ?_
  refine lv_topi (fun w1_2 ew1_2 => ?_)
  have tw1_2 : w1_2.toInt = i.toInt + 2 := ai_add rfl (by decide) ew1_2 (by omega) (by omega)
  refine va_sld hx hb hX hbl hbA hS (i := w1_2) (vp_in_iff.mpr ⟨by omega, by omega⟩) dL_law_727 ?_
  refine lv_topi (fun x1_2 ex1_2 => ?_)
  obtain ⟨r0, z2, y2, t8, t9, G2⟩ := t_heavy l D k a ra ia v rr ii hq z y hk x1_1 x1_2
  refine hc_Vi (As := [.int x1_1, .int x1_2]) (rest := []) (n := 2) (wr := moW k v y) hx hb hml hown hts hG hA hP hD hS hl.1 (List.range 149) (List.range' 149 38) (t8 _) (ci := 6) (q0 := 0) rfl rfl gL_law_X8_heavy rfl ⟨rfl, rfl, Nat.le_of_ble_eq_true rfl, Nat.le_of_ble_eq_true rfl⟩ (by decide +kernel) (rng_l _ _ _ (CWlen k a ra ia rr ii z)) (rng_r _ _ _ _ (CWlen k a ra ia rr ii z) (MWlen k v y)) nd1 ⟨rfl, rfl, Nat.le_of_ble_eq_true rfl, Nat.le_of_ble_eq_true rfl, Nat.le_of_ble_eq_true rfl⟩ dL_law_728 (fun r1 u1 H locs e1 hP hD hS => ?_)
  obtain ⟨hP, hD⟩ := cv (w' := moW k v y ++ CWs k a ra ia rr ii z2) hP hD rfl
  refine lv_pop hx hb dL_law_731 rfl ?_
  refine lv_aload_n hx hb dL_law_732 rfl (lv_at hl 1 rfl) ?_
  refine lv_aload_n hx hb dL_law_733 rfl (lv_at hl 3 rfl) ?_
  refine lv_iload_n hx hb dL_law_734 rfl (lv_at hl 0 rfl) ?_
  refine lv_iconst (v := 1) hx hb dL_law_735 (by decide) ?_
  refine lv_iadd hx hb dL_law_736 ?_
  refine lv_topi (fun w2_1 ew2_1 => ?_)
  have tw2_1 : w2_1.toInt = i.toInt + 1 := ai_add rfl (by decide) ew2_1 (by omega) (by omega)
  refine va_sld hx hb hX hbl hbA hS (i := w2_1) (vp_in_iff.mpr ⟨by omega, by omega⟩) dL_law_737 ?_
  refine lv_topi (fun x2_1 ex2_1 => ?_)
  refine lv_aload_n hx hb dL_law_738 rfl (lv_at hl 3 rfl) ?_
  refine lv_iload_n hx hb dL_law_739 rfl (lv_at hl 0 rfl) ?_
  refine lv_iconst (v := 2) hx hb dL_law_740 (by decide) ?_
  refine lv_iadd hx hb dL_law_741 ?_
  refine lv_topi (fun w2_2 ew2_2 => ?_)
  have tw2_2 : w2_2.toInt = i.toInt + 2 := ai_add rfl (by decide) ew2_2 (by omega) (by omega)
  refine va_sld hx hb hX hbl hbA hS (i := w2_2) (vp_in_iff.mpr ⟨by omega, by omega⟩) dL_law_742 ?_
  refine lv_topi (fun x2_2 ex2_2 => ?_)
  have ex1 : x2_1 = x1_1 := by rw [ex2_1, ew2_1, ex1_1, ew1_1]
  rw [← ex1] at t9
  have ex2 : x2_2 = x1_2 := by rw [ex2_2, ew2_2, ex1_2, ew1_2]
  rw [← ex2] at t9
  refine hc_Vi (As := [.int x2_1, .int x2_2]) (rest := []) (n := 2) (wr := CWs k a ra ia rr ii z2) hx hb hml hown hts hG hA hP hD hS hl.1 (List.range 38) (List.range' 38 149) (t9 _) (ci := 7) (q0 := 0) rfl rfl gL_law_X9_heavy rfl ⟨rfl, rfl, Nat.le_of_ble_eq_true rfl, Nat.le_of_ble_eq_true rfl⟩ (by decide +kernel) (rng_l _ _ _ (MWlen k v y)) (rng_r _ _ _ _ (MWlen k v y) (CWlen k a ra ia rr ii z2)) nd2 ⟨rfl, rfl, Nat.le_of_ble_eq_true rfl, Nat.le_of_ble_eq_true rfl, Nat.le_of_ble_eq_true rfl⟩ dL_law_743 (fun r2 u2 H locs e2 hP hD hS => ?_)
  obtain ⟨hP, hD⟩ := cv (w' := CWs k a ra ia rr ii z2 ++ moW k v y2) hP hD rfl
  refine lv_pop hx hb dL_law_746 rfl ?_
  refine lv_goto (tgt := 1126) hx hb dL_law_747 (by decide) ?_
  exact KK z2 y2 G2 H locs ls hP hD hS hl
set_option maxHeartbeats 4000000 in
set_option maxRecDepth 100000 in
theorem law_case_22 {p : Program} {e : Env} {s : State} {m : MethodId} {below : List Frame} {meth : Method} {c : Code} (l : Launch) {b L : Nat} {xs : Nat → Int32} (hL : L ≤ 3072) (C0 : lw_At p s m meth c b L xs) {D : va_G} {k : Nat → ClassId} (hG : GK D k s) {ad tv ad2 tv2 : Nat → Nat} (hE : EX ad tv (A0 s) s) (hE2 : EY ad2 tv2 (A0 s) s) {a ra ia v : Nat → Nat} {rr ii : Nat → Option Nat} (hq : RQ ra ia rr ii) {i : Int32} (hi0 : 0 ≤ i.toInt) (hi1 : i.toInt + 6 ≤ (L : Int)) {z : CSt} {y : OB} (hk : GLs z y) {H : Heap} {locs : List Loc} {ls : Array Slot} (hP : va_P D vwCl (CWs k a ra ia rr ii z ++ moW k v y) H) (hD : va_D (A0 s) (CWs k a ra ia rr ii z ++ moW k v y)) (hS : va_S (A0 s) s.heap H locs) (hl : lv_has ls 4 [(3, .int i), (2, .ref (v 0)), (1, .ref (a 0)), (0, .ref b)]) (KK : ∀ (z : CSt) (y : OB), GLs z y → ∀ (H : Heap) (locs : List Loc) (ls : Array Slot), va_P D vwCl (CWs k a ra ia rr ii z ++ moW k v y) H → va_D (A0 s) (CWs k a ra ia rr ii z ++ moW k v y) → va_S (A0 s) s.heap H locs → lv_has ls 4 [(3, .int i), (2, .ref (v 0)), (1, .ref (a 0)), (0, .ref b)] → W p l e room_1 s m #[Value.ref b] below meth c H locs 187 14115 (lw_Z below #[Value.ref b] s) (F0 m 1126 ls [])) : W p l e room_1 s m #[Value.ref b] below meth c H locs 187 14115 (lw_Z below #[Value.ref b] s) (F0 m 750 ls []) := by
  obtain ⟨hx, hb, hr, hml, hown, hts, hX, hbl, hlocks, hgv⟩ := id C0
  have hown : s.vm.findClass RL = some m.cls := hown
  have hA : ∀ q : Nat, s.heap.size ≤ q → A0 s q := fun _ h => h
  have hbA : ¬ A0 s b := Nat.not_le.mpr hbl
  refine lv_aload_n hx hb dL_law_750 rfl (lv_at hl 2 rfl) ?_
  refine lv_aload_n hx hb dL_law_751 rfl (lv_at hl 3 rfl) ?_
  refine lv_iload_n hx hb dL_law_752 rfl (lv_at hl 0 rfl) ?_
  refine lv_iconst (v := 1) hx hb dL_law_753 (by decide) ?_
  refine lv_iadd hx hb dL_law_754 ?_
  refine lv_topi (fun w1_1 ew1_1 => ?_)
  have tw1_1 : w1_1.toInt = i.toInt + 1 := ai_add rfl (by decide) ew1_1 (by omega) (by omega)
  refine va_sld hx hb hX hbl hbA hS (i := w1_1) (vp_in_iff.mpr ⟨by omega, by omega⟩) dL_law_755 ?_
  refine lv_topi (fun x1_1 ex1_1 => ?_)
  obtain ⟨r0, z2, y2, t8, t9, G2⟩ := t_strung l D k a ra ia v rr ii hq z y hk x1_1
  refine hc_Vi (As := [.int x1_1]) (rest := []) (n := 1) (wr := moW k v y) hx hb hml hown hts hG hA hP hD hS hl.1 (List.range 149) (List.range' 149 38) (t8 _) (ci := 6) (q0 := 0) rfl rfl gL_law_X8_strung rfl ⟨rfl, rfl, Nat.le_of_ble_eq_true rfl, Nat.le_of_ble_eq_true rfl⟩ (by decide +kernel) (rng_l _ _ _ (CWlen k a ra ia rr ii z)) (rng_r _ _ _ _ (CWlen k a ra ia rr ii z) (MWlen k v y)) nd1 ⟨rfl, rfl, Nat.le_of_ble_eq_true rfl, Nat.le_of_ble_eq_true rfl, Nat.le_of_ble_eq_true rfl⟩ dL_law_756 (fun r1 u1 H locs e1 hP hD hS => ?_)
  obtain ⟨hP, hD⟩ := cv (w' := moW k v y ++ CWs k a ra ia rr ii z2) hP hD rfl
  refine lv_pop hx hb dL_law_759 rfl ?_
  refine lv_aload_n hx hb dL_law_760 rfl (lv_at hl 1 rfl) ?_
  refine lv_aload_n hx hb dL_law_761 rfl (lv_at hl 3 rfl) ?_
  refine lv_iload_n hx hb dL_law_762 rfl (lv_at hl 0 rfl) ?_
  refine lv_iconst (v := 1) hx hb dL_law_763 (by decide) ?_
  refine lv_iadd hx hb dL_law_764 ?_
  refine lv_topi (fun w2_1 ew2_1 => ?_)
  have tw2_1 : w2_1.toInt = i.toInt + 1 := ai_add rfl (by decide) ew2_1 (by omega) (by omega)
  refine va_sld hx hb hX hbl hbA hS (i := w2_1) (vp_in_iff.mpr ⟨by omega, by omega⟩) dL_law_765 ?_
  refine lv_topi (fun x2_1 ex2_1 => ?_)
  have ex1 : x2_1 = x1_1 := by rw [ex2_1, ew2_1, ex1_1, ew1_1]
  rw [← ex1] at t9
  refine hc_Vi (As := [.int x2_1]) (rest := []) (n := 1) (wr := CWs k a ra ia rr ii z2) hx hb hml hown hts hG hA hP hD hS hl.1 (List.range 38) (List.range' 38 149) (t9 _) (ci := 7) (q0 := 0) rfl rfl gL_law_X9_strung rfl ⟨rfl, rfl, Nat.le_of_ble_eq_true rfl, Nat.le_of_ble_eq_true rfl⟩ (by decide +kernel) (rng_l _ _ _ (MWlen k v y)) (rng_r _ _ _ _ (MWlen k v y) (CWlen k a ra ia rr ii z2)) nd2 ⟨rfl, rfl, Nat.le_of_ble_eq_true rfl, Nat.le_of_ble_eq_true rfl, Nat.le_of_ble_eq_true rfl⟩ dL_law_766 (fun r2 u2 H locs e2 hP hD hS => ?_)
  obtain ⟨hP, hD⟩ := cv (w' := CWs k a ra ia rr ii z2 ++ moW k v y2) hP hD rfl
  refine lv_pop hx hb dL_law_769 rfl ?_
  refine lv_goto (tgt := 1126) hx hb dL_law_770 (by decide) ?_
  exact KK z2 y2 G2 H locs ls hP hD hS hl
set_option maxHeartbeats 4000000 in
set_option maxRecDepth 100000 in
theorem law_case_23 {p : Program} {e : Env} {s : State} {m : MethodId} {below : List Frame} {meth : Method} {c : Code} (l : Launch) {b L : Nat} {xs : Nat → Int32} (hL : L ≤ 3072) (C0 : lw_At p s m meth c b L xs) {D : va_G} {k : Nat → ClassId} (hG : GK D k s) {ad tv ad2 tv2 : Nat → Nat} (hE : EX ad tv (A0 s) s) (hE2 : EY ad2 tv2 (A0 s) s) {a ra ia v : Nat → Nat} {rr ii : Nat → Option Nat} (hq : RQ ra ia rr ii) {i : Int32} (hi0 : 0 ≤ i.toInt) (hi1 : i.toInt + 6 ≤ (L : Int)) {z : CSt} {y : OB} (hk : GLs z y) {H : Heap} {locs : List Loc} {ls : Array Slot} (hP : va_P D vwCl (CWs k a ra ia rr ii z ++ moW k v y) H) (hD : va_D (A0 s) (CWs k a ra ia rr ii z ++ moW k v y)) (hS : va_S (A0 s) s.heap H locs) (hl : lv_has ls 4 [(3, .int i), (2, .ref (v 0)), (1, .ref (a 0)), (0, .ref b)]) (KK : ∀ (z : CSt) (y : OB), GLs z y → ∀ (H : Heap) (locs : List Loc) (ls : Array Slot), va_P D vwCl (CWs k a ra ia rr ii z ++ moW k v y) H → va_D (A0 s) (CWs k a ra ia rr ii z ++ moW k v y) → va_S (A0 s) s.heap H locs → lv_has ls 4 [(3, .int i), (2, .ref (v 0)), (1, .ref (a 0)), (0, .ref b)] → W p l e room_1 s m #[Value.ref b] below meth c H locs 187 14115 (lw_Z below #[Value.ref b] s) (F0 m 1126 ls [])) : W p l e room_1 s m #[Value.ref b] below meth c H locs 187 14115 (lw_Z below #[Value.ref b] s) (F0 m 773 ls []) := by
  obtain ⟨hx, hb, hr, hml, hown, hts, hX, hbl, hlocks, hgv⟩ := id C0
  have hown : s.vm.findClass RL = some m.cls := hown
  have hA : ∀ q : Nat, s.heap.size ≤ q → A0 s q := fun _ h => h
  have hbA : ¬ A0 s b := Nat.not_le.mpr hbl
  refine lv_aload_n hx hb dL_law_773 rfl (lv_at hl 2 rfl) ?_
  refine lv_aload_n hx hb dL_law_774 rfl (lv_at hl 3 rfl) ?_
  refine lv_iload_n hx hb dL_law_775 rfl (lv_at hl 0 rfl) ?_
  refine lv_iconst (v := 1) hx hb dL_law_776 (by decide) ?_
  refine lv_iadd hx hb dL_law_777 ?_
  refine lv_topi (fun w1_1 ew1_1 => ?_)
  have tw1_1 : w1_1.toInt = i.toInt + 1 := ai_add rfl (by decide) ew1_1 (by omega) (by omega)
  refine va_sld hx hb hX hbl hbA hS (i := w1_1) (vp_in_iff.mpr ⟨by omega, by omega⟩) dL_law_778 ?_
  refine lv_topi (fun x1_1 ex1_1 => ?_)
  refine lv_aload_n hx hb dL_law_779 rfl (lv_at hl 3 rfl) ?_
  refine lv_iload_n hx hb dL_law_780 rfl (lv_at hl 0 rfl) ?_
  refine lv_iconst (v := 2) hx hb dL_law_781 (by decide) ?_
  refine lv_iadd hx hb dL_law_782 ?_
  refine lv_topi (fun w1_2 ew1_2 => ?_)
  have tw1_2 : w1_2.toInt = i.toInt + 2 := ai_add rfl (by decide) ew1_2 (by omega) (by omega)
  refine va_sld hx hb hX hbl hbA hS (i := w1_2) (vp_in_iff.mpr ⟨by omega, by omega⟩) dL_law_783 ?_
  refine lv_topi (fun x1_2 ex1_2 => ?_)
  refine lv_aload_n hx hb dL_law_784 rfl (lv_at hl 3 rfl) ?_
  refine lv_iload_n hx hb dL_law_785 rfl (lv_at hl 0 rfl) ?_
  refine lv_iconst (v := 3) hx hb dL_law_786 (by decide) ?_
  refine lv_iadd hx hb dL_law_787 ?_
  refine lv_topi (fun w1_3 ew1_3 => ?_)
  have tw1_3 : w1_3.toInt = i.toInt + 3 := ai_add rfl (by decide) ew1_3 (by omega) (by omega)
  refine va_sld hx hb hX hbl hbA hS (i := w1_3) (vp_in_iff.mpr ⟨by omega, by omega⟩) dL_law_788 ?_
  refine lv_topi (fun x1_3 ex1_3 => ?_)
  refine lv_aload_n hx hb dL_law_789 rfl (lv_at hl 3 rfl) ?_
  refine lv_iload_n hx hb dL_law_790 rfl (lv_at hl 0 rfl) ?_
  refine lv_iconst (v := 4) hx hb dL_law_791 (by decide) ?_
  refine lv_iadd hx hb dL_law_792 ?_
  refine lv_topi (fun w1_4 ew1_4 => ?_)
  have tw1_4 : w1_4.toInt = i.toInt + 4 := ai_add rfl (by decide) ew1_4 (by omega) (by omega)
  refine va_sld hx hb hX hbl hbA hS (i := w1_4) (vp_in_iff.mpr ⟨by omega, by omega⟩) dL_law_793 ?_
  refine lv_topi (fun x1_4 ex1_4 => ?_)
  obtain ⟨r0, z2, y2, t8, t9, G2⟩ := t_rests l D k a ra ia v rr ii hq z y hk x1_1 x1_2 x1_3 x1_4
  refine hc_Vi (As := [.int x1_1, .int x1_2, .int x1_3, .int x1_4]) (rest := []) (n := 4) (wr := moW k v y) hx hb hml hown hts hG hA hP hD hS hl.1 (List.range 149) (List.range' 149 38) (t8 _) (ci := 6) (q0 := 0) rfl rfl gL_law_X8_rests rfl ⟨rfl, rfl, Nat.le_of_ble_eq_true rfl, Nat.le_of_ble_eq_true rfl⟩ (by decide +kernel) (rng_l _ _ _ (CWlen k a ra ia rr ii z)) (rng_r _ _ _ _ (CWlen k a ra ia rr ii z) (MWlen k v y)) nd1 ⟨rfl, rfl, Nat.le_of_ble_eq_true rfl, Nat.le_of_ble_eq_true rfl, Nat.le_of_ble_eq_true rfl⟩ dL_law_794 (fun r1 u1 H locs e1 hP hD hS => ?_)
  obtain ⟨hP, hD⟩ := cv (w' := moW k v y ++ CWs k a ra ia rr ii z2) hP hD rfl
  refine lv_pop hx hb dL_law_797 rfl ?_
  refine lv_aload_n hx hb dL_law_798 rfl (lv_at hl 1 rfl) ?_
  refine lv_aload_n hx hb dL_law_799 rfl (lv_at hl 3 rfl) ?_
  refine lv_iload_n hx hb dL_law_800 rfl (lv_at hl 0 rfl) ?_
  refine lv_iconst (v := 1) hx hb dL_law_801 (by decide) ?_
  refine lv_iadd hx hb dL_law_802 ?_
  refine lv_topi (fun w2_1 ew2_1 => ?_)
  have tw2_1 : w2_1.toInt = i.toInt + 1 := ai_add rfl (by decide) ew2_1 (by omega) (by omega)
  refine va_sld hx hb hX hbl hbA hS (i := w2_1) (vp_in_iff.mpr ⟨by omega, by omega⟩) dL_law_803 ?_
  refine lv_topi (fun x2_1 ex2_1 => ?_)
  refine lv_aload_n hx hb dL_law_804 rfl (lv_at hl 3 rfl) ?_
  refine lv_iload_n hx hb dL_law_805 rfl (lv_at hl 0 rfl) ?_
  refine lv_iconst (v := 2) hx hb dL_law_806 (by decide) ?_
  refine lv_iadd hx hb dL_law_807 ?_
  refine lv_topi (fun w2_2 ew2_2 => ?_)
  have tw2_2 : w2_2.toInt = i.toInt + 2 := ai_add rfl (by decide) ew2_2 (by omega) (by omega)
  refine va_sld hx hb hX hbl hbA hS (i := w2_2) (vp_in_iff.mpr ⟨by omega, by omega⟩) dL_law_808 ?_
  refine lv_topi (fun x2_2 ex2_2 => ?_)
  refine lv_aload_n hx hb dL_law_809 rfl (lv_at hl 3 rfl) ?_
  refine lv_iload_n hx hb dL_law_810 rfl (lv_at hl 0 rfl) ?_
  refine lv_iconst (v := 3) hx hb dL_law_811 (by decide) ?_
  refine lv_iadd hx hb dL_law_812 ?_
  refine lv_topi (fun w2_3 ew2_3 => ?_)
  have tw2_3 : w2_3.toInt = i.toInt + 3 := ai_add rfl (by decide) ew2_3 (by omega) (by omega)
  refine va_sld hx hb hX hbl hbA hS (i := w2_3) (vp_in_iff.mpr ⟨by omega, by omega⟩) dL_law_813 ?_
  refine lv_topi (fun x2_3 ex2_3 => ?_)
  refine lv_aload_n hx hb dL_law_814 rfl (lv_at hl 3 rfl) ?_
  refine lv_iload_n hx hb dL_law_815 rfl (lv_at hl 0 rfl) ?_
  refine lv_iconst (v := 4) hx hb dL_law_816 (by decide) ?_
  refine lv_iadd hx hb dL_law_817 ?_
  refine lv_topi (fun w2_4 ew2_4 => ?_)
  have tw2_4 : w2_4.toInt = i.toInt + 4 := ai_add rfl (by decide) ew2_4 (by omega) (by omega)
  refine va_sld hx hb hX hbl hbA hS (i := w2_4) (vp_in_iff.mpr ⟨by omega, by omega⟩) dL_law_818 ?_
  refine lv_topi (fun x2_4 ex2_4 => ?_)
  have ex1 : x2_1 = x1_1 := by rw [ex2_1, ew2_1, ex1_1, ew1_1]
  rw [← ex1] at t9
  have ex2 : x2_2 = x1_2 := by rw [ex2_2, ew2_2, ex1_2, ew1_2]
  rw [← ex2] at t9
  have ex3 : x2_3 = x1_3 := by rw [ex2_3, ew2_3, ex1_3, ew1_3]
  rw [← ex3] at t9
  have ex4 : x2_4 = x1_4 := by rw [ex2_4, ew2_4, ex1_4, ew1_4]
  rw [← ex4] at t9
  refine hc_Vi (As := [.int x2_1, .int x2_2, .int x2_3, .int x2_4]) (rest := []) (n := 4) (wr := CWs k a ra ia rr ii z2) hx hb hml hown hts hG hA hP hD hS hl.1 (List.range 38) (List.range' 38 149) (t9 _) (ci := 7) (q0 := 0) rfl rfl gL_law_X9_rests rfl ⟨rfl, rfl, Nat.le_of_ble_eq_true rfl, Nat.le_of_ble_eq_true rfl⟩ (by decide +kernel) (rng_l _ _ _ (MWlen k v y)) (rng_r _ _ _ _ (MWlen k v y) (CWlen k a ra ia rr ii z2)) nd2 ⟨rfl, rfl, Nat.le_of_ble_eq_true rfl, Nat.le_of_ble_eq_true rfl, Nat.le_of_ble_eq_true rfl⟩ dL_law_819 (fun r2 u2 H locs e2 hP hD hS => ?_)
  obtain ⟨hP, hD⟩ := cv (w' := CWs k a ra ia rr ii z2 ++ moW k v y2) hP hD rfl
  refine lv_pop hx hb dL_law_822 rfl ?_
  refine lv_goto (tgt := 1126) hx hb dL_law_823 (by decide) ?_
  exact KK z2 y2 G2 H locs ls hP hD hS hl
set_option maxHeartbeats 4000000 in
set_option maxRecDepth 100000 in
theorem law_case_24 {p : Program} {e : Env} {s : State} {m : MethodId} {below : List Frame} {meth : Method} {c : Code} (l : Launch) {b L : Nat} {xs : Nat → Int32} (hL : L ≤ 3072) (C0 : lw_At p s m meth c b L xs) {D : va_G} {k : Nat → ClassId} (hG : GK D k s) {ad tv ad2 tv2 : Nat → Nat} (hE : EX ad tv (A0 s) s) (hE2 : EY ad2 tv2 (A0 s) s) {a ra ia v : Nat → Nat} {rr ii : Nat → Option Nat} (hq : RQ ra ia rr ii) {i : Int32} (hi0 : 0 ≤ i.toInt) (hi1 : i.toInt + 6 ≤ (L : Int)) {z : CSt} {y : OB} (hk : GLs z y) {H : Heap} {locs : List Loc} {ls : Array Slot} (hP : va_P D vwCl (CWs k a ra ia rr ii z ++ moW k v y) H) (hD : va_D (A0 s) (CWs k a ra ia rr ii z ++ moW k v y)) (hS : va_S (A0 s) s.heap H locs) (hl : lv_has ls 4 [(3, .int i), (2, .ref (v 0)), (1, .ref (a 0)), (0, .ref b)]) (KK : ∀ (z : CSt) (y : OB), GLs z y → ∀ (H : Heap) (locs : List Loc) (ls : Array Slot), va_P D vwCl (CWs k a ra ia rr ii z ++ moW k v y) H → va_D (A0 s) (CWs k a ra ia rr ii z ++ moW k v y) → va_S (A0 s) s.heap H locs → lv_has ls 4 [(3, .int i), (2, .ref (v 0)), (1, .ref (a 0)), (0, .ref b)] → W p l e room_1 s m #[Value.ref b] below meth c H locs 187 14115 (lw_Z below #[Value.ref b] s) (F0 m 1126 ls [])) : W p l e room_1 s m #[Value.ref b] below meth c H locs 187 14115 (lw_Z below #[Value.ref b] s) (F0 m 826 ls []) := by
  obtain ⟨hx, hb, hr, hml, hown, hts, hX, hbl, hlocks, hgv⟩ := id C0
  have hown : s.vm.findClass RL = some m.cls := hown
  have hA : ∀ q : Nat, s.heap.size ≤ q → A0 s q := fun _ h => h
  have hbA : ¬ A0 s b := Nat.not_le.mpr hbl
  refine lv_aload_n hx hb dL_law_826 rfl (lv_at hl 2 rfl) ?_
  refine lv_aload_n hx hb dL_law_827 rfl (lv_at hl 3 rfl) ?_
  refine lv_iload_n hx hb dL_law_828 rfl (lv_at hl 0 rfl) ?_
  refine lv_iconst (v := 1) hx hb dL_law_829 (by decide) ?_
  refine lv_iadd hx hb dL_law_830 ?_
  refine lv_topi (fun w1_1 ew1_1 => ?_)
  have tw1_1 : w1_1.toInt = i.toInt + 1 := ai_add rfl (by decide) ew1_1 (by omega) (by omega)
  refine va_sld hx hb hX hbl hbA hS (i := w1_1) (vp_in_iff.mpr ⟨by omega, by omega⟩) dL_law_831 ?_
  refine lv_topi (fun x1_1 ex1_1 => ?_)
  obtain ⟨r0, z2, y2, t8, t9, G2⟩ := t_ring l D k a ra ia v rr ii hq z y hk x1_1
  refine hc_Vi (As := [.int x1_1]) (rest := []) (n := 1) (wr := moW k v y) hx hb hml hown hts hG hA hP hD hS hl.1 (List.range 149) (List.range' 149 38) (t8 _) (ci := 6) (q0 := 0) rfl rfl gL_law_X8_ring rfl ⟨rfl, rfl, Nat.le_of_ble_eq_true rfl, Nat.le_of_ble_eq_true rfl⟩ (by decide +kernel) (rng_l _ _ _ (CWlen k a ra ia rr ii z)) (rng_r _ _ _ _ (CWlen k a ra ia rr ii z) (MWlen k v y)) nd1 ⟨rfl, rfl, Nat.le_of_ble_eq_true rfl, Nat.le_of_ble_eq_true rfl, Nat.le_of_ble_eq_true rfl⟩ dL_law_832 (fun r1 u1 H locs e1 hP hD hS => ?_)
  obtain ⟨hP, hD⟩ := cv (w' := moW k v y ++ CWs k a ra ia rr ii z2) hP hD rfl
  refine lv_pop hx hb dL_law_835 rfl ?_
  refine lv_aload_n hx hb dL_law_836 rfl (lv_at hl 1 rfl) ?_
  refine lv_aload_n hx hb dL_law_837 rfl (lv_at hl 3 rfl) ?_
  refine lv_iload_n hx hb dL_law_838 rfl (lv_at hl 0 rfl) ?_
  refine lv_iconst (v := 1) hx hb dL_law_839 (by decide) ?_
  refine lv_iadd hx hb dL_law_840 ?_
  refine lv_topi (fun w2_1 ew2_1 => ?_)
  have tw2_1 : w2_1.toInt = i.toInt + 1 := ai_add rfl (by decide) ew2_1 (by omega) (by omega)
  refine va_sld hx hb hX hbl hbA hS (i := w2_1) (vp_in_iff.mpr ⟨by omega, by omega⟩) dL_law_841 ?_
  refine lv_topi (fun x2_1 ex2_1 => ?_)
  have ex1 : x2_1 = x1_1 := by rw [ex2_1, ew2_1, ex1_1, ew1_1]
  rw [← ex1] at t9
  refine hc_Vi (As := [.int x2_1]) (rest := []) (n := 1) (wr := CWs k a ra ia rr ii z2) hx hb hml hown hts hG hA hP hD hS hl.1 (List.range 38) (List.range' 38 149) (t9 _) (ci := 7) (q0 := 0) rfl rfl gL_law_X9_ring rfl ⟨rfl, rfl, Nat.le_of_ble_eq_true rfl, Nat.le_of_ble_eq_true rfl⟩ (by decide +kernel) (rng_l _ _ _ (MWlen k v y)) (rng_r _ _ _ _ (MWlen k v y) (CWlen k a ra ia rr ii z2)) nd2 ⟨rfl, rfl, Nat.le_of_ble_eq_true rfl, Nat.le_of_ble_eq_true rfl, Nat.le_of_ble_eq_true rfl⟩ dL_law_842 (fun r2 u2 H locs e2 hP hD hS => ?_)
  obtain ⟨hP, hD⟩ := cv (w' := CWs k a ra ia rr ii z2 ++ moW k v y2) hP hD rfl
  refine lv_pop hx hb dL_law_845 rfl ?_
  refine lv_goto (tgt := 1126) hx hb dL_law_846 (by decide) ?_
  exact KK z2 y2 G2 H locs ls hP hD hS hl
set_option maxHeartbeats 4000000 in
set_option maxRecDepth 100000 in
theorem law_case_25 {p : Program} {e : Env} {s : State} {m : MethodId} {below : List Frame} {meth : Method} {c : Code} (l : Launch) {b L : Nat} {xs : Nat → Int32} (hL : L ≤ 3072) (C0 : lw_At p s m meth c b L xs) {D : va_G} {k : Nat → ClassId} (hG : GK D k s) {ad tv ad2 tv2 : Nat → Nat} (hE : EX ad tv (A0 s) s) (hE2 : EY ad2 tv2 (A0 s) s) {a ra ia v : Nat → Nat} {rr ii : Nat → Option Nat} (hq : RQ ra ia rr ii) {i : Int32} (hi0 : 0 ≤ i.toInt) (hi1 : i.toInt + 6 ≤ (L : Int)) {z : CSt} {y : OB} (hk : GLs z y) {H : Heap} {locs : List Loc} {ls : Array Slot} (hP : va_P D vwCl (CWs k a ra ia rr ii z ++ moW k v y) H) (hD : va_D (A0 s) (CWs k a ra ia rr ii z ++ moW k v y)) (hS : va_S (A0 s) s.heap H locs) (hl : lv_has ls 4 [(3, .int i), (2, .ref (v 0)), (1, .ref (a 0)), (0, .ref b)]) (KK : ∀ (z : CSt) (y : OB), GLs z y → ∀ (H : Heap) (locs : List Loc) (ls : Array Slot), va_P D vwCl (CWs k a ra ia rr ii z ++ moW k v y) H → va_D (A0 s) (CWs k a ra ia rr ii z ++ moW k v y) → va_S (A0 s) s.heap H locs → lv_has ls 4 [(3, .int i), (2, .ref (v 0)), (1, .ref (a 0)), (0, .ref b)] → W p l e room_1 s m #[Value.ref b] below meth c H locs 187 14115 (lw_Z below #[Value.ref b] s) (F0 m 1126 ls [])) : W p l e room_1 s m #[Value.ref b] below meth c H locs 187 14115 (lw_Z below #[Value.ref b] s) (F0 m 849 ls []) := by
  obtain ⟨hx, hb, hr, hml, hown, hts, hX, hbl, hlocks, hgv⟩ := id C0
  have hown : s.vm.findClass RL = some m.cls := hown
  have hA : ∀ q : Nat, s.heap.size ≤ q → A0 s q := fun _ h => h
  have hbA : ¬ A0 s b := Nat.not_le.mpr hbl
  refine lv_aload_n hx hb dL_law_849 rfl (lv_at hl 2 rfl) ?_
  refine lv_aload_n hx hb dL_law_850 rfl (lv_at hl 3 rfl) ?_
  refine lv_iload_n hx hb dL_law_851 rfl (lv_at hl 0 rfl) ?_
  refine lv_iconst (v := 1) hx hb dL_law_852 (by decide) ?_
  refine lv_iadd hx hb dL_law_853 ?_
  refine lv_topi (fun w1_1 ew1_1 => ?_)
  have tw1_1 : w1_1.toInt = i.toInt + 1 := ai_add rfl (by decide) ew1_1 (by omega) (by omega)
  refine va_sld hx hb hX hbl hbA hS (i := w1_1) (vp_in_iff.mpr ⟨by omega, by omega⟩) dL_law_854 ?_
  refine lv_topi (fun x1_1 ex1_1 => ?_)
  refine lv_aload_n hx hb dL_law_855 rfl (lv_at hl 3 rfl) ?_
  refine lv_iload_n hx hb dL_law_856 rfl (lv_at hl 0 rfl) ?_
  refine lv_iconst (v := 2) hx hb dL_law_857 (by decide) ?_
  refine lv_iadd hx hb dL_law_858 ?_
  refine lv_topi (fun w1_2 ew1_2 => ?_)
  have tw1_2 : w1_2.toInt = i.toInt + 2 := ai_add rfl (by decide) ew1_2 (by omega) (by omega)
  refine va_sld hx hb hX hbl hbA hS (i := w1_2) (vp_in_iff.mpr ⟨by omega, by omega⟩) dL_law_859 ?_
  refine lv_topi (fun x1_2 ex1_2 => ?_)
  obtain ⟨r0, z2, y2, t8, t9, G2⟩ := t_pence l D k a ra ia v rr ii hq z y hk x1_1 x1_2
  refine hc_Vi (As := [.int x1_1, .int x1_2]) (rest := []) (n := 2) (wr := moW k v y) hx hb hml hown hts hG hA hP hD hS hl.1 (List.range 149) (List.range' 149 38) (t8 _) (ci := 6) (q0 := 0) rfl rfl gL_law_X8_pence rfl ⟨rfl, rfl, Nat.le_of_ble_eq_true rfl, Nat.le_of_ble_eq_true rfl⟩ (by decide +kernel) (rng_l _ _ _ (CWlen k a ra ia rr ii z)) (rng_r _ _ _ _ (CWlen k a ra ia rr ii z) (MWlen k v y)) nd1 ⟨rfl, rfl, Nat.le_of_ble_eq_true rfl, Nat.le_of_ble_eq_true rfl, Nat.le_of_ble_eq_true rfl⟩ dL_law_860 (fun r1 u1 H locs e1 hP hD hS => ?_)
  obtain ⟨hP, hD⟩ := cv (w' := moW k v y ++ CWs k a ra ia rr ii z2) hP hD rfl
  refine lv_pop hx hb dL_law_863 rfl ?_
  refine lv_aload_n hx hb dL_law_864 rfl (lv_at hl 1 rfl) ?_
  refine lv_aload_n hx hb dL_law_865 rfl (lv_at hl 3 rfl) ?_
  refine lv_iload_n hx hb dL_law_866 rfl (lv_at hl 0 rfl) ?_
  refine lv_iconst (v := 1) hx hb dL_law_867 (by decide) ?_
  refine lv_iadd hx hb dL_law_868 ?_
  refine lv_topi (fun w2_1 ew2_1 => ?_)
  have tw2_1 : w2_1.toInt = i.toInt + 1 := ai_add rfl (by decide) ew2_1 (by omega) (by omega)
  refine va_sld hx hb hX hbl hbA hS (i := w2_1) (vp_in_iff.mpr ⟨by omega, by omega⟩) dL_law_869 ?_
  refine lv_topi (fun x2_1 ex2_1 => ?_)
  refine lv_aload_n hx hb dL_law_870 rfl (lv_at hl 3 rfl) ?_
  refine lv_iload_n hx hb dL_law_871 rfl (lv_at hl 0 rfl) ?_
  refine lv_iconst (v := 2) hx hb dL_law_872 (by decide) ?_
  refine lv_iadd hx hb dL_law_873 ?_
  refine lv_topi (fun w2_2 ew2_2 => ?_)
  have tw2_2 : w2_2.toInt = i.toInt + 2 := ai_add rfl (by decide) ew2_2 (by omega) (by omega)
  refine va_sld hx hb hX hbl hbA hS (i := w2_2) (vp_in_iff.mpr ⟨by omega, by omega⟩) dL_law_874 ?_
  refine lv_topi (fun x2_2 ex2_2 => ?_)
  have ex1 : x2_1 = x1_1 := by rw [ex2_1, ew2_1, ex1_1, ew1_1]
  rw [← ex1] at t9
  have ex2 : x2_2 = x1_2 := by rw [ex2_2, ew2_2, ex1_2, ew1_2]
  rw [← ex2] at t9
  refine hc_Vi (As := [.int x2_1, .int x2_2]) (rest := []) (n := 2) (wr := CWs k a ra ia rr ii z2) hx hb hml hown hts hG hA hP hD hS hl.1 (List.range 38) (List.range' 38 149) (t9 _) (ci := 7) (q0 := 0) rfl rfl gL_law_X9_pence rfl ⟨rfl, rfl, Nat.le_of_ble_eq_true rfl, Nat.le_of_ble_eq_true rfl⟩ (by decide +kernel) (rng_l _ _ _ (MWlen k v y)) (rng_r _ _ _ _ (MWlen k v y) (CWlen k a ra ia rr ii z2)) nd2 ⟨rfl, rfl, Nat.le_of_ble_eq_true rfl, Nat.le_of_ble_eq_true rfl, Nat.le_of_ble_eq_true rfl⟩ dL_law_875 (fun r2 u2 H locs e2 hP hD hS => ?_)
  obtain ⟨hP, hD⟩ := cv (w' := CWs k a ra ia rr ii z2 ++ moW k v y2) hP hD rfl
  refine lv_pop hx hb dL_law_878 rfl ?_
  refine lv_goto (tgt := 1126) hx hb dL_law_879 (by decide) ?_
  exact KK z2 y2 G2 H locs ls hP hD hS hl
set_option maxHeartbeats 4000000 in
set_option maxRecDepth 100000 in
theorem law_case_26 {p : Program} {e : Env} {s : State} {m : MethodId} {below : List Frame} {meth : Method} {c : Code} (l : Launch) {b L : Nat} {xs : Nat → Int32} (hL : L ≤ 3072) (C0 : lw_At p s m meth c b L xs) {D : va_G} {k : Nat → ClassId} (hG : GK D k s) {ad tv ad2 tv2 : Nat → Nat} (hE : EX ad tv (A0 s) s) (hE2 : EY ad2 tv2 (A0 s) s) {a ra ia v : Nat → Nat} {rr ii : Nat → Option Nat} (hq : RQ ra ia rr ii) {i : Int32} (hi0 : 0 ≤ i.toInt) (hi1 : i.toInt + 6 ≤ (L : Int)) {z : CSt} {y : OB} (hk : GLs z y) {H : Heap} {locs : List Loc} {ls : Array Slot} (hP : va_P D vwCl (CWs k a ra ia rr ii z ++ moW k v y) H) (hD : va_D (A0 s) (CWs k a ra ia rr ii z ++ moW k v y)) (hS : va_S (A0 s) s.heap H locs) (hl : lv_has ls 4 [(3, .int i), (2, .ref (v 0)), (1, .ref (a 0)), (0, .ref b)]) (KK : ∀ (z : CSt) (y : OB), GLs z y → ∀ (H : Heap) (locs : List Loc) (ls : Array Slot), va_P D vwCl (CWs k a ra ia rr ii z ++ moW k v y) H → va_D (A0 s) (CWs k a ra ia rr ii z ++ moW k v y) → va_S (A0 s) s.heap H locs → lv_has ls 4 [(3, .int i), (2, .ref (v 0)), (1, .ref (a 0)), (0, .ref b)] → W p l e room_1 s m #[Value.ref b] below meth c H locs 187 14115 (lw_Z below #[Value.ref b] s) (F0 m 1126 ls [])) : W p l e room_1 s m #[Value.ref b] below meth c H locs 187 14115 (lw_Z below #[Value.ref b] s) (F0 m 882 ls []) := by
  obtain ⟨hx, hb, hr, hml, hown, hts, hX, hbl, hlocks, hgv⟩ := id C0
  have hown : s.vm.findClass RL = some m.cls := hown
  have hA : ∀ q : Nat, s.heap.size ≤ q → A0 s q := fun _ h => h
  have hbA : ¬ A0 s b := Nat.not_le.mpr hbl
  refine lv_aload_n hx hb dL_law_882 rfl (lv_at hl 2 rfl) ?_
  refine lv_aload_n hx hb dL_law_883 rfl (lv_at hl 3 rfl) ?_
  refine lv_iload_n hx hb dL_law_884 rfl (lv_at hl 0 rfl) ?_
  refine lv_iconst (v := 1) hx hb dL_law_885 (by decide) ?_
  refine lv_iadd hx hb dL_law_886 ?_
  refine lv_topi (fun w1_1 ew1_1 => ?_)
  have tw1_1 : w1_1.toInt = i.toInt + 1 := ai_add rfl (by decide) ew1_1 (by omega) (by omega)
  refine va_sld hx hb hX hbl hbA hS (i := w1_1) (vp_in_iff.mpr ⟨by omega, by omega⟩) dL_law_887 ?_
  refine lv_topi (fun x1_1 ex1_1 => ?_)
  refine lv_aload_n hx hb dL_law_888 rfl (lv_at hl 3 rfl) ?_
  refine lv_iload_n hx hb dL_law_889 rfl (lv_at hl 0 rfl) ?_
  refine lv_iconst (v := 2) hx hb dL_law_890 (by decide) ?_
  refine lv_iadd hx hb dL_law_891 ?_
  refine lv_topi (fun w1_2 ew1_2 => ?_)
  have tw1_2 : w1_2.toInt = i.toInt + 2 := ai_add rfl (by decide) ew1_2 (by omega) (by omega)
  refine va_sld hx hb hX hbl hbA hS (i := w1_2) (vp_in_iff.mpr ⟨by omega, by omega⟩) dL_law_892 ?_
  refine lv_topi (fun x1_2 ex1_2 => ?_)
  refine lv_aload_n hx hb dL_law_893 rfl (lv_at hl 3 rfl) ?_
  refine lv_iload_n hx hb dL_law_894 rfl (lv_at hl 0 rfl) ?_
  refine lv_iconst (v := 3) hx hb dL_law_895 (by decide) ?_
  refine lv_iadd hx hb dL_law_896 ?_
  refine lv_topi (fun w1_3 ew1_3 => ?_)
  have tw1_3 : w1_3.toInt = i.toInt + 3 := ai_add rfl (by decide) ew1_3 (by omega) (by omega)
  refine va_sld hx hb hX hbl hbA hS (i := w1_3) (vp_in_iff.mpr ⟨by omega, by omega⟩) dL_law_897 ?_
  refine lv_topi (fun x1_3 ex1_3 => ?_)
  obtain ⟨r0, z2, y2, t8, t9, G2⟩ := t_note l D k a ra ia v rr ii hq z y hk x1_1 x1_2 x1_3
  refine hc_Vi (As := [.int x1_1, .int x1_2, .int x1_3]) (rest := []) (n := 3) (wr := moW k v y) hx hb hml hown hts hG hA hP hD hS hl.1 (List.range 149) (List.range' 149 38) (t8 _) (ci := 6) (q0 := 0) rfl rfl gL_law_X8_note rfl ⟨rfl, rfl, Nat.le_of_ble_eq_true rfl, Nat.le_of_ble_eq_true rfl⟩ (by decide +kernel) (rng_l _ _ _ (CWlen k a ra ia rr ii z)) (rng_r _ _ _ _ (CWlen k a ra ia rr ii z) (MWlen k v y)) nd1 ⟨rfl, rfl, Nat.le_of_ble_eq_true rfl, Nat.le_of_ble_eq_true rfl, Nat.le_of_ble_eq_true rfl⟩ dL_law_898 (fun r1 u1 H locs e1 hP hD hS => ?_)
  obtain ⟨hP, hD⟩ := cv (w' := moW k v y ++ CWs k a ra ia rr ii z2) hP hD rfl
  refine lv_pop hx hb dL_law_901 rfl ?_
  refine lv_aload_n hx hb dL_law_902 rfl (lv_at hl 1 rfl) ?_
  refine lv_aload_n hx hb dL_law_903 rfl (lv_at hl 3 rfl) ?_
  refine lv_iload_n hx hb dL_law_904 rfl (lv_at hl 0 rfl) ?_
  refine lv_iconst (v := 1) hx hb dL_law_905 (by decide) ?_
  refine lv_iadd hx hb dL_law_906 ?_
  refine lv_topi (fun w2_1 ew2_1 => ?_)
  have tw2_1 : w2_1.toInt = i.toInt + 1 := ai_add rfl (by decide) ew2_1 (by omega) (by omega)
  refine va_sld hx hb hX hbl hbA hS (i := w2_1) (vp_in_iff.mpr ⟨by omega, by omega⟩) dL_law_907 ?_
  refine lv_topi (fun x2_1 ex2_1 => ?_)
  refine lv_aload_n hx hb dL_law_908 rfl (lv_at hl 3 rfl) ?_
  refine lv_iload_n hx hb dL_law_909 rfl (lv_at hl 0 rfl) ?_
  refine lv_iconst (v := 2) hx hb dL_law_910 (by decide) ?_
  refine lv_iadd hx hb dL_law_911 ?_
  refine lv_topi (fun w2_2 ew2_2 => ?_)
  have tw2_2 : w2_2.toInt = i.toInt + 2 := ai_add rfl (by decide) ew2_2 (by omega) (by omega)
  refine va_sld hx hb hX hbl hbA hS (i := w2_2) (vp_in_iff.mpr ⟨by omega, by omega⟩) dL_law_912 ?_
  refine lv_topi (fun x2_2 ex2_2 => ?_)
  refine lv_aload_n hx hb dL_law_913 rfl (lv_at hl 3 rfl) ?_
  refine lv_iload_n hx hb dL_law_914 rfl (lv_at hl 0 rfl) ?_
  refine lv_iconst (v := 3) hx hb dL_law_915 (by decide) ?_
  refine lv_iadd hx hb dL_law_916 ?_
  refine lv_topi (fun w2_3 ew2_3 => ?_)
  have tw2_3 : w2_3.toInt = i.toInt + 3 := ai_add rfl (by decide) ew2_3 (by omega) (by omega)
  refine va_sld hx hb hX hbl hbA hS (i := w2_3) (vp_in_iff.mpr ⟨by omega, by omega⟩) dL_law_917 ?_
  refine lv_topi (fun x2_3 ex2_3 => ?_)
  have ex1 : x2_1 = x1_1 := by rw [ex2_1, ew2_1, ex1_1, ew1_1]
  rw [← ex1] at t9
  have ex2 : x2_2 = x1_2 := by rw [ex2_2, ew2_2, ex1_2, ew1_2]
  rw [← ex2] at t9
  have ex3 : x2_3 = x1_3 := by rw [ex2_3, ew2_3, ex1_3, ew1_3]
  rw [← ex3] at t9
  refine hc_Vi (As := [.int x2_1, .int x2_2, .int x2_3]) (rest := []) (n := 3) (wr := CWs k a ra ia rr ii z2) hx hb hml hown hts hG hA hP hD hS hl.1 (List.range 38) (List.range' 38 149) (t9 _) (ci := 7) (q0 := 0) rfl rfl gL_law_X9_note rfl ⟨rfl, rfl, Nat.le_of_ble_eq_true rfl, Nat.le_of_ble_eq_true rfl⟩ (by decide +kernel) (rng_l _ _ _ (MWlen k v y)) (rng_r _ _ _ _ (MWlen k v y) (CWlen k a ra ia rr ii z2)) nd2 ⟨rfl, rfl, Nat.le_of_ble_eq_true rfl, Nat.le_of_ble_eq_true rfl, Nat.le_of_ble_eq_true rfl⟩ dL_law_918 (fun r2 u2 H locs e2 hP hD hS => ?_)
  obtain ⟨hP, hD⟩ := cv (w' := CWs k a ra ia rr ii z2 ++ moW k v y2) hP hD rfl
  refine lv_pop hx hb dL_law_921 rfl ?_
  refine lv_goto (tgt := 1126) hx hb dL_law_922 (by decide) ?_
  exact KK z2 y2 G2 H locs ls hP hD hS hl
set_option maxHeartbeats 4000000 in
set_option maxRecDepth 100000 in
theorem law_case_27 {p : Program} {e : Env} {s : State} {m : MethodId} {below : List Frame} {meth : Method} {c : Code} (l : Launch) {b L : Nat} {xs : Nat → Int32} (hL : L ≤ 3072) (C0 : lw_At p s m meth c b L xs) {D : va_G} {k : Nat → ClassId} (hG : GK D k s) {ad tv ad2 tv2 : Nat → Nat} (hE : EX ad tv (A0 s) s) (hE2 : EY ad2 tv2 (A0 s) s) {a ra ia v : Nat → Nat} {rr ii : Nat → Option Nat} (hq : RQ ra ia rr ii) {i : Int32} (hi0 : 0 ≤ i.toInt) (hi1 : i.toInt + 6 ≤ (L : Int)) {z : CSt} {y : OB} (hk : GLs z y) {H : Heap} {locs : List Loc} {ls : Array Slot} (hP : va_P D vwCl (CWs k a ra ia rr ii z ++ moW k v y) H) (hD : va_D (A0 s) (CWs k a ra ia rr ii z ++ moW k v y)) (hS : va_S (A0 s) s.heap H locs) (hl : lv_has ls 4 [(3, .int i), (2, .ref (v 0)), (1, .ref (a 0)), (0, .ref b)]) (KK : ∀ (z : CSt) (y : OB), GLs z y → ∀ (H : Heap) (locs : List Loc) (ls : Array Slot), va_P D vwCl (CWs k a ra ia rr ii z ++ moW k v y) H → va_D (A0 s) (CWs k a ra ia rr ii z ++ moW k v y) → va_S (A0 s) s.heap H locs → lv_has ls 4 [(3, .int i), (2, .ref (v 0)), (1, .ref (a 0)), (0, .ref b)] → W p l e room_1 s m #[Value.ref b] below meth c H locs 187 14115 (lw_Z below #[Value.ref b] s) (F0 m 1126 ls [])) : W p l e room_1 s m #[Value.ref b] below meth c H locs 187 14115 (lw_Z below #[Value.ref b] s) (F0 m 925 ls []) := by
  obtain ⟨hx, hb, hr, hml, hown, hts, hX, hbl, hlocks, hgv⟩ := id C0
  have hown : s.vm.findClass RL = some m.cls := hown
  have hA : ∀ q : Nat, s.heap.size ≤ q → A0 s q := fun _ h => h
  have hbA : ¬ A0 s b := Nat.not_le.mpr hbl
  refine lv_aload_n hx hb dL_law_925 rfl (lv_at hl 2 rfl) ?_
  refine lv_aload_n hx hb dL_law_926 rfl (lv_at hl 3 rfl) ?_
  refine lv_iload_n hx hb dL_law_927 rfl (lv_at hl 0 rfl) ?_
  refine lv_iconst (v := 1) hx hb dL_law_928 (by decide) ?_
  refine lv_iadd hx hb dL_law_929 ?_
  refine lv_topi (fun w1_1 ew1_1 => ?_)
  have tw1_1 : w1_1.toInt = i.toInt + 1 := ai_add rfl (by decide) ew1_1 (by omega) (by omega)
  refine va_sld hx hb hX hbl hbA hS (i := w1_1) (vp_in_iff.mpr ⟨by omega, by omega⟩) dL_law_930 ?_
  refine lv_topi (fun x1_1 ex1_1 => ?_)
  obtain ⟨r0, z2, y2, t8, t9, G2⟩ := t_ruled l D k a ra ia v rr ii hq z y hk x1_1
  refine hc_Vi (As := [.int x1_1]) (rest := []) (n := 1) (wr := moW k v y) hx hb hml hown hts hG hA hP hD hS hl.1 (List.range 149) (List.range' 149 38) (t8 _) (ci := 6) (q0 := 0) rfl rfl gL_law_X8_ruled rfl ⟨rfl, rfl, Nat.le_of_ble_eq_true rfl, Nat.le_of_ble_eq_true rfl⟩ (by decide +kernel) (rng_l _ _ _ (CWlen k a ra ia rr ii z)) (rng_r _ _ _ _ (CWlen k a ra ia rr ii z) (MWlen k v y)) nd1 ⟨rfl, rfl, Nat.le_of_ble_eq_true rfl, Nat.le_of_ble_eq_true rfl, Nat.le_of_ble_eq_true rfl⟩ dL_law_931 (fun r1 u1 H locs e1 hP hD hS => ?_)
  obtain ⟨hP, hD⟩ := cv (w' := moW k v y ++ CWs k a ra ia rr ii z2) hP hD rfl
  refine lv_pop hx hb dL_law_934 rfl ?_
  refine lv_aload_n hx hb dL_law_935 rfl (lv_at hl 1 rfl) ?_
  refine lv_aload_n hx hb dL_law_936 rfl (lv_at hl 3 rfl) ?_
  refine lv_iload_n hx hb dL_law_937 rfl (lv_at hl 0 rfl) ?_
  refine lv_iconst (v := 1) hx hb dL_law_938 (by decide) ?_
  refine lv_iadd hx hb dL_law_939 ?_
  refine lv_topi (fun w2_1 ew2_1 => ?_)
  have tw2_1 : w2_1.toInt = i.toInt + 1 := ai_add rfl (by decide) ew2_1 (by omega) (by omega)
  refine va_sld hx hb hX hbl hbA hS (i := w2_1) (vp_in_iff.mpr ⟨by omega, by omega⟩) dL_law_940 ?_
  refine lv_topi (fun x2_1 ex2_1 => ?_)
  have ex1 : x2_1 = x1_1 := by rw [ex2_1, ew2_1, ex1_1, ew1_1]
  rw [← ex1] at t9
  refine hc_Vi (As := [.int x2_1]) (rest := []) (n := 1) (wr := CWs k a ra ia rr ii z2) hx hb hml hown hts hG hA hP hD hS hl.1 (List.range 38) (List.range' 38 149) (t9 _) (ci := 7) (q0 := 0) rfl rfl gL_law_X9_ruled rfl ⟨rfl, rfl, Nat.le_of_ble_eq_true rfl, Nat.le_of_ble_eq_true rfl⟩ (by decide +kernel) (rng_l _ _ _ (MWlen k v y)) (rng_r _ _ _ _ (MWlen k v y) (CWlen k a ra ia rr ii z2)) nd2 ⟨rfl, rfl, Nat.le_of_ble_eq_true rfl, Nat.le_of_ble_eq_true rfl, Nat.le_of_ble_eq_true rfl⟩ dL_law_941 (fun r2 u2 H locs e2 hP hD hS => ?_)
  obtain ⟨hP, hD⟩ := cv (w' := CWs k a ra ia rr ii z2 ++ moW k v y2) hP hD rfl
  refine lv_pop hx hb dL_law_944 rfl ?_
  refine lv_goto (tgt := 1126) hx hb dL_law_945 (by decide) ?_
  exact KK z2 y2 G2 H locs ls hP hD hS hl
set_option maxHeartbeats 4000000 in
set_option maxRecDepth 100000 in
theorem law_case_28 {p : Program} {e : Env} {s : State} {m : MethodId} {below : List Frame} {meth : Method} {c : Code} (l : Launch) {b L : Nat} {xs : Nat → Int32} (hL : L ≤ 3072) (C0 : lw_At p s m meth c b L xs) {D : va_G} {k : Nat → ClassId} (hG : GK D k s) {ad tv ad2 tv2 : Nat → Nat} (hE : EX ad tv (A0 s) s) (hE2 : EY ad2 tv2 (A0 s) s) {a ra ia v : Nat → Nat} {rr ii : Nat → Option Nat} (hq : RQ ra ia rr ii) {i : Int32} (hi0 : 0 ≤ i.toInt) (hi1 : i.toInt + 6 ≤ (L : Int)) {z : CSt} {y : OB} (hk : GLs z y) {H : Heap} {locs : List Loc} {ls : Array Slot} (hP : va_P D vwCl (CWs k a ra ia rr ii z ++ moW k v y) H) (hD : va_D (A0 s) (CWs k a ra ia rr ii z ++ moW k v y)) (hS : va_S (A0 s) s.heap H locs) (hl : lv_has ls 4 [(3, .int i), (2, .ref (v 0)), (1, .ref (a 0)), (0, .ref b)]) (KK : ∀ (z : CSt) (y : OB), GLs z y → ∀ (H : Heap) (locs : List Loc) (ls : Array Slot), va_P D vwCl (CWs k a ra ia rr ii z ++ moW k v y) H → va_D (A0 s) (CWs k a ra ia rr ii z ++ moW k v y) → va_S (A0 s) s.heap H locs → lv_has ls 4 [(3, .int i), (2, .ref (v 0)), (1, .ref (a 0)), (0, .ref b)] → W p l e room_1 s m #[Value.ref b] below meth c H locs 187 14115 (lw_Z below #[Value.ref b] s) (F0 m 1126 ls [])) : W p l e room_1 s m #[Value.ref b] below meth c H locs 187 14115 (lw_Z below #[Value.ref b] s) (F0 m 948 ls []) := by
  obtain ⟨hx, hb, hr, hml, hown, hts, hX, hbl, hlocks, hgv⟩ := id C0
  have hown : s.vm.findClass RL = some m.cls := hown
  have hA : ∀ q : Nat, s.heap.size ≤ q → A0 s q := fun _ h => h
  have hbA : ¬ A0 s b := Nat.not_le.mpr hbl
  refine lv_aload_n hx hb dL_law_948 rfl (lv_at hl 2 rfl) ?_
  refine lv_aload_n hx hb dL_law_949 rfl (lv_at hl 3 rfl) ?_
  refine lv_iload_n hx hb dL_law_950 rfl (lv_at hl 0 rfl) ?_
  refine lv_iconst (v := 1) hx hb dL_law_951 (by decide) ?_
  refine lv_iadd hx hb dL_law_952 ?_
  refine lv_topi (fun w1_1 ew1_1 => ?_)
  have tw1_1 : w1_1.toInt = i.toInt + 1 := ai_add rfl (by decide) ew1_1 (by omega) (by omega)
  refine va_sld hx hb hX hbl hbA hS (i := w1_1) (vp_in_iff.mpr ⟨by omega, by omega⟩) dL_law_953 ?_
  refine lv_topi (fun x1_1 ex1_1 => ?_)
  refine lv_aload_n hx hb dL_law_954 rfl (lv_at hl 3 rfl) ?_
  refine lv_iload_n hx hb dL_law_955 rfl (lv_at hl 0 rfl) ?_
  refine lv_iconst (v := 2) hx hb dL_law_956 (by decide) ?_
  refine lv_iadd hx hb dL_law_957 ?_
  refine lv_topi (fun w1_2 ew1_2 => ?_)
  have tw1_2 : w1_2.toInt = i.toInt + 2 := ai_add rfl (by decide) ew1_2 (by omega) (by omega)
  refine va_sld hx hb hX hbl hbA hS (i := w1_2) (vp_in_iff.mpr ⟨by omega, by omega⟩) dL_law_958 ?_
  refine lv_topi (fun x1_2 ex1_2 => ?_)
  obtain ⟨r0, z2, y2, t8, t9, G2⟩ := t_look l D k a ra ia v rr ii hq z y hk x1_1 x1_2
  refine hc_Vi (As := [.int x1_1, .int x1_2]) (rest := []) (n := 2) (wr := moW k v y) hx hb hml hown hts hG hA hP hD hS hl.1 (List.range 149) (List.range' 149 38) (t8 _) (ci := 6) (q0 := 0) rfl rfl gL_law_X8_look rfl ⟨rfl, rfl, Nat.le_of_ble_eq_true rfl, Nat.le_of_ble_eq_true rfl⟩ (by decide +kernel) (rng_l _ _ _ (CWlen k a ra ia rr ii z)) (rng_r _ _ _ _ (CWlen k a ra ia rr ii z) (MWlen k v y)) nd1 ⟨rfl, rfl, Nat.le_of_ble_eq_true rfl, Nat.le_of_ble_eq_true rfl, Nat.le_of_ble_eq_true rfl⟩ dL_law_959 (fun r1 u1 H locs e1 hP hD hS => ?_)
  obtain ⟨hP, hD⟩ := cv (w' := moW k v y ++ CWs k a ra ia rr ii z2) hP hD rfl
  refine lv_pop hx hb dL_law_962 rfl ?_
  refine lv_aload_n hx hb dL_law_963 rfl (lv_at hl 1 rfl) ?_
  refine lv_aload_n hx hb dL_law_964 rfl (lv_at hl 3 rfl) ?_
  refine lv_iload_n hx hb dL_law_965 rfl (lv_at hl 0 rfl) ?_
  refine lv_iconst (v := 1) hx hb dL_law_966 (by decide) ?_
  refine lv_iadd hx hb dL_law_967 ?_
  refine lv_topi (fun w2_1 ew2_1 => ?_)
  have tw2_1 : w2_1.toInt = i.toInt + 1 := ai_add rfl (by decide) ew2_1 (by omega) (by omega)
  refine va_sld hx hb hX hbl hbA hS (i := w2_1) (vp_in_iff.mpr ⟨by omega, by omega⟩) dL_law_968 ?_
  refine lv_topi (fun x2_1 ex2_1 => ?_)
  refine lv_aload_n hx hb dL_law_969 rfl (lv_at hl 3 rfl) ?_
  refine lv_iload_n hx hb dL_law_970 rfl (lv_at hl 0 rfl) ?_
  refine lv_iconst (v := 2) hx hb dL_law_971 (by decide) ?_
  refine lv_iadd hx hb dL_law_972 ?_
  refine lv_topi (fun w2_2 ew2_2 => ?_)
  have tw2_2 : w2_2.toInt = i.toInt + 2 := ai_add rfl (by decide) ew2_2 (by omega) (by omega)
  refine va_sld hx hb hX hbl hbA hS (i := w2_2) (vp_in_iff.mpr ⟨by omega, by omega⟩) dL_law_973 ?_
  refine lv_topi (fun x2_2 ex2_2 => ?_)
  have ex1 : x2_1 = x1_1 := by rw [ex2_1, ew2_1, ex1_1, ew1_1]
  rw [← ex1] at t9
  have ex2 : x2_2 = x1_2 := by rw [ex2_2, ew2_2, ex1_2, ew1_2]
  rw [← ex2] at t9
  refine hc_Vi (As := [.int x2_1, .int x2_2]) (rest := []) (n := 2) (wr := CWs k a ra ia rr ii z2) hx hb hml hown hts hG hA hP hD hS hl.1 (List.range 38) (List.range' 38 149) (t9 _) (ci := 7) (q0 := 0) rfl rfl gL_law_X9_look rfl ⟨rfl, rfl, Nat.le_of_ble_eq_true rfl, Nat.le_of_ble_eq_true rfl⟩ (by decide +kernel) (rng_l _ _ _ (MWlen k v y)) (rng_r _ _ _ _ (MWlen k v y) (CWlen k a ra ia rr ii z2)) nd2 ⟨rfl, rfl, Nat.le_of_ble_eq_true rfl, Nat.le_of_ble_eq_true rfl, Nat.le_of_ble_eq_true rfl⟩ dL_law_974 (fun r2 u2 H locs e2 hP hD hS => ?_)
  obtain ⟨hP, hD⟩ := cv (w' := CWs k a ra ia rr ii z2 ++ moW k v y2) hP hD rfl
  refine lv_pop hx hb dL_law_977 rfl ?_
  refine lv_goto (tgt := 1126) hx hb dL_law_978 (by decide) ?_
  exact KK z2 y2 G2 H locs ls hP hD hS hl
set_option maxHeartbeats 4000000 in
set_option maxRecDepth 100000 in
theorem law_case_29 {p : Program} {e : Env} {s : State} {m : MethodId} {below : List Frame} {meth : Method} {c : Code} (l : Launch) {b L : Nat} {xs : Nat → Int32} (hL : L ≤ 3072) (C0 : lw_At p s m meth c b L xs) {D : va_G} {k : Nat → ClassId} (hG : GK D k s) {ad tv ad2 tv2 : Nat → Nat} (hE : EX ad tv (A0 s) s) (hE2 : EY ad2 tv2 (A0 s) s) {a ra ia v : Nat → Nat} {rr ii : Nat → Option Nat} (hq : RQ ra ia rr ii) {i : Int32} (hi0 : 0 ≤ i.toInt) (hi1 : i.toInt + 6 ≤ (L : Int)) {z : CSt} {y : OB} (hk : GLs z y) {H : Heap} {locs : List Loc} {ls : Array Slot} (hP : va_P D vwCl (CWs k a ra ia rr ii z ++ moW k v y) H) (hD : va_D (A0 s) (CWs k a ra ia rr ii z ++ moW k v y)) (hS : va_S (A0 s) s.heap H locs) (hl : lv_has ls 4 [(3, .int i), (2, .ref (v 0)), (1, .ref (a 0)), (0, .ref b)]) (KK : ∀ (z : CSt) (y : OB), GLs z y → ∀ (H : Heap) (locs : List Loc) (ls : Array Slot), va_P D vwCl (CWs k a ra ia rr ii z ++ moW k v y) H → va_D (A0 s) (CWs k a ra ia rr ii z ++ moW k v y) → va_S (A0 s) s.heap H locs → lv_has ls 4 [(3, .int i), (2, .ref (v 0)), (1, .ref (a 0)), (0, .ref b)] → W p l e room_1 s m #[Value.ref b] below meth c H locs 187 14115 (lw_Z below #[Value.ref b] s) (F0 m 1126 ls [])) : W p l e room_1 s m #[Value.ref b] below meth c H locs 187 14115 (lw_Z below #[Value.ref b] s) (F0 m 981 ls []) := by
  obtain ⟨hx, hb, hr, hml, hown, hts, hX, hbl, hlocks, hgv⟩ := id C0
  have hown : s.vm.findClass RL = some m.cls := hown
  have hA : ∀ q : Nat, s.heap.size ≤ q → A0 s q := fun _ h => h
  have hbA : ¬ A0 s b := Nat.not_le.mpr hbl
  refine lv_aload_n hx hb dL_law_981 rfl (lv_at hl 2 rfl) ?_
  refine lv_aload_n hx hb dL_law_982 rfl (lv_at hl 3 rfl) ?_
  refine lv_iload_n hx hb dL_law_983 rfl (lv_at hl 0 rfl) ?_
  refine lv_iconst (v := 1) hx hb dL_law_984 (by decide) ?_
  refine lv_iadd hx hb dL_law_985 ?_
  refine lv_topi (fun w1_1 ew1_1 => ?_)
  have tw1_1 : w1_1.toInt = i.toInt + 1 := ai_add rfl (by decide) ew1_1 (by omega) (by omega)
  refine va_sld hx hb hX hbl hbA hS (i := w1_1) (vp_in_iff.mpr ⟨by omega, by omega⟩) dL_law_986 ?_
  refine lv_topi (fun x1_1 ex1_1 => ?_)
  obtain ⟨r0, z2, y2, t8, t9, G2⟩ := t_seed l D k a ra ia v rr ii hq z y hk x1_1
  refine hc_Vi (As := [.int x1_1]) (rest := []) (n := 1) (wr := moW k v y) hx hb hml hown hts hG hA hP hD hS hl.1 (List.range 149) (List.range' 149 38) (t8 _) (ci := 6) (q0 := 0) rfl rfl gL_law_X8_seed rfl ⟨rfl, rfl, Nat.le_of_ble_eq_true rfl, Nat.le_of_ble_eq_true rfl⟩ (by decide +kernel) (rng_l _ _ _ (CWlen k a ra ia rr ii z)) (rng_r _ _ _ _ (CWlen k a ra ia rr ii z) (MWlen k v y)) nd1 ⟨rfl, rfl, Nat.le_of_ble_eq_true rfl, Nat.le_of_ble_eq_true rfl, Nat.le_of_ble_eq_true rfl⟩ dL_law_987 (fun r1 u1 H locs e1 hP hD hS => ?_)
  obtain ⟨hP, hD⟩ := cv (w' := moW k v y ++ CWs k a ra ia rr ii z2) hP hD rfl
  refine lv_pop hx hb dL_law_990 rfl ?_
  refine lv_aload_n hx hb dL_law_991 rfl (lv_at hl 1 rfl) ?_
  refine lv_aload_n hx hb dL_law_992 rfl (lv_at hl 3 rfl) ?_
  refine lv_iload_n hx hb dL_law_993 rfl (lv_at hl 0 rfl) ?_
  refine lv_iconst (v := 1) hx hb dL_law_994 (by decide) ?_
  refine lv_iadd hx hb dL_law_995 ?_
  refine lv_topi (fun w2_1 ew2_1 => ?_)
  have tw2_1 : w2_1.toInt = i.toInt + 1 := ai_add rfl (by decide) ew2_1 (by omega) (by omega)
  refine va_sld hx hb hX hbl hbA hS (i := w2_1) (vp_in_iff.mpr ⟨by omega, by omega⟩) dL_law_996 ?_
  refine lv_topi (fun x2_1 ex2_1 => ?_)
  have ex1 : x2_1 = x1_1 := by rw [ex2_1, ew2_1, ex1_1, ew1_1]
  rw [← ex1] at t9
  refine hc_Vi (As := [.int x2_1]) (rest := []) (n := 1) (wr := CWs k a ra ia rr ii z2) hx hb hml hown hts hG hA hP hD hS hl.1 (List.range 38) (List.range' 38 149) (t9 _) (ci := 7) (q0 := 0) rfl rfl gL_law_X9_seed rfl ⟨rfl, rfl, Nat.le_of_ble_eq_true rfl, Nat.le_of_ble_eq_true rfl⟩ (by decide +kernel) (rng_l _ _ _ (MWlen k v y)) (rng_r _ _ _ _ (MWlen k v y) (CWlen k a ra ia rr ii z2)) nd2 ⟨rfl, rfl, Nat.le_of_ble_eq_true rfl, Nat.le_of_ble_eq_true rfl, Nat.le_of_ble_eq_true rfl⟩ dL_law_997 (fun r2 u2 H locs e2 hP hD hS => ?_)
  obtain ⟨hP, hD⟩ := cv (w' := CWs k a ra ia rr ii z2 ++ moW k v y2) hP hD rfl
  refine lv_pop hx hb dL_law_1000 rfl ?_
  refine lv_goto (tgt := 1126) hx hb dL_law_1001 (by decide) ?_
  exact KK z2 y2 G2 H locs ls hP hD hS hl
set_option maxHeartbeats 4000000 in
set_option maxRecDepth 100000 in
theorem law_case_30 {p : Program} {e : Env} {s : State} {m : MethodId} {below : List Frame} {meth : Method} {c : Code} (l : Launch) {b L : Nat} {xs : Nat → Int32} (hL : L ≤ 3072) (C0 : lw_At p s m meth c b L xs) {D : va_G} {k : Nat → ClassId} (hG : GK D k s) {ad tv ad2 tv2 : Nat → Nat} (hE : EX ad tv (A0 s) s) (hE2 : EY ad2 tv2 (A0 s) s) {a ra ia v : Nat → Nat} {rr ii : Nat → Option Nat} (hq : RQ ra ia rr ii) {i : Int32} (hi0 : 0 ≤ i.toInt) (hi1 : i.toInt + 6 ≤ (L : Int)) {z : CSt} {y : OB} (hk : GLs z y) {H : Heap} {locs : List Loc} {ls : Array Slot} (hP : va_P D vwCl (CWs k a ra ia rr ii z ++ moW k v y) H) (hD : va_D (A0 s) (CWs k a ra ia rr ii z ++ moW k v y)) (hS : va_S (A0 s) s.heap H locs) (hl : lv_has ls 4 [(3, .int i), (2, .ref (v 0)), (1, .ref (a 0)), (0, .ref b)]) (KK : ∀ (z : CSt) (y : OB), GLs z y → ∀ (H : Heap) (locs : List Loc) (ls : Array Slot), va_P D vwCl (CWs k a ra ia rr ii z ++ moW k v y) H → va_D (A0 s) (CWs k a ra ia rr ii z ++ moW k v y) → va_S (A0 s) s.heap H locs → lv_has ls 4 [(3, .int i), (2, .ref (v 0)), (1, .ref (a 0)), (0, .ref b)] → W p l e room_1 s m #[Value.ref b] below meth c H locs 187 14115 (lw_Z below #[Value.ref b] s) (F0 m 1126 ls [])) : W p l e room_1 s m #[Value.ref b] below meth c H locs 187 14115 (lw_Z below #[Value.ref b] s) (F0 m 1004 ls []) := by
  obtain ⟨hx, hb, hr, hml, hown, hts, hX, hbl, hlocks, hgv⟩ := id C0
  have hown : s.vm.findClass RL = some m.cls := hown
  have hA : ∀ q : Nat, s.heap.size ≤ q → A0 s q := fun _ h => h
  have hbA : ¬ A0 s b := Nat.not_le.mpr hbl
  refine lv_aload_n hx hb dL_law_1004 rfl (lv_at hl 2 rfl) ?_
  refine lv_aload_n hx hb dL_law_1005 rfl (lv_at hl 3 rfl) ?_
  refine lv_iload_n hx hb dL_law_1006 rfl (lv_at hl 0 rfl) ?_
  refine lv_iconst (v := 1) hx hb dL_law_1007 (by decide) ?_
  refine lv_iadd hx hb dL_law_1008 ?_
  refine lv_topi (fun w1_1 ew1_1 => ?_)
  have tw1_1 : w1_1.toInt = i.toInt + 1 := ai_add rfl (by decide) ew1_1 (by omega) (by omega)
  refine va_sld hx hb hX hbl hbA hS (i := w1_1) (vp_in_iff.mpr ⟨by omega, by omega⟩) dL_law_1009 ?_
  refine lv_topi (fun x1_1 ex1_1 => ?_)
  refine lv_aload_n hx hb dL_law_1010 rfl (lv_at hl 3 rfl) ?_
  refine lv_iload_n hx hb dL_law_1011 rfl (lv_at hl 0 rfl) ?_
  refine lv_iconst (v := 2) hx hb dL_law_1012 (by decide) ?_
  refine lv_iadd hx hb dL_law_1013 ?_
  refine lv_topi (fun w1_2 ew1_2 => ?_)
  have tw1_2 : w1_2.toInt = i.toInt + 2 := ai_add rfl (by decide) ew1_2 (by omega) (by omega)
  refine va_sld hx hb hX hbl hbA hS (i := w1_2) (vp_in_iff.mpr ⟨by omega, by omega⟩) dL_law_1014 ?_
  refine lv_topi (fun x1_2 ex1_2 => ?_)
  refine lv_aload_n hx hb dL_law_1015 rfl (lv_at hl 3 rfl) ?_
  refine lv_iload_n hx hb dL_law_1016 rfl (lv_at hl 0 rfl) ?_
  refine lv_iconst (v := 3) hx hb dL_law_1017 (by decide) ?_
  refine lv_iadd hx hb dL_law_1018 ?_
  refine lv_topi (fun w1_3 ew1_3 => ?_)
  have tw1_3 : w1_3.toInt = i.toInt + 3 := ai_add rfl (by decide) ew1_3 (by omega) (by omega)
  refine va_sld hx hb hX hbl hbA hS (i := w1_3) (vp_in_iff.mpr ⟨by omega, by omega⟩) dL_law_1019 ?_
  refine lv_topi (fun x1_3 ex1_3 => ?_)
  refine lv_aload_n hx hb dL_law_1020 rfl (lv_at hl 3 rfl) ?_
  refine lv_iload_n hx hb dL_law_1021 rfl (lv_at hl 0 rfl) ?_
  refine lv_iconst (v := 4) hx hb dL_law_1022 (by decide) ?_
  refine lv_iadd hx hb dL_law_1023 ?_
  refine lv_topi (fun w1_4 ew1_4 => ?_)
  have tw1_4 : w1_4.toInt = i.toInt + 4 := ai_add rfl (by decide) ew1_4 (by omega) (by omega)
  refine va_sld hx hb hX hbl hbA hS (i := w1_4) (vp_in_iff.mpr ⟨by omega, by omega⟩) dL_law_1024 ?_
  refine lv_topi (fun x1_4 ex1_4 => ?_)
  obtain ⟨r0, z2, y2, t8, t9, G2⟩ := t_toasts l D k a ra ia v rr ii hq z y hk x1_1 x1_2 x1_3 x1_4
  refine hc_Vi (As := [.int x1_1, .int x1_2, .int x1_3, .int x1_4]) (rest := []) (n := 4) (wr := moW k v y) hx hb hml hown hts hG hA hP hD hS hl.1 (List.range 149) (List.range' 149 38) (t8 _) (ci := 6) (q0 := 0) rfl rfl gL_law_X8_toasts rfl ⟨rfl, rfl, Nat.le_of_ble_eq_true rfl, Nat.le_of_ble_eq_true rfl⟩ (by decide +kernel) (rng_l _ _ _ (CWlen k a ra ia rr ii z)) (rng_r _ _ _ _ (CWlen k a ra ia rr ii z) (MWlen k v y)) nd1 ⟨rfl, rfl, Nat.le_of_ble_eq_true rfl, Nat.le_of_ble_eq_true rfl, Nat.le_of_ble_eq_true rfl⟩ dL_law_1025 (fun r1 u1 H locs e1 hP hD hS => ?_)
  obtain ⟨hP, hD⟩ := cv (w' := moW k v y ++ CWs k a ra ia rr ii z2) hP hD rfl
  refine lv_pop hx hb dL_law_1028 rfl ?_
  refine lv_aload_n hx hb dL_law_1029 rfl (lv_at hl 1 rfl) ?_
  refine lv_aload_n hx hb dL_law_1030 rfl (lv_at hl 3 rfl) ?_
  refine lv_iload_n hx hb dL_law_1031 rfl (lv_at hl 0 rfl) ?_
  refine lv_iconst (v := 1) hx hb dL_law_1032 (by decide) ?_
  refine lv_iadd hx hb dL_law_1033 ?_
  refine lv_topi (fun w2_1 ew2_1 => ?_)
  have tw2_1 : w2_1.toInt = i.toInt + 1 := ai_add rfl (by decide) ew2_1 (by omega) (by omega)
  refine va_sld hx hb hX hbl hbA hS (i := w2_1) (vp_in_iff.mpr ⟨by omega, by omega⟩) dL_law_1034 ?_
  refine lv_topi (fun x2_1 ex2_1 => ?_)
  refine lv_aload_n hx hb dL_law_1035 rfl (lv_at hl 3 rfl) ?_
  refine lv_iload_n hx hb dL_law_1036 rfl (lv_at hl 0 rfl) ?_
  refine lv_iconst (v := 2) hx hb dL_law_1037 (by decide) ?_
  refine lv_iadd hx hb dL_law_1038 ?_
  refine lv_topi (fun w2_2 ew2_2 => ?_)
  have tw2_2 : w2_2.toInt = i.toInt + 2 := ai_add rfl (by decide) ew2_2 (by omega) (by omega)
  refine va_sld hx hb hX hbl hbA hS (i := w2_2) (vp_in_iff.mpr ⟨by omega, by omega⟩) dL_law_1039 ?_
  refine lv_topi (fun x2_2 ex2_2 => ?_)
  refine lv_aload_n hx hb dL_law_1040 rfl (lv_at hl 3 rfl) ?_
  refine lv_iload_n hx hb dL_law_1041 rfl (lv_at hl 0 rfl) ?_
  refine lv_iconst (v := 3) hx hb dL_law_1042 (by decide) ?_
  refine lv_iadd hx hb dL_law_1043 ?_
  refine lv_topi (fun w2_3 ew2_3 => ?_)
  have tw2_3 : w2_3.toInt = i.toInt + 3 := ai_add rfl (by decide) ew2_3 (by omega) (by omega)
  refine va_sld hx hb hX hbl hbA hS (i := w2_3) (vp_in_iff.mpr ⟨by omega, by omega⟩) dL_law_1044 ?_
  refine lv_topi (fun x2_3 ex2_3 => ?_)
  refine lv_aload_n hx hb dL_law_1045 rfl (lv_at hl 3 rfl) ?_
  refine lv_iload_n hx hb dL_law_1046 rfl (lv_at hl 0 rfl) ?_
  refine lv_iconst (v := 4) hx hb dL_law_1047 (by decide) ?_
  refine lv_iadd hx hb dL_law_1048 ?_
  refine lv_topi (fun w2_4 ew2_4 => ?_)
  have tw2_4 : w2_4.toInt = i.toInt + 4 := ai_add rfl (by decide) ew2_4 (by omega) (by omega)
  refine va_sld hx hb hX hbl hbA hS (i := w2_4) (vp_in_iff.mpr ⟨by omega, by omega⟩) dL_law_1049 ?_
  refine lv_topi (fun x2_4 ex2_4 => ?_)
  have ex1 : x2_1 = x1_1 := by rw [ex2_1, ew2_1, ex1_1, ew1_1]
  rw [← ex1] at t9
  have ex2 : x2_2 = x1_2 := by rw [ex2_2, ew2_2, ex1_2, ew1_2]
  rw [← ex2] at t9
  have ex3 : x2_3 = x1_3 := by rw [ex2_3, ew2_3, ex1_3, ew1_3]
  rw [← ex3] at t9
  have ex4 : x2_4 = x1_4 := by rw [ex2_4, ew2_4, ex1_4, ew1_4]
  rw [← ex4] at t9
  refine hc_Vi (As := [.int x2_1, .int x2_2, .int x2_3, .int x2_4]) (rest := []) (n := 4) (wr := CWs k a ra ia rr ii z2) hx hb hml hown hts hG hA hP hD hS hl.1 (List.range 38) (List.range' 38 149) (t9 _) (ci := 7) (q0 := 0) rfl rfl gL_law_X9_toasts rfl ⟨rfl, rfl, Nat.le_of_ble_eq_true rfl, Nat.le_of_ble_eq_true rfl⟩ (by decide +kernel) (rng_l _ _ _ (MWlen k v y)) (rng_r _ _ _ _ (MWlen k v y) (CWlen k a ra ia rr ii z2)) nd2 ⟨rfl, rfl, Nat.le_of_ble_eq_true rfl, Nat.le_of_ble_eq_true rfl, Nat.le_of_ble_eq_true rfl⟩ dL_law_1050 (fun r2 u2 H locs e2 hP hD hS => ?_)
  obtain ⟨hP, hD⟩ := cv (w' := CWs k a ra ia rr ii z2 ++ moW k v y2) hP hD rfl
  refine lv_pop hx hb dL_law_1053 rfl ?_
  refine lv_goto (tgt := 1126) hx hb dL_law_1054 (by decide) ?_
  exact KK z2 y2 G2 H locs ls hP hD hS hl
set_option maxHeartbeats 4000000 in
set_option maxRecDepth 100000 in
theorem law_case_31 {p : Program} {e : Env} {s : State} {m : MethodId} {below : List Frame} {meth : Method} {c : Code} (l : Launch) {b L : Nat} {xs : Nat → Int32} (hL : L ≤ 3072) (C0 : lw_At p s m meth c b L xs) {D : va_G} {k : Nat → ClassId} (hG : GK D k s) {ad tv ad2 tv2 : Nat → Nat} (hE : EX ad tv (A0 s) s) (hE2 : EY ad2 tv2 (A0 s) s) {a ra ia v : Nat → Nat} {rr ii : Nat → Option Nat} (hq : RQ ra ia rr ii) {i : Int32} (hi0 : 0 ≤ i.toInt) (hi1 : i.toInt + 6 ≤ (L : Int)) {z : CSt} {y : OB} (hk : GLs z y) {H : Heap} {locs : List Loc} {ls : Array Slot} (hP : va_P D vwCl (CWs k a ra ia rr ii z ++ moW k v y) H) (hD : va_D (A0 s) (CWs k a ra ia rr ii z ++ moW k v y)) (hS : va_S (A0 s) s.heap H locs) (hl : lv_has ls 4 [(3, .int i), (2, .ref (v 0)), (1, .ref (a 0)), (0, .ref b)]) (KK : ∀ (z : CSt) (y : OB), GLs z y → ∀ (H : Heap) (locs : List Loc) (ls : Array Slot), va_P D vwCl (CWs k a ra ia rr ii z ++ moW k v y) H → va_D (A0 s) (CWs k a ra ia rr ii z ++ moW k v y) → va_S (A0 s) s.heap H locs → lv_has ls 4 [(3, .int i), (2, .ref (v 0)), (1, .ref (a 0)), (0, .ref b)] → W p l e room_1 s m #[Value.ref b] below meth c H locs 187 14115 (lw_Z below #[Value.ref b] s) (F0 m 1126 ls [])) : W p l e room_1 s m #[Value.ref b] below meth c H locs 187 14115 (lw_Z below #[Value.ref b] s) (F0 m 1057 ls []) := by
  obtain ⟨hx, hb, hr, hml, hown, hts, hX, hbl, hlocks, hgv⟩ := id C0
  have hown : s.vm.findClass RL = some m.cls := hown
  have hA : ∀ q : Nat, s.heap.size ≤ q → A0 s q := fun _ h => h
  have hbA : ¬ A0 s b := Nat.not_le.mpr hbl
  refine lv_aload_n hx hb dL_law_1057 rfl (lv_at hl 2 rfl) ?_
  refine lv_aload_n hx hb dL_law_1058 rfl (lv_at hl 3 rfl) ?_
  refine lv_iload_n hx hb dL_law_1059 rfl (lv_at hl 0 rfl) ?_
  refine lv_iconst (v := 1) hx hb dL_law_1060 (by decide) ?_
  refine lv_iadd hx hb dL_law_1061 ?_
  refine lv_topi (fun w1_1 ew1_1 => ?_)
  have tw1_1 : w1_1.toInt = i.toInt + 1 := ai_add rfl (by decide) ew1_1 (by omega) (by omega)
  refine va_sld hx hb hX hbl hbA hS (i := w1_1) (vp_in_iff.mpr ⟨by omega, by omega⟩) dL_law_1062 ?_
  refine lv_topi (fun x1_1 ex1_1 => ?_)
  obtain ⟨r0, z2, y2, t8, t9, G2⟩ := t_count l D k a ra ia v rr ii hq z y hk x1_1
  refine hc_Vi (As := [.int x1_1]) (rest := []) (n := 1) (wr := moW k v y) hx hb hml hown hts hG hA hP hD hS hl.1 (List.range 149) (List.range' 149 38) (t8 _) (ci := 6) (q0 := 0) rfl rfl gL_law_X8_count rfl ⟨rfl, rfl, Nat.le_of_ble_eq_true rfl, Nat.le_of_ble_eq_true rfl⟩ (by decide +kernel) (rng_l _ _ _ (CWlen k a ra ia rr ii z)) (rng_r _ _ _ _ (CWlen k a ra ia rr ii z) (MWlen k v y)) nd1 ⟨rfl, rfl, Nat.le_of_ble_eq_true rfl, Nat.le_of_ble_eq_true rfl, Nat.le_of_ble_eq_true rfl⟩ dL_law_1063 (fun r1 u1 H locs e1 hP hD hS => ?_)
  obtain ⟨hP, hD⟩ := cv (w' := moW k v y ++ CWs k a ra ia rr ii z2) hP hD rfl
  refine lv_pop hx hb dL_law_1066 rfl ?_
  refine lv_aload_n hx hb dL_law_1067 rfl (lv_at hl 1 rfl) ?_
  refine lv_aload_n hx hb dL_law_1068 rfl (lv_at hl 3 rfl) ?_
  refine lv_iload_n hx hb dL_law_1069 rfl (lv_at hl 0 rfl) ?_
  refine lv_iconst (v := 1) hx hb dL_law_1070 (by decide) ?_
  refine lv_iadd hx hb dL_law_1071 ?_
  refine lv_topi (fun w2_1 ew2_1 => ?_)
  have tw2_1 : w2_1.toInt = i.toInt + 1 := ai_add rfl (by decide) ew2_1 (by omega) (by omega)
  refine va_sld hx hb hX hbl hbA hS (i := w2_1) (vp_in_iff.mpr ⟨by omega, by omega⟩) dL_law_1072 ?_
  refine lv_topi (fun x2_1 ex2_1 => ?_)
  have ex1 : x2_1 = x1_1 := by rw [ex2_1, ew2_1, ex1_1, ew1_1]
  rw [← ex1] at t9
  refine hc_Vi (As := [.int x2_1]) (rest := []) (n := 1) (wr := CWs k a ra ia rr ii z2) hx hb hml hown hts hG hA hP hD hS hl.1 (List.range 38) (List.range' 38 149) (t9 _) (ci := 7) (q0 := 0) rfl rfl gL_law_X9_count rfl ⟨rfl, rfl, Nat.le_of_ble_eq_true rfl, Nat.le_of_ble_eq_true rfl⟩ (by decide +kernel) (rng_l _ _ _ (MWlen k v y)) (rng_r _ _ _ _ (MWlen k v y) (CWlen k a ra ia rr ii z2)) nd2 ⟨rfl, rfl, Nat.le_of_ble_eq_true rfl, Nat.le_of_ble_eq_true rfl, Nat.le_of_ble_eq_true rfl⟩ dL_law_1073 (fun r2 u2 H locs e2 hP hD hS => ?_)
  obtain ⟨hP, hD⟩ := cv (w' := CWs k a ra ia rr ii z2 ++ moW k v y2) hP hD rfl
  refine lv_pop hx hb dL_law_1076 rfl ?_
  refine lv_goto (tgt := 1126) hx hb dL_law_1077 (by decide) ?_
  exact KK z2 y2 G2 H locs ls hP hD hS hl
set_option maxHeartbeats 4000000 in
set_option maxRecDepth 100000 in
theorem law_case_32 {p : Program} {e : Env} {s : State} {m : MethodId} {below : List Frame} {meth : Method} {c : Code} (l : Launch) {b L : Nat} {xs : Nat → Int32} (hL : L ≤ 3072) (C0 : lw_At p s m meth c b L xs) {D : va_G} {k : Nat → ClassId} (hG : GK D k s) {ad tv ad2 tv2 : Nat → Nat} (hE : EX ad tv (A0 s) s) (hE2 : EY ad2 tv2 (A0 s) s) {a ra ia v : Nat → Nat} {rr ii : Nat → Option Nat} (hq : RQ ra ia rr ii) {i : Int32} (hi0 : 0 ≤ i.toInt) (hi1 : i.toInt + 6 ≤ (L : Int)) {z : CSt} {y : OB} (hk : GLs z y) {H : Heap} {locs : List Loc} {ls : Array Slot} (hP : va_P D vwCl (CWs k a ra ia rr ii z ++ moW k v y) H) (hD : va_D (A0 s) (CWs k a ra ia rr ii z ++ moW k v y)) (hS : va_S (A0 s) s.heap H locs) (hl : lv_has ls 4 [(3, .int i), (2, .ref (v 0)), (1, .ref (a 0)), (0, .ref b)]) (KK : ∀ (z : CSt) (y : OB), GLs z y → ∀ (H : Heap) (locs : List Loc) (ls : Array Slot), va_P D vwCl (CWs k a ra ia rr ii z ++ moW k v y) H → va_D (A0 s) (CWs k a ra ia rr ii z ++ moW k v y) → va_S (A0 s) s.heap H locs → lv_has ls 4 [(3, .int i), (2, .ref (v 0)), (1, .ref (a 0)), (0, .ref b)] → W p l e room_1 s m #[Value.ref b] below meth c H locs 187 14115 (lw_Z below #[Value.ref b] s) (F0 m 1126 ls [])) : W p l e room_1 s m #[Value.ref b] below meth c H locs 187 14115 (lw_Z below #[Value.ref b] s) (F0 m 1080 ls []) := by
  obtain ⟨hx, hb, hr, hml, hown, hts, hX, hbl, hlocks, hgv⟩ := id C0
  have hown : s.vm.findClass RL = some m.cls := hown
  have hA : ∀ q : Nat, s.heap.size ≤ q → A0 s q := fun _ h => h
  have hbA : ¬ A0 s b := Nat.not_le.mpr hbl
  refine lv_aload_n hx hb dL_law_1080 rfl (lv_at hl 2 rfl) ?_
  refine lv_aload_n hx hb dL_law_1081 rfl (lv_at hl 3 rfl) ?_
  refine lv_iload_n hx hb dL_law_1082 rfl (lv_at hl 0 rfl) ?_
  refine lv_iconst (v := 1) hx hb dL_law_1083 (by decide) ?_
  refine lv_iadd hx hb dL_law_1084 ?_
  refine lv_topi (fun w1_1 ew1_1 => ?_)
  have tw1_1 : w1_1.toInt = i.toInt + 1 := ai_add rfl (by decide) ew1_1 (by omega) (by omega)
  refine va_sld hx hb hX hbl hbA hS (i := w1_1) (vp_in_iff.mpr ⟨by omega, by omega⟩) dL_law_1085 ?_
  refine lv_topi (fun x1_1 ex1_1 => ?_)
  obtain ⟨r0, z2, y2, t8, t9, G2⟩ := t_image l D k a ra ia v rr ii hq z y hk x1_1
  refine hc_Vi (As := [.int x1_1]) (rest := []) (n := 1) (wr := moW k v y) hx hb hml hown hts hG hA hP hD hS hl.1 (List.range 149) (List.range' 149 38) (t8 _) (ci := 6) (q0 := 0) rfl rfl gL_law_X8_image rfl ⟨rfl, rfl, Nat.le_of_ble_eq_true rfl, Nat.le_of_ble_eq_true rfl⟩ (by decide +kernel) (rng_l _ _ _ (CWlen k a ra ia rr ii z)) (rng_r _ _ _ _ (CWlen k a ra ia rr ii z) (MWlen k v y)) nd1 ⟨rfl, rfl, Nat.le_of_ble_eq_true rfl, Nat.le_of_ble_eq_true rfl, Nat.le_of_ble_eq_true rfl⟩ dL_law_1086 (fun r1 u1 H locs e1 hP hD hS => ?_)
  obtain ⟨hP, hD⟩ := cv (w' := moW k v y ++ CWs k a ra ia rr ii z2) hP hD rfl
  refine lv_pop hx hb dL_law_1089 rfl ?_
  refine lv_aload_n hx hb dL_law_1090 rfl (lv_at hl 1 rfl) ?_
  refine lv_aload_n hx hb dL_law_1091 rfl (lv_at hl 3 rfl) ?_
  refine lv_iload_n hx hb dL_law_1092 rfl (lv_at hl 0 rfl) ?_
  refine lv_iconst (v := 1) hx hb dL_law_1093 (by decide) ?_
  refine lv_iadd hx hb dL_law_1094 ?_
  refine lv_topi (fun w2_1 ew2_1 => ?_)
  have tw2_1 : w2_1.toInt = i.toInt + 1 := ai_add rfl (by decide) ew2_1 (by omega) (by omega)
  refine va_sld hx hb hX hbl hbA hS (i := w2_1) (vp_in_iff.mpr ⟨by omega, by omega⟩) dL_law_1095 ?_
  refine lv_topi (fun x2_1 ex2_1 => ?_)
  have ex1 : x2_1 = x1_1 := by rw [ex2_1, ew2_1, ex1_1, ew1_1]
  rw [← ex1] at t9
  refine hc_Vi (As := [.int x2_1]) (rest := []) (n := 1) (wr := CWs k a ra ia rr ii z2) hx hb hml hown hts hG hA hP hD hS hl.1 (List.range 38) (List.range' 38 149) (t9 _) (ci := 7) (q0 := 0) rfl rfl gL_law_X9_image rfl ⟨rfl, rfl, Nat.le_of_ble_eq_true rfl, Nat.le_of_ble_eq_true rfl⟩ (by decide +kernel) (rng_l _ _ _ (MWlen k v y)) (rng_r _ _ _ _ (MWlen k v y) (CWlen k a ra ia rr ii z2)) nd2 ⟨rfl, rfl, Nat.le_of_ble_eq_true rfl, Nat.le_of_ble_eq_true rfl, Nat.le_of_ble_eq_true rfl⟩ dL_law_1096 (fun r2 u2 H locs e2 hP hD hS => ?_)
  obtain ⟨hP, hD⟩ := cv (w' := CWs k a ra ia rr ii z2 ++ moW k v y2) hP hD rfl
  refine lv_pop hx hb dL_law_1099 rfl ?_
  refine lv_goto (tgt := 1126) hx hb dL_law_1100 (by decide) ?_
  exact KK z2 y2 G2 H locs ls hP hD hS hl
set_option maxHeartbeats 4000000 in
set_option maxRecDepth 100000 in
theorem law_case_33 {p : Program} {e : Env} {s : State} {m : MethodId} {below : List Frame} {meth : Method} {c : Code} (l : Launch) {b L : Nat} {xs : Nat → Int32} (hL : L ≤ 3072) (C0 : lw_At p s m meth c b L xs) {D : va_G} {k : Nat → ClassId} (hG : GK D k s) {ad tv ad2 tv2 : Nat → Nat} (hE : EX ad tv (A0 s) s) (hE2 : EY ad2 tv2 (A0 s) s) {a ra ia v : Nat → Nat} {rr ii : Nat → Option Nat} (hq : RQ ra ia rr ii) {i : Int32} (hi0 : 0 ≤ i.toInt) (hi1 : i.toInt + 6 ≤ (L : Int)) {z : CSt} {y : OB} (hk : GLs z y) {H : Heap} {locs : List Loc} {ls : Array Slot} (hP : va_P D vwCl (CWs k a ra ia rr ii z ++ moW k v y) H) (hD : va_D (A0 s) (CWs k a ra ia rr ii z ++ moW k v y)) (hS : va_S (A0 s) s.heap H locs) (hl : lv_has ls 4 [(3, .int i), (2, .ref (v 0)), (1, .ref (a 0)), (0, .ref b)]) (KK : ∀ (z : CSt) (y : OB), GLs z y → ∀ (H : Heap) (locs : List Loc) (ls : Array Slot), va_P D vwCl (CWs k a ra ia rr ii z ++ moW k v y) H → va_D (A0 s) (CWs k a ra ia rr ii z ++ moW k v y) → va_S (A0 s) s.heap H locs → lv_has ls 4 [(3, .int i), (2, .ref (v 0)), (1, .ref (a 0)), (0, .ref b)] → W p l e room_1 s m #[Value.ref b] below meth c H locs 187 14115 (lw_Z below #[Value.ref b] s) (F0 m 1126 ls [])) : W p l e room_1 s m #[Value.ref b] below meth c H locs 187 14115 (lw_Z below #[Value.ref b] s) (F0 m 1103 ls []) := by
  obtain ⟨hx, hb, hr, hml, hown, hts, hX, hbl, hlocks, hgv⟩ := id C0
  have hown : s.vm.findClass RL = some m.cls := hown
  have hA : ∀ q : Nat, s.heap.size ≤ q → A0 s q := fun _ h => h
  have hbA : ¬ A0 s b := Nat.not_le.mpr hbl
  refine lv_aload_n hx hb dL_law_1103 rfl (lv_at hl 2 rfl) ?_
  refine lv_aload_n hx hb dL_law_1104 rfl (lv_at hl 3 rfl) ?_
  refine lv_iload_n hx hb dL_law_1105 rfl (lv_at hl 0 rfl) ?_
  refine lv_iconst (v := 1) hx hb dL_law_1106 (by decide) ?_
  refine lv_iadd hx hb dL_law_1107 ?_
  refine lv_topi (fun w1_1 ew1_1 => ?_)
  have tw1_1 : w1_1.toInt = i.toInt + 1 := ai_add rfl (by decide) ew1_1 (by omega) (by omega)
  refine va_sld hx hb hX hbl hbA hS (i := w1_1) (vp_in_iff.mpr ⟨by omega, by omega⟩) dL_law_1108 ?_
  refine lv_topi (fun x1_1 ex1_1 => ?_)
  obtain ⟨r0, z2, y2, t8, t9, G2⟩ := t_back l D k a ra ia v rr ii hq z y hk x1_1
  refine hc_Vi (As := [.int x1_1]) (rest := []) (n := 1) (wr := moW k v y) hx hb hml hown hts hG hA hP hD hS hl.1 (List.range 149) (List.range' 149 38) (t8 _) (ci := 6) (q0 := 0) rfl rfl gL_law_X8_back rfl ⟨rfl, rfl, Nat.le_of_ble_eq_true rfl, Nat.le_of_ble_eq_true rfl⟩ (by decide +kernel) (rng_l _ _ _ (CWlen k a ra ia rr ii z)) (rng_r _ _ _ _ (CWlen k a ra ia rr ii z) (MWlen k v y)) nd1 ⟨rfl, rfl, Nat.le_of_ble_eq_true rfl, Nat.le_of_ble_eq_true rfl, Nat.le_of_ble_eq_true rfl⟩ dL_law_1109 (fun r1 u1 H locs e1 hP hD hS => ?_)
  obtain ⟨hP, hD⟩ := cv (w' := moW k v y ++ CWs k a ra ia rr ii z2) hP hD rfl
  refine lv_pop hx hb dL_law_1112 rfl ?_
  refine lv_aload_n hx hb dL_law_1113 rfl (lv_at hl 1 rfl) ?_
  refine lv_aload_n hx hb dL_law_1114 rfl (lv_at hl 3 rfl) ?_
  refine lv_iload_n hx hb dL_law_1115 rfl (lv_at hl 0 rfl) ?_
  refine lv_iconst (v := 1) hx hb dL_law_1116 (by decide) ?_
  refine lv_iadd hx hb dL_law_1117 ?_
  refine lv_topi (fun w2_1 ew2_1 => ?_)
  have tw2_1 : w2_1.toInt = i.toInt + 1 := ai_add rfl (by decide) ew2_1 (by omega) (by omega)
  refine va_sld hx hb hX hbl hbA hS (i := w2_1) (vp_in_iff.mpr ⟨by omega, by omega⟩) dL_law_1118 ?_
  refine lv_topi (fun x2_1 ex2_1 => ?_)
  have ex1 : x2_1 = x1_1 := by rw [ex2_1, ew2_1, ex1_1, ew1_1]
  rw [← ex1] at t9
  refine hc_Vi (As := [.int x2_1]) (rest := []) (n := 1) (wr := CWs k a ra ia rr ii z2) hx hb hml hown hts hG hA hP hD hS hl.1 (List.range 38) (List.range' 38 149) (t9 _) (ci := 7) (q0 := 0) rfl rfl gL_law_X9_back rfl ⟨rfl, rfl, Nat.le_of_ble_eq_true rfl, Nat.le_of_ble_eq_true rfl⟩ (by decide +kernel) (rng_l _ _ _ (MWlen k v y)) (rng_r _ _ _ _ (MWlen k v y) (CWlen k a ra ia rr ii z2)) nd2 ⟨rfl, rfl, Nat.le_of_ble_eq_true rfl, Nat.le_of_ble_eq_true rfl, Nat.le_of_ble_eq_true rfl⟩ dL_law_1119 (fun r2 u2 H locs e2 hP hD hS => ?_)
  obtain ⟨hP, hD⟩ := cv (w' := CWs k a ra ia rr ii z2 ++ moW k v y2) hP hD rfl
  refine lv_pop hx hb dL_law_1122 rfl ?_
  refine lv_goto (tgt := 1126) hx hb dL_law_1123 (by decide) ?_
  exact KK z2 y2 G2 H locs ls hP hD hS hl
