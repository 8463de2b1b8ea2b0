/-! the law's cases -/
set_option maxHeartbeats 4000000 in
set_option maxRecDepth 100000 in
theorem law_case_0 {p : Program} {e : Env} {s : State} {m : MethodId} {below : List Frame} {meth : Method} {c : Code} (l : Launch) {b L : Nat} {xs : Nat → Int32} (hL : L ≤ 3072) (C0 : lw_At p s m meth c b L xs) {D : va_G} {k : Nat → ClassId} (hG : GK D k s) {ad tv ad2 tv2 : Nat → Nat} (hE : EX ad tv (A0 s) s) (hE2 : EY ad2 tv2 (A0 s) s) {a ra ia v : Nat → Nat} {rr ii : Nat → Option Nat} (hq : RQ ra ia rr ii) {i : Int32} (hi0 : 0 ≤ i.toInt) (hi1 : i.toInt + 6 ≤ (L : Int)) {z : CSt} {y : OB} (hk : GLs z y) {H : Heap} {locs : List Loc} {ls : Array Slot} (hP : va_P D vwCl (CWs k a ra ia rr ii z ++ moW k v y) H) (hD : va_D (A0 s) (CWs k a ra ia rr ii z ++ moW k v y)) (hS : va_S (A0 s) s.heap H locs) (hl : lv_has ls 4 [(3, .int i), (2, .ref (v 0)), (1, .ref (a 0)), (0, .ref b)]) (KK : ∀ (z : CSt) (y : OB), GLs z y → ∀ (H : Heap) (locs : List Loc) (ls : Array Slot), va_P D vwCl (CWs k a ra ia rr ii z ++ moW k v y) H → va_D (A0 s) (CWs k a ra ia rr ii z ++ moW k v y) → va_S (A0 s) s.heap H locs → lv_has ls 4 [(3, .int i), (2, .ref (v 0)), (1, .ref (a 0)), (0, .ref b)] → W p l e room_1 s m #[Value.ref b] below meth c H locs 187 14115 (lw_Z below #[Value.ref b] s) (F0 m 1126 ls [])) : W p l e room_1 s m #[Value.ref b] below meth c H locs 187 14115 (lw_Z below #[Value.ref b] s) (F0 m 184 ls []) := by
  obtain ⟨hx, hb, hr, hml, hown, hts, hX, hbl, hlocks, hgv⟩ := id C0
  have hown : s.vm.findClass RL = some m.cls := hown
  have hA : ∀ q : Nat, s.heap.size ≤ q → A0 s q := fun _ h => h
  have hbA : ¬ A0 s b := Nat.not_le.mpr hbl
  refine lv_aload_n hx hb dL_law_184 rfl (lv_at hl 2 rfl) ?_
  refine lv_aload_n hx hb dL_law_185 rfl (lv_at hl 3 rfl) ?_
  refine lv_iload_n hx hb dL_law_186 rfl (lv_at hl 0 rfl) ?_
  refine lv_iconst (v := 1) hx hb dL_law_187 (by decide) ?_
  refine lv_iadd hx hb dL_law_188 ?_
  refine lv_topi (fun w1_1 ew1_1 => ?_)
  have tw1_1 : w1_1.toInt = i.toInt + 1 := ai_add rfl (by decide) ew1_1 (by omega) (by omega)
  refine va_sld hx hb hX hbl hbA hS (i := w1_1) (vp_in_iff.mpr ⟨by omega, by omega⟩) dL_law_189 ?_
  refine lv_topi (fun x1_1 ex1_1 => ?_)
  refine lv_aload_n hx hb dL_law_190 rfl (lv_at hl 3 rfl) ?_
  refine lv_iload_n hx hb dL_law_191 rfl (lv_at hl 0 rfl) ?_
  refine lv_iconst (v := 2) hx hb dL_law_192 (by decide) ?_
  refine lv_iadd hx hb dL_law_193 ?_
  refine lv_topi (fun w1_2 ew1_2 => ?_)
  have tw1_2 : w1_2.toInt = i.toInt + 2 := ai_add rfl (by decide) ew1_2 (by omega) (by omega)
  refine va_sld hx hb hX hbl hbA hS (i := w1_2) (vp_in_iff.mpr ⟨by omega, by omega⟩) dL_law_194 ?_
  refine lv_topi (fun x1_2 ex1_2 => ?_)
  refine lv_aload_n hx hb dL_law_195 rfl (lv_at hl 3 rfl) ?_
  refine lv_iload_n hx hb dL_law_196 rfl (lv_at hl 0 rfl) ?_
  refine lv_iconst (v := 3) hx hb dL_law_197 (by decide) ?_
  refine lv_iadd hx hb dL_law_198 ?_
  refine lv_topi (fun w1_3 ew1_3 => ?_)
  have tw1_3 : w1_3.toInt = i.toInt + 3 := ai_add rfl (by decide) ew1_3 (by omega) (by omega)
  refine va_sld hx hb hX hbl hbA hS (i := w1_3) (vp_in_iff.mpr ⟨by omega, by omega⟩) dL_law_199 ?_
  refine lv_topi (fun x1_3 ex1_3 => ?_)
  refine lv_aload_n hx hb dL_law_200 rfl (lv_at hl 3 rfl) ?_
  refine lv_iload_n hx hb dL_law_201 rfl (lv_at hl 0 rfl) ?_
  refine lv_iconst (v := 4) hx hb dL_law_202 (by decide) ?_
  refine lv_iadd hx hb dL_law_203 ?_
  refine lv_topi (fun w1_4 ew1_4 => ?_)
  have tw1_4 : w1_4.toInt = i.toInt + 4 := ai_add rfl (by decide) ew1_4 (by omega) (by omega)
  refine va_sld hx hb hX hbl hbA hS (i := w1_4) (vp_in_iff.mpr ⟨by omega, by omega⟩) dL_law_204 ?_
  refine lv_topi (fun x1_4 ex1_4 => ?_)
  refine lv_aload_n hx hb dL_law_205 rfl (lv_at hl 3 rfl) ?_
  refine lv_iload_n hx hb dL_law_206 rfl (lv_at hl 0 rfl) ?_
  refine lv_iconst (v := 5) hx hb dL_law_207 (by decide) ?_
  refine lv_iadd hx hb dL_law_208 ?_
  refine lv_topi (fun w1_5 ew1_5 => ?_)
  have tw1_5 : w1_5.toInt = i.toInt + 5 := ai_add rfl (by decide) ew1_5 (by omega) (by omega)
  refine va_sld hx hb hX hbl hbA hS (i := w1_5) (vp_in_iff.mpr ⟨by omega, by omega⟩) dL_law_209 ?_
  refine lv_topi (fun x1_5 ex1_5 => ?_)
  obtain ⟨r0, z2, y2, t8, t9, G2⟩ := t_feed l D k a ra ia v rr ii hq z y hk x1_1 x1_2 x1_3 x1_4 x1_5
  refine hc_Vi (As := [.int x1_1, .int x1_2, .int x1_3, .int x1_4, .int x1_5]) (rest := []) (n := 5) (wr := moW k v y) hx hb hml hown hts hG hA hP hD hS hl.1 (List.range 149) (List.range' 149 38) (t8 _) (ci := 6) (q0 := 0) rfl rfl gL_law_X8_feed rfl ⟨rfl, rfl, Nat.le_of_ble_eq_true rfl, Nat.le_of_ble_eq_true rfl⟩ (by decide +kernel) (rng_l _ _ _ (CWlen k a ra ia rr ii z)) (rng_r _ _ _ _ (CWlen k a ra ia rr ii z) (MWlen k v y)) nd1 ⟨rfl, rfl, Nat.le_of_ble_eq_true rfl, Nat.le_of_ble_eq_true rfl, Nat.le_of_ble_eq_true rfl⟩ dL_law_210 (fun r1 u1 H locs e1 hP hD hS => ?_)
  obtain ⟨hP, hD⟩ := cv (w' := moW k v y ++ CWs k a ra ia rr ii z2) hP hD rfl
  refine lv_pop hx hb dL_law_213 rfl ?_
  refine lv_aload_n hx hb dL_law_214 rfl (lv_at hl 1 rfl) ?_
  refine lv_aload_n hx hb dL_law_215 rfl (lv_at hl 3 rfl) ?_
  refine lv_iload_n hx hb dL_law_216 rfl (lv_at hl 0 rfl) ?_
  refine lv_iconst (v := 1) hx hb dL_law_217 (by decide) ?_
  refine lv_iadd hx hb dL_law_218 ?_
  refine lv_topi (fun w2_1 ew2_1 => ?_)
  have tw2_1 : w2_1.toInt = i.toInt + 1 := ai_add rfl (by decide) ew2_1 (by omega) (by omega)
  refine va_sld hx hb hX hbl hbA hS (i := w2_1) (vp_in_iff.mpr ⟨by omega, by omega⟩) dL_law_219 ?_
  refine lv_topi (fun x2_1 ex2_1 => ?_)
  refine lv_aload_n hx hb dL_law_220 rfl (lv_at hl 3 rfl) ?_
  refine lv_iload_n hx hb dL_law_221 rfl (lv_at hl 0 rfl) ?_
  refine lv_iconst (v := 2) hx hb dL_law_222 (by decide) ?_
  refine lv_iadd hx hb dL_law_223 ?_
  refine lv_topi (fun w2_2 ew2_2 => ?_)
  have tw2_2 : w2_2.toInt = i.toInt + 2 := ai_add rfl (by decide) ew2_2 (by omega) (by omega)
  refine va_sld hx hb hX hbl hbA hS (i := w2_2) (vp_in_iff.mpr ⟨by omega, by omega⟩) dL_law_224 ?_
  refine lv_topi (fun x2_2 ex2_2 => ?_)
  refine lv_aload_n hx hb dL_law_225 rfl (lv_at hl 3 rfl) ?_
  refine lv_iload_n hx hb dL_law_226 rfl (lv_at hl 0 rfl) ?_
  refine lv_iconst (v := 3) hx hb dL_law_227 (by decide) ?_
  refine lv_iadd hx hb dL_law_228 ?_
  refine lv_topi (fun w2_3 ew2_3 => ?_)
  have tw2_3 : w2_3.toInt = i.toInt + 3 := ai_add rfl (by decide) ew2_3 (by omega) (by omega)
  refine va_sld hx hb hX hbl hbA hS (i := w2_3) (vp_in_iff.mpr ⟨by omega, by omega⟩) dL_law_229 ?_
  refine lv_topi (fun x2_3 ex2_3 => ?_)
  refine lv_aload_n hx hb dL_law_230 rfl (lv_at hl 3 rfl) ?_
  refine lv_iload_n hx hb dL_law_231 rfl (lv_at hl 0 rfl) ?_
  refine lv_iconst (v := 4) hx hb dL_law_232 (by decide) ?_
  refine lv_iadd hx hb dL_law_233 ?_
  refine lv_topi (fun w2_4 ew2_4 => ?_)
  have tw2_4 : w2_4.toInt = i.toInt + 4 := ai_add rfl (by decide) ew2_4 (by omega) (by omega)
  refine va_sld hx hb hX hbl hbA hS (i := w2_4) (vp_in_iff.mpr ⟨by omega, by omega⟩) dL_law_234 ?_
  refine lv_topi (fun x2_4 ex2_4 => ?_)
  refine lv_aload_n hx hb dL_law_235 rfl (lv_at hl 3 rfl) ?_
  refine lv_iload_n hx hb dL_law_236 rfl (lv_at hl 0 rfl) ?_
  refine lv_iconst (v := 5) hx hb dL_law_237 (by decide) ?_
  refine lv_iadd hx hb dL_law_238 ?_
  refine lv_topi (fun w2_5 ew2_5 => ?_)
  have tw2_5 : w2_5.toInt = i.toInt + 5 := ai_add rfl (by decide) ew2_5 (by omega) (by omega)
  refine va_sld hx hb hX hbl hbA hS (i := w2_5) (vp_in_iff.mpr ⟨by omega, by omega⟩) dL_law_239 ?_
  refine lv_topi (fun x2_5 ex2_5 => ?_)
  have ex1 : x2_1 = x1_1 := by rw [ex2_1, ew2_1, ex1_1, ew1_1]
  rw [← ex1] at t9
  have ex2 : x2_2 = x1_2 := by rw [ex2_2, ew2_2, ex1_2, ew1_2]
  rw [← ex2] at t9
  have ex3 : x2_3 = x1_3 := by rw [ex2_3, ew2_3, ex1_3, ew1_3]
  rw [← ex3] at t9
  have ex4 : x2_4 = x1_4 := by rw [ex2_4, ew2_4, ex1_4, ew1_4]
  rw [← ex4] at t9
  have ex5 : x2_5 = x1_5 := by rw [ex2_5, ew2_5, ex1_5, ew1_5]
  rw [← ex5] at t9
  refine hc_Vi (As := [.int x2_1, .int x2_2, .int x2_3, .int x2_4, .int x2_5]) (rest := []) (n := 5) (wr := CWs k a ra ia rr ii z2) hx hb hml hown hts hG hA hP hD hS hl.1 (List.range 38) (List.range' 38 149) (t9 _) (ci := 7) (q0 := 0) rfl rfl gL_law_X9_feed rfl ⟨rfl, rfl, Nat.le_of_ble_eq_true rfl, Nat.le_of_ble_eq_true rfl⟩ (by decide +kernel) (rng_l _ _ _ (MWlen k v y)) (rng_r _ _ _ _ (MWlen k v y) (CWlen k a ra ia rr ii z2)) nd2 ⟨rfl, rfl, Nat.le_of_ble_eq_true rfl, Nat.le_of_ble_eq_true rfl, Nat.le_of_ble_eq_true rfl⟩ dL_law_240 (fun r2 u2 H locs e2 hP hD hS => ?_)
  obtain ⟨hP, hD⟩ := cv (w' := CWs k a ra ia rr ii z2 ++ moW k v y2) hP hD rfl
  refine lv_pop hx hb dL_law_243 rfl ?_
  refine lv_goto (tgt := 1126) hx hb dL_law_244 (by decide) ?_
  exact KK z2 y2 G2 H locs ls hP hD hS hl
set_option maxHeartbeats 4000000 in
set_option maxRecDepth 100000 in
theorem law_case_1 {p : Program} {e : Env} {s : State} {m : MethodId} {below : List Frame} {meth : Method} {c : Code} (l : Launch) {b L : Nat} {xs : Nat → Int32} (hL : L ≤ 3072) (C0 : lw_At p s m meth c b L xs) {D : va_G} {k : Nat → ClassId} (hG : GK D k s) {ad tv ad2 tv2 : Nat → Nat} (hE : EX ad tv (A0 s) s) (hE2 : EY ad2 tv2 (A0 s) s) {a ra ia v : Nat → Nat} {rr ii : Nat → Option Nat} (hq : RQ ra ia rr ii) {i : Int32} (hi0 : 0 ≤ i.toInt) (hi1 : i.toInt + 6 ≤ (L : Int)) {z : CSt} {y : OB} (hk : GLs z y) {H : Heap} {locs : List Loc} {ls : Array Slot} (hP : va_P D vwCl (CWs k a ra ia rr ii z ++ moW k v y) H) (hD : va_D (A0 s) (CWs k a ra ia rr ii z ++ moW k v y)) (hS : va_S (A0 s) s.heap H locs) (hl : lv_has ls 4 [(3, .int i), (2, .ref (v 0)), (1, .ref (a 0)), (0, .ref b)]) (KK : ∀ (z : CSt) (y : OB), GLs z y → ∀ (H : Heap) (locs : List Loc) (ls : Array Slot), va_P D vwCl (CWs k a ra ia rr ii z ++ moW k v y) H → va_D (A0 s) (CWs k a ra ia rr ii z ++ moW k v y) → va_S (A0 s) s.heap H locs → lv_has ls 4 [(3, .int i), (2, .ref (v 0)), (1, .ref (a 0)), (0, .ref b)] → W p l e room_1 s m #[Value.ref b] below meth c H locs 187 14115 (lw_Z below #[Value.ref b] s) (F0 m 1126 ls [])) : W p l e room_1 s m #[Value.ref b] below meth c H locs 187 14115 (lw_Z below #[Value.ref b] s) (F0 m 247 ls []) := by
  obtain ⟨hx, hb, hr, hml, hown, hts, hX, hbl, hlocks, hgv⟩ := id C0
  have hown : s.vm.findClass RL = some m.cls := hown
  have hA : ∀ q : Nat, s.heap.size ≤ q → A0 s q := fun _ h => h
  have hbA : ¬ A0 s b := Nat.not_le.mpr hbl
  refine lv_aload_n hx hb dL_law_247 rfl (lv_at hl 2 rfl) ?_
  refine lv_aload_n hx hb dL_law_248 rfl (lv_at hl 3 rfl) ?_
  refine lv_iload_n hx hb dL_law_249 rfl (lv_at hl 0 rfl) ?_
  refine lv_iconst (v := 1) hx hb dL_law_250 (by decide) ?_
  refine lv_iadd hx hb dL_law_251 ?_
  refine lv_topi (fun w1_1 ew1_1 => ?_)
  have tw1_1 : w1_1.toInt = i.toInt + 1 := ai_add rfl (by decide) ew1_1 (by omega) (by omega)
  refine va_sld hx hb hX hbl hbA hS (i := w1_1) (vp_in_iff.mpr ⟨by omega, by omega⟩) dL_law_252 ?_
  refine lv_topi (fun x1_1 ex1_1 => ?_)
  obtain ⟨r0, z2, y2, t8, t9, G2⟩ := t_end l D k a ra ia v rr ii hq z y hk x1_1
  refine hc_Vi (As := [.int x1_1]) (rest := []) (n := 1) (wr := moW k v y) hx hb hml hown hts hG hA hP hD hS hl.1 (List.range 149) (List.range' 149 38) (t8 _) (ci := 6) (q0 := 0) rfl rfl gL_law_X8_end rfl ⟨rfl, rfl, Nat.le_of_ble_eq_true rfl, Nat.le_of_ble_eq_true rfl⟩ (by decide +kernel) (rng_l _ _ _ (CWlen k a ra ia rr ii z)) (rng_r _ _ _ _ (CWlen k a ra ia rr ii z) (MWlen k v y)) nd1 ⟨rfl, rfl, Nat.le_of_ble_eq_true rfl, Nat.le_of_ble_eq_true rfl, Nat.le_of_ble_eq_true rfl⟩ dL_law_253 (fun r1 u1 H locs e1 hP hD hS => ?_)
  obtain ⟨hP, hD⟩ := cv (w' := moW k v y ++ CWs k a ra ia rr ii z2) hP hD rfl
  refine lv_pop hx hb dL_law_256 rfl ?_
  refine lv_aload_n hx hb dL_law_257 rfl (lv_at hl 1 rfl) ?_
  refine lv_aload_n hx hb dL_law_258 rfl (lv_at hl 3 rfl) ?_
  refine lv_iload_n hx hb dL_law_259 rfl (lv_at hl 0 rfl) ?_
  refine lv_iconst (v := 1) hx hb dL_law_260 (by decide) ?_
  refine lv_iadd hx hb dL_law_261 ?_
  refine lv_topi (fun w2_1 ew2_1 => ?_)
  have tw2_1 : w2_1.toInt = i.toInt + 1 := ai_add rfl (by decide) ew2_1 (by omega) (by omega)
  refine va_sld hx hb hX hbl hbA hS (i := w2_1) (vp_in_iff.mpr ⟨by omega, by omega⟩) dL_law_262 ?_
  refine lv_topi (fun x2_1 ex2_1 => ?_)
  have ex1 : x2_1 = x1_1 := by rw [ex2_1, ew2_1, ex1_1, ew1_1]
  rw [← ex1] at t9
  refine hc_Vi (As := [.int x2_1]) (rest := []) (n := 1) (wr := CWs k a ra ia rr ii z2) hx hb hml hown hts hG hA hP hD hS hl.1 (List.range 38) (List.range' 38 149) (t9 _) (ci := 7) (q0 := 0) rfl rfl gL_law_X9_end rfl ⟨rfl, rfl, Nat.le_of_ble_eq_true rfl, Nat.le_of_ble_eq_true rfl⟩ (by decide +kernel) (rng_l _ _ _ (MWlen k v y)) (rng_r _ _ _ _ (MWlen k v y) (CWlen k a ra ia rr ii z2)) nd2 ⟨rfl, rfl, Nat.le_of_ble_eq_true rfl, Nat.le_of_ble_eq_true rfl, Nat.le_of_ble_eq_true rfl⟩ dL_law_263 (fun r2 u2 H locs e2 hP hD hS => ?_)
  obtain ⟨hP, hD⟩ := cv (w' := CWs k a ra ia rr ii z2 ++ moW k v y2) hP hD rfl
  refine lv_pop hx hb dL_law_266 rfl ?_
  refine lv_goto (tgt := 1126) hx hb dL_law_267 (by decide) ?_
  exact KK z2 y2 G2 H locs ls hP hD hS hl
set_option maxHeartbeats 4000000 in
set_option maxRecDepth 100000 in
theorem law_case_2 {p : Program} {e : Env} {s : State} {m : MethodId} {below : List Frame} {meth : Method} {c : Code} (l : Launch) {b L : Nat} {xs : Nat → Int32} (hL : L ≤ 3072) (C0 : lw_At p s m meth c b L xs) {D : va_G} {k : Nat → ClassId} (hG : GK D k s) {ad tv ad2 tv2 : Nat → Nat} (hE : EX ad tv (A0 s) s) (hE2 : EY ad2 tv2 (A0 s) s) {a ra ia v : Nat → Nat} {rr ii : Nat → Option Nat} (hq : RQ ra ia rr ii) {i : Int32} (hi0 : 0 ≤ i.toInt) (hi1 : i.toInt + 6 ≤ (L : Int)) {z : CSt} {y : OB} (hk : GLs z y) {H : Heap} {locs : List Loc} {ls : Array Slot} (hP : va_P D vwCl (CWs k a ra ia rr ii z ++ moW k v y) H) (hD : va_D (A0 s) (CWs k a ra ia rr ii z ++ moW k v y)) (hS : va_S (A0 s) s.heap H locs) (hl : lv_has ls 4 [(3, .int i), (2, .ref (v 0)), (1, .ref (a 0)), (0, .ref b)]) (KK : ∀ (z : CSt) (y : OB), GLs z y → ∀ (H : Heap) (locs : List Loc) (ls : Array Slot), va_P D vwCl (CWs k a ra ia rr ii z ++ moW k v y) H → va_D (A0 s) (CWs k a ra ia rr ii z ++ moW k v y) → va_S (A0 s) s.heap H locs → lv_has ls 4 [(3, .int i), (2, .ref (v 0)), (1, .ref (a 0)), (0, .ref b)] → W p l e room_1 s m #[Value.ref b] below meth c H locs 187 14115 (lw_Z below #[Value.ref b] s) (F0 m 1126 ls [])) : W p l e room_1 s m #[Value.ref b] below meth c H locs 187 14115 (lw_Z below #[Value.ref b] s) (F0 m 270 ls []) := by
  obtain ⟨hx, hb, hr, hml, hown, hts, hX, hbl, hlocks, hgv⟩ := id C0
  have hown : s.vm.findClass RL = some m.cls := hown
  have hA : ∀ q : Nat, s.heap.size ≤ q → A0 s q := fun _ h => h
  have hbA : ¬ A0 s b := Nat.not_le.mpr hbl
  refine lv_aload_n hx hb dL_law_270 rfl (lv_at hl 2 rfl) ?_
  obtain ⟨r0, z2, y2, t8, t9, G2⟩ := t_hall l D k ad tv ad2 tv2 a ra ia v rr ii hq z y hk 
  refine hc_ViE (As := []) (rest := []) (n := 0) (wr := moW k v y) (EX.ok ad tv) hE hx hb hml hown hts hG hA hP hD hS hl.1 (List.range 149) (List.range' 149 38) (t8 _) (va_recv hG.1 hP (ci := 6) (q0 := 0) rfl rfl) gL_law_X8_hall rfl ⟨rfl, rfl, Nat.le_of_ble_eq_true rfl, Nat.le_of_ble_eq_true rfl⟩ (by decide +kernel) (rng_l _ _ _ (CWlen k a ra ia rr ii z)) (rng_r _ _ _ _ (CWlen k a ra ia rr ii z) (MWlen k v y)) nd1 ⟨rfl, rfl, Nat.le_of_ble_eq_true rfl, Nat.le_of_ble_eq_true rfl, Nat.le_of_ble_eq_true rfl⟩ dL_law_271 (fun r1 u1 H locs e1 hP hD hS => ?_)
  obtain ⟨hP, hD⟩ := cv (w' := moW k v y ++ CWs k a ra ia rr ii z2) hP hD rfl
  refine lv_pop hx hb dL_law_274 rfl ?_
  refine lv_aload_n hx hb dL_law_275 rfl (lv_at hl 1 rfl) ?_
  refine hc_ViE (As := []) (rest := []) (n := 0) (wr := CWs k a ra ia rr ii z2) (EY.ok ad2 tv2) hE2 hx hb hml hown hts hG hA hP hD hS hl.1 (List.range 38) (List.range' 38 149) (t9 _) (va_recv hG.1 hP (ci := 7) (q0 := 0) rfl rfl) gL_law_X9_hall rfl ⟨rfl, rfl, Nat.le_of_ble_eq_true rfl, Nat.le_of_ble_eq_true rfl⟩ (by decide +kernel) (rng_l _ _ _ (MWlen k v y)) (rng_r _ _ _ _ (MWlen k v y) (CWlen k a ra ia rr ii z2)) nd2 ⟨rfl, rfl, Nat.le_of_ble_eq_true rfl, Nat.le_of_ble_eq_true rfl, Nat.le_of_ble_eq_true rfl⟩ dL_law_276 (fun r2 u2 H locs e2 hP hD hS => ?_)
  obtain ⟨hP, hD⟩ := cv (w' := CWs k a ra ia rr ii z2 ++ moW k v y2) hP hD rfl
  refine lv_pop hx hb dL_law_279 rfl ?_
  refine lv_goto (tgt := 1126) hx hb dL_law_280 (by decide) ?_
  exact KK z2 y2 G2 H locs ls hP hD hS hl
set_option maxHeartbeats 4000000 in
set_option maxRecDepth 100000 in
theorem law_case_3 {p : Program} {e : Env} {s : State} {m : MethodId} {below : List Frame} {meth : Method} {c : Code} (l : Launch) {b L : Nat} {xs : Nat → Int32} (hL : L ≤ 3072) (C0 : lw_At p s m meth c b L xs) {D : va_G} {k : Nat → ClassId} (hG : GK D k s) {ad tv ad2 tv2 : Nat → Nat} (hE : EX ad tv (A0 s) s) (hE2 : EY ad2 tv2 (A0 s) s) {a ra ia v : Nat → Nat} {rr ii : Nat → Option Nat} (hq : RQ ra ia rr ii) {i : Int32} (hi0 : 0 ≤ i.toInt) (hi1 : i.toInt + 6 ≤ (L : Int)) {z : CSt} {y : OB} (hk : GLs z y) {H : Heap} {locs : List Loc} {ls : Array Slot} (hP : va_P D vwCl (CWs k a ra ia rr ii z ++ moW k v y) H) (hD : va_D (A0 s) (CWs k a ra ia rr ii z ++ moW k v y)) (hS : va_S (A0 s) s.heap H locs) (hl : lv_has ls 4 [(3, .int i), (2, .ref (v 0)), (1, .ref (a 0)), (0, .ref b)]) (KK : ∀ (z : CSt) (y : OB), GLs z y → ∀ (H : Heap) (locs : List Loc) (ls : Array Slot), va_P D vwCl (CWs k a ra ia rr ii z ++ moW k v y) H → va_D (A0 s) (CWs k a ra ia rr ii z ++ moW k v y) → va_S (A0 s) s.heap H locs → lv_has ls 4 [(3, .int i), (2, .ref (v 0)), (1, .ref (a 0)), (0, .ref b)] → W p l e room_1 s m #[Value.ref b] below meth c H locs 187 14115 (lw_Z below #[Value.ref b] s) (F0 m 1126 ls [])) : W p l e room_1 s m #[Value.ref b] below meth c H locs 187 14115 (lw_Z below #[Value.ref b] s) (F0 m 283 ls []) := by
  obtain ⟨hx, hb, hr, hml, hown, hts, hX, hbl, hlocks, hgv⟩ := id C0
  have hown : s.vm.findClass RL = some m.cls := hown
  have hA : ∀ q : Nat, s.heap.size ≤ q → A0 s q := fun _ h => h
  have hbA : ¬ A0 s b := Nat.not_le.mpr hbl
  refine lv_aload_n hx hb dL_law_283 rfl (lv_at hl 2 rfl) ?_
  obtain ⟨r0, z2, y2, t8, t9, G2⟩ := t_rule l D k ad tv ad2 tv2 a ra ia v rr ii hq z y hk 
  refine hc_ViE (As := []) (rest := []) (n := 0) (wr := moW k v y) (EX.ok ad tv) hE hx hb hml hown hts hG hA hP hD hS hl.1 (List.range 149) (List.range' 149 38) (t8 _) (va_recv hG.1 hP (ci := 6) (q0 := 0) rfl rfl) gL_law_X8_rule rfl ⟨rfl, rfl, Nat.le_of_ble_eq_true rfl, Nat.le_of_ble_eq_true rfl⟩ (by decide +kernel) (rng_l _ _ _ (CWlen k a ra ia rr ii z)) (rng_r _ _ _ _ (CWlen k a ra ia rr ii z) (MWlen k v y)) nd1 ⟨rfl, rfl, Nat.le_of_ble_eq_true rfl, Nat.le_of_ble_eq_true rfl, Nat.le_of_ble_eq_true rfl⟩ dL_law_284 (fun r1 u1 H locs e1 hP hD hS => ?_)
  obtain ⟨hP, hD⟩ := cv (w' := moW k v y ++ CWs k a ra ia rr ii z2) hP hD rfl
  refine lv_pop hx hb dL_law_287 rfl ?_
  refine lv_aload_n hx hb dL_law_288 rfl (lv_at hl 1 rfl) ?_
  refine hc_ViE (As := []) (rest := []) (n := 0) (wr := CWs k a ra ia rr ii z2) (EY.ok ad2 tv2) hE2 hx hb hml hown hts hG hA hP hD hS hl.1 (List.range 38) (List.range' 38 149) (t9 _) (va_recv hG.1 hP (ci := 7) (q0 := 0) rfl rfl) gL_law_X9_rule rfl ⟨rfl, rfl, Nat.le_of_ble_eq_true rfl, Nat.le_of_ble_eq_true rfl⟩ (by decide +kernel) (rng_l _ _ _ (MWlen k v y)) (rng_r _ _ _ _ (MWlen k v y) (CWlen k a ra ia rr ii z2)) nd2 ⟨rfl, rfl, Nat.le_of_ble_eq_true rfl, Nat.le_of_ble_eq_true rfl, Nat.le_of_ble_eq_true rfl⟩ dL_law_289 (fun r2 u2 H locs e2 hP hD hS => ?_)
  obtain ⟨hP, hD⟩ := cv (w' := CWs k a ra ia rr ii z2 ++ moW k v y2) hP hD rfl
  refine lv_pop hx hb dL_law_292 rfl ?_
  refine lv_goto (tgt := 1126) hx hb dL_law_293 (by decide) ?_
  exact KK z2 y2 G2 H locs ls hP hD hS hl
set_option maxHeartbeats 4000000 in
set_option maxRecDepth 100000 in
theorem law_case_4 {p : Program} {e : Env} {s : State} {m : MethodId} {below : List Frame} {meth : Method} {c : Code} (l : Launch) {b L : Nat} {xs : Nat → Int32} (hL : L ≤ 3072) (C0 : lw_At p s m meth c b L xs) {D : va_G} {k : Nat → ClassId} (hG : GK D k s) {ad tv ad2 tv2 : Nat → Nat} (hE : EX ad tv (A0 s) s) (hE2 : EY ad2 tv2 (A0 s) s) {a ra ia v : Nat → Nat} {rr ii : Nat → Option Nat} (hq : RQ ra ia rr ii) {i : Int32} (hi0 : 0 ≤ i.toInt) (hi1 : i.toInt + 6 ≤ (L : Int)) {z : CSt} {y : OB} (hk : GLs z y) {H : Heap} {locs : List Loc} {ls : Array Slot} (hP : va_P D vwCl (CWs k a ra ia rr ii z ++ moW k v y) H) (hD : va_D (A0 s) (CWs k a ra ia rr ii z ++ moW k v y)) (hS : va_S (A0 s) s.heap H locs) (hl : lv_has ls 4 [(3, .int i), (2, .ref (v 0)), (1, .ref (a 0)), (0, .ref b)]) (KK : ∀ (z : CSt) (y : OB), GLs z y → ∀ (H : Heap) (locs : List Loc) (ls : Array Slot), va_P D vwCl (CWs k a ra ia rr ii z ++ moW k v y) H → va_D (A0 s) (CWs k a ra ia rr ii z ++ moW k v y) → va_S (A0 s) s.heap H locs → lv_has ls 4 [(3, .int i), (2, .ref (v 0)), (1, .ref (a 0)), (0, .ref b)] → W p l e room_1 s m #[Value.ref b] below meth c H locs 187 14115 (lw_Z below #[Value.ref b] s) (F0 m 1126 ls [])) : W p l e room_1 s m #[Value.ref b] below meth c H locs 187 14115 (lw_Z below #[Value.ref b] s) (F0 m 296 ls []) := by
  obtain ⟨hx, hb, hr, hml, hown, hts, hX, hbl, hlocks, hgv⟩ := id C0
  have hown : s.vm.findClass RL = some m.cls := hown
  have hA : ∀ q : Nat, s.heap.size ≤ q → A0 s q := fun _ h => h
  have hbA : ¬ A0 s b := Nat.not_le.mpr hbl
  refine lv_aload_n hx hb dL_law_296 rfl (lv_at hl 2 rfl) ?_
  refine lv_aload_n hx hb dL_law_297 rfl (lv_at hl 3 rfl) ?_
  refine lv_iload_n hx hb dL_law_298 rfl (lv_at hl 0 rfl) ?_
  refine lv_iconst (v := 1) hx hb dL_law_299 (by decide) ?_
  refine lv_iadd hx hb dL_law_300 ?_
  refine lv_topi (fun w1_1 ew1_1 => ?_)
  have tw1_1 : w1_1.toInt = i.toInt + 1 := ai_add rfl (by decide) ew1_1 (by omega) (by omega)
  refine va_sld hx hb hX hbl hbA hS (i := w1_1) (vp_in_iff.mpr ⟨by omega, by omega⟩) dL_law_301 ?_
  refine lv_topi (fun x1_1 ex1_1 => ?_)
  obtain ⟨r0, z2, y2, t8, t9, G2⟩ := t_force l D k a ra ia v rr ii hq z y hk x1_1
  refine hc_Vi (As := [.int x1_1]) (rest := []) (n := 1) (wr := moW k v y) hx hb hml hown hts hG hA hP hD hS hl.1 (List.range 149) (List.range' 149 38) (t8 _) (ci := 6) (q0 := 0) rfl rfl gL_law_X8_force rfl ⟨rfl, rfl, Nat.le_of_ble_eq_true rfl, Nat.le_of_ble_eq_true rfl⟩ (by decide +kernel) (rng_l _ _ _ (CWlen k a ra ia rr ii z)) (rng_r _ _ _ _ (CWlen k a ra ia rr ii z) (MWlen k v y)) nd1 ⟨rfl, rfl, Nat.le_of_ble_eq_true rfl, Nat.le_of_ble_eq_true rfl, Nat.le_of_ble_eq_true rfl⟩ dL_law_302 (fun r1 u1 H locs e1 hP hD hS => ?_)
  obtain ⟨hP, hD⟩ := cv (w' := moW k v y ++ CWs k a ra ia rr ii z2) hP hD rfl
  refine lv_pop hx hb dL_law_305 rfl ?_
  refine lv_aload_n hx hb dL_law_306 rfl (lv_at hl 1 rfl) ?_
  refine lv_aload_n hx hb dL_law_307 rfl (lv_at hl 3 rfl) ?_
  refine lv_iload_n hx hb dL_law_308 rfl (lv_at hl 0 rfl) ?_
  refine lv_iconst (v := 1) hx hb dL_law_309 (by decide) ?_
  refine lv_iadd hx hb dL_law_310 ?_
  refine lv_topi (fun w2_1 ew2_1 => ?_)
  have tw2_1 : w2_1.toInt = i.toInt + 1 := ai_add rfl (by decide) ew2_1 (by omega) (by omega)
  refine va_sld hx hb hX hbl hbA hS (i := w2_1) (vp_in_iff.mpr ⟨by omega, by omega⟩) dL_law_311 ?_
  refine lv_topi (fun x2_1 ex2_1 => ?_)
  have ex1 : x2_1 = x1_1 := by rw [ex2_1, ew2_1, ex1_1, ew1_1]
  rw [← ex1] at t9
  refine hc_Vi (As := [.int x2_1]) (rest := []) (n := 1) (wr := CWs k a ra ia rr ii z2) hx hb hml hown hts hG hA hP hD hS hl.1 (List.range 38) (List.range' 38 149) (t9 _) (ci := 7) (q0 := 0) rfl rfl gL_law_X9_force rfl ⟨rfl, rfl, Nat.le_of_ble_eq_true rfl, Nat.le_of_ble_eq_true rfl⟩ (by decide +kernel) (rng_l _ _ _ (MWlen k v y)) (rng_r _ _ _ _ (MWlen k v y) (CWlen k a ra ia rr ii z2)) nd2 ⟨rfl, rfl, Nat.le_of_ble_eq_true rfl, Nat.le_of_ble_eq_true rfl, Nat.le_of_ble_eq_true rfl⟩ dL_law_312 (fun r2 u2 H locs e2 hP hD hS => ?_)
  obtain ⟨hP, hD⟩ := cv (w' := CWs k a ra ia rr ii z2 ++ moW k v y2) hP hD rfl
  refine lv_pop hx hb dL_law_315 rfl ?_
  refine lv_goto (tgt := 1126) hx hb dL_law_316 (by decide) ?_
  exact KK z2 y2 G2 H locs ls hP hD hS hl
set_option maxHeartbeats 4000000 in
set_option maxRecDepth 100000 in
theorem law_case_5 {p : Program} {e : Env} {s : State} {m : MethodId} {below : List Frame} {meth : Method} {c : Code} (l : Launch) {b L : Nat} {xs : Nat → Int32} (hL : L ≤ 3072) (C0 : lw_At p s m meth c b L xs) {D : va_G} {k : Nat → ClassId} (hG : GK D k s) {ad tv ad2 tv2 : Nat → Nat} (hE : EX ad tv (A0 s) s) (hE2 : EY ad2 tv2 (A0 s) s) {a ra ia v : Nat → Nat} {rr ii : Nat → Option Nat} (hq : RQ ra ia rr ii) {i : Int32} (hi0 : 0 ≤ i.toInt) (hi1 : i.toInt + 6 ≤ (L : Int)) {z : CSt} {y : OB} (hk : GLs z y) {H : Heap} {locs : List Loc} {ls : Array Slot} (hP : va_P D vwCl (CWs k a ra ia rr ii z ++ moW k v y) H) (hD : va_D (A0 s) (CWs k a ra ia rr ii z ++ moW k v y)) (hS : va_S (A0 s) s.heap H locs) (hl : lv_has ls 4 [(3, .int i), (2, .ref (v 0)), (1, .ref (a 0)), (0, .ref b)]) (KK : ∀ (z : CSt) (y : OB), GLs z y → ∀ (H : Heap) (locs : List Loc) (ls : Array Slot), va_P D vwCl (CWs k a ra ia rr ii z ++ moW k v y) H → va_D (A0 s) (CWs k a ra ia rr ii z ++ moW k v y) → va_S (A0 s) s.heap H locs → lv_has ls 4 [(3, .int i), (2, .ref (v 0)), (1, .ref (a 0)), (0, .ref b)] → W p l e room_1 s m #[Value.ref b] below meth c H locs 187 14115 (lw_Z below #[Value.ref b] s) (F0 m 1126 ls [])) : W p l e room_1 s m #[Value.ref b] below meth c H locs 187 14115 (lw_Z below #[Value.ref b] s) (F0 m 319 ls []) := by
  obtain ⟨hx, hb, hr, hml, hown, hts, hX, hbl, hlocks, hgv⟩ := id C0
  have hown : s.vm.findClass RL = some m.cls := hown
  have hA : ∀ q : Nat, s.heap.size ≤ q → A0 s q := fun _ h => h
  have hbA : ¬ A0 s b := Nat.not_le.mpr hbl
  refine lv_aload_n hx hb dL_law_319 rfl (lv_at hl 2 rfl) ?_
  refine lv_aload_n hx hb dL_law_320 rfl (lv_at hl 3 rfl) ?_
  refine lv_iload_n hx hb dL_law_321 rfl (lv_at hl 0 rfl) ?_
  refine lv_iconst (v := 1) hx hb dL_law_322 (by decide) ?_
  refine lv_iadd hx hb dL_law_323 ?_
  refine lv_topi (fun w1_1 ew1_1 => ?_)
  have tw1_1 : w1_1.toInt = i.toInt + 1 := ai_add rfl (by decide) ew1_1 (by omega) (by omega)
  refine va_sld hx hb hX hbl hbA hS (i := w1_1) (vp_in_iff.mpr ⟨by omega, by omega⟩) dL_law_324 ?_
  refine lv_topi (fun x1_1 ex1_1 => ?_)
  obtain ⟨r0, z2, y2, t8, t9, G2⟩ := t_strand l D k a ra ia v rr ii hq z y hk x1_1
  refine hc_Vi (As := [.int x1_1]) (rest := []) (n := 1) (wr := moW k v y) hx hb hml hown hts hG hA hP hD hS hl.1 (List.range 149) (List.range' 149 38) (t8 _) (ci := 6) (q0 := 0) rfl rfl gL_law_X8_strand rfl ⟨rfl, rfl, Nat.le_of_ble_eq_true rfl, Nat.le_of_ble_eq_true rfl⟩ (by decide +kernel) (rng_l _ _ _ (CWlen k a ra ia rr ii z)) (rng_r _ _ _ _ (CWlen k a ra ia rr ii z) (MWlen k v y)) nd1 ⟨rfl, rfl, Nat.le_of_ble_eq_true rfl, Nat.le_of_ble_eq_true rfl, Nat.le_of_ble_eq_true rfl⟩ dL_law_325 (fun r1 u1 H locs e1 hP hD hS => ?_)
  obtain ⟨hP, hD⟩ := cv (w' := moW k v y ++ CWs k a ra ia rr ii z2) hP hD rfl
  refine lv_pop hx hb dL_law_328 rfl ?_
  refine lv_aload_n hx hb dL_law_329 rfl (lv_at hl 1 rfl) ?_
  refine lv_aload_n hx hb dL_law_330 rfl (lv_at hl 3 rfl) ?_
  refine lv_iload_n hx hb dL_law_331 rfl (lv_at hl 0 rfl) ?_
  refine lv_iconst (v := 1) hx hb dL_law_332 (by decide) ?_
  refine lv_iadd hx hb dL_law_333 ?_
  refine lv_topi (fun w2_1 ew2_1 => ?_)
  have tw2_1 : w2_1.toInt = i.toInt + 1 := ai_add rfl (by decide) ew2_1 (by omega) (by omega)
  refine va_sld hx hb hX hbl hbA hS (i := w2_1) (vp_in_iff.mpr ⟨by omega, by omega⟩) dL_law_334 ?_
  refine lv_topi (fun x2_1 ex2_1 => ?_)
  have ex1 : x2_1 = x1_1 := by rw [ex2_1, ew2_1, ex1_1, ew1_1]
  rw [← ex1] at t9
  refine hc_Vi (As := [.int x2_1]) (rest := []) (n := 1) (wr := CWs k a ra ia rr ii z2) hx hb hml hown hts hG hA hP hD hS hl.1 (List.range 38) (List.range' 38 149) (t9 _) (ci := 7) (q0 := 0) rfl rfl gL_law_X9_strand rfl ⟨rfl, rfl, Nat.le_of_ble_eq_true rfl, Nat.le_of_ble_eq_true rfl⟩ (by decide +kernel) (rng_l _ _ _ (MWlen k v y)) (rng_r _ _ _ _ (MWlen k v y) (CWlen k a ra ia rr ii z2)) nd2 ⟨rfl, rfl, Nat.le_of_ble_eq_true rfl, Nat.le_of_ble_eq_true rfl, Nat.le_of_ble_eq_true rfl⟩ dL_law_335 (fun r2 u2 H locs e2 hP hD hS => ?_)
  obtain ⟨hP, hD⟩ := cv (w' := CWs k a ra ia rr ii z2 ++ moW k v y2) hP hD rfl
  refine lv_pop hx hb dL_law_338 rfl ?_
  refine lv_goto (tgt := 1126) hx hb dL_law_339 (by decide) ?_
  exact KK z2 y2 G2 H locs ls hP hD hS hl
set_option maxHeartbeats 4000000 in
set_option maxRecDepth 100000 in
theorem law_case_6 {p : Program} {e : Env} {s : State} {m : MethodId} {below : List Frame} {meth : Method} {c : Code} (l : Launch) {b L : Nat} {xs : Nat → Int32} (hL : L ≤ 3072) (C0 : lw_At p s m meth c b L xs) {D : va_G} {k : Nat → ClassId} (hG : GK D k s) {ad tv ad2 tv2 : Nat → Nat} (hE : EX ad tv (A0 s) s) (hE2 : EY ad2 tv2 (A0 s) s) {a ra ia v : Nat → Nat} {rr ii : Nat → Option Nat} (hq : RQ ra ia rr ii) {i : Int32} (hi0 : 0 ≤ i.toInt) (hi1 : i.toInt + 6 ≤ (L : Int)) {z : CSt} {y : OB} (hk : GLs z y) {H : Heap} {locs : List Loc} {ls : Array Slot} (hP : va_P D vwCl (CWs k a ra ia rr ii z ++ moW k v y) H) (hD : va_D (A0 s) (CWs k a ra ia rr ii z ++ moW k v y)) (hS : va_S (A0 s) s.heap H locs) (hl : lv_has ls 4 [(3, .int i), (2, .ref (v 0)), (1, .ref (a 0)), (0, .ref b)]) (KK : ∀ (z : CSt) (y : OB), GLs z y → ∀ (H : Heap) (locs : List Loc) (ls : Array Slot), va_P D vwCl (CWs k a ra ia rr ii z ++ moW k v y) H → va_D (A0 s) (CWs k a ra ia rr ii z ++ moW k v y) → va_S (A0 s) s.heap H locs → lv_has ls 4 [(3, .int i), (2, .ref (v 0)), (1, .ref (a 0)), (0, .ref b)] → W p l e room_1 s m #[Value.ref b] below meth c H locs 187 14115 (lw_Z below #[Value.ref b] s) (F0 m 1126 ls [])) : W p l e room_1 s m #[Value.ref b] below meth c H locs 187 14115 (lw_Z below #[Value.ref b] s) (F0 m 342 ls []) := by
  obtain ⟨hx, hb, hr, hml, hown, hts, hX, hbl, hlocks, hgv⟩ := id C0
  have hown : s.vm.findClass RL = some m.cls := hown
  have hA : ∀ q : Nat, s.heap.size ≤ q → A0 s q := fun _ h => h
  have hbA : ¬ A0 s b := Nat.not_le.mpr hbl
  refine lv_aload_n hx hb dL_law_342 rfl (lv_at hl 2 rfl) ?_
  refine lv_aload_n hx hb dL_law_343 rfl (lv_at hl 3 rfl) ?_
  refine lv_iload_n hx hb dL_law_344 rfl (lv_at hl 0 rfl) ?_
  refine lv_iconst (v := 1) hx hb dL_law_345 (by decide) ?_
  refine lv_iadd hx hb dL_law_346 ?_
  refine lv_topi (fun w1_1 ew1_1 => ?_)
  have tw1_1 : w1_1.toInt = i.toInt + 1 := ai_add rfl (by decide) ew1_1 (by omega) (by omega)
  refine va_sld hx hb hX hbl hbA hS (i := w1_1) (vp_in_iff.mpr ⟨by omega, by omega⟩) dL_law_347 ?_
  refine lv_topi (fun x1_1 ex1_1 => ?_)
  refine lv_aload_n hx hb dL_law_348 rfl (lv_at hl 3 rfl) ?_
  refine lv_iload_n hx hb dL_law_349 rfl (lv_at hl 0 rfl) ?_
  refine lv_iconst (v := 2) hx hb dL_law_350 (by decide) ?_
  refine lv_iadd hx hb dL_law_351 ?_
  refine lv_topi (fun w1_2 ew1_2 => ?_)
  have tw1_2 : w1_2.toInt = i.toInt + 2 := ai_add rfl (by decide) ew1_2 (by omega) (by omega)
  refine va_sld hx hb hX hbl hbA hS (i := w1_2) (vp_in_iff.mpr ⟨by omega, by omega⟩) dL_law_352 ?_
  refine lv_topi (fun x1_2 ex1_2 => ?_)
  obtain ⟨r0, z2, y2, t8, t9, G2⟩ := t_chair l D k a ra ia v rr ii hq z y hk x1_1 x1_2
  refine hc_Vi (As := [.int x1_1, .int x1_2]) (rest := []) (n := 2) (wr := moW k v y) hx hb hml hown hts hG hA hP hD hS hl.1 (List.range 149) (List.range' 149 38) (t8 _) (ci := 6) (q0 := 0) rfl rfl gL_law_X8_chair rfl ⟨rfl, rfl, Nat.le_of_ble_eq_true rfl, Nat.le_of_ble_eq_true rfl⟩ (by decide +kernel) (rng_l _ _ _ (CWlen k a ra ia rr ii z)) (rng_r _ _ _ _ (CWlen k a ra ia rr ii z) (MWlen k v y)) nd1 ⟨rfl, rfl, Nat.le_of_ble_eq_true rfl, Nat.le_of_ble_eq_true rfl, Nat.le_of_ble_eq_true rfl⟩ dL_law_353 (fun r1 u1 H locs e1 hP hD hS => ?_)
  obtain ⟨hP, hD⟩ := cv (w' := moW k v y ++ CWs k a ra ia rr ii z2) hP hD rfl
  refine lv_pop hx hb dL_law_356 rfl ?_
  refine lv_aload_n hx hb dL_law_357 rfl (lv_at hl 1 rfl) ?_
  refine lv_aload_n hx hb dL_law_358 rfl (lv_at hl 3 rfl) ?_
  refine lv_iload_n hx hb dL_law_359 rfl (lv_at hl 0 rfl) ?_
  refine lv_iconst (v := 1) hx hb dL_law_360 (by decide) ?_
  refine lv_iadd hx hb dL_law_361 ?_
  refine lv_topi (fun w2_1 ew2_1 => ?_)
  have tw2_1 : w2_1.toInt = i.toInt + 1 := ai_add rfl (by decide) ew2_1 (by omega) (by omega)
  refine va_sld hx hb hX hbl hbA hS (i := w2_1) (vp_in_iff.mpr ⟨by omega, by omega⟩) dL_law_362 ?_
  refine lv_topi (fun x2_1 ex2_1 => ?_)
  refine lv_aload_n hx hb dL_law_363 rfl (lv_at hl 3 rfl) ?_
  refine lv_iload_n hx hb dL_law_364 rfl (lv_at hl 0 rfl) ?_
  refine lv_iconst (v := 2) hx hb dL_law_365 (by decide) ?_
  refine lv_iadd hx hb dL_law_366 ?_
  refine lv_topi (fun w2_2 ew2_2 => ?_)
  have tw2_2 : w2_2.toInt = i.toInt + 2 := ai_add rfl (by decide) ew2_2 (by omega) (by omega)
  refine va_sld hx hb hX hbl hbA hS (i := w2_2) (vp_in_iff.mpr ⟨by omega, by omega⟩) dL_law_367 ?_
  refine lv_topi (fun x2_2 ex2_2 => ?_)
  have ex1 : x2_1 = x1_1 := by rw [ex2_1, ew2_1, ex1_1, ew1_1]
  rw [← ex1] at t9
  have ex2 : x2_2 = x1_2 := by rw [ex2_2, ew2_2, ex1_2, ew1_2]
  rw [← ex2] at t9
  refine hc_Vi (As := [.int x2_1, .int x2_2]) (rest := []) (n := 2) (wr := CWs k a ra ia rr ii z2) hx hb hml hown hts hG hA hP hD hS hl.1 (List.range 38) (List.range' 38 149) (t9 _) (ci := 7) (q0 := 0) rfl rfl gL_law_X9_chair rfl ⟨rfl, rfl, Nat.le_of_ble_eq_true rfl, Nat.le_of_ble_eq_true rfl⟩ (by decide +kernel) (rng_l _ _ _ (MWlen k v y)) (rng_r _ _ _ _ (MWlen k v y) (CWlen k a ra ia rr ii z2)) nd2 ⟨rfl, rfl, Nat.le_of_ble_eq_true rfl, Nat.le_of_ble_eq_true rfl, Nat.le_of_ble_eq_true rfl⟩ dL_law_368 (fun r2 u2 H locs e2 hP hD hS => ?_)
  obtain ⟨hP, hD⟩ := cv (w' := CWs k a ra ia rr ii z2 ++ moW k v y2) hP hD rfl
  refine lv_pop hx hb dL_law_371 rfl ?_
  refine lv_goto (tgt := 1126) hx hb dL_law_372 (by decide) ?_
  exact KK z2 y2 G2 H locs ls hP hD hS hl
set_option maxHeartbeats 4000000 in
set_option maxRecDepth 100000 in
theorem law_case_7 {p : Program} {e : Env} {s : State} {m : MethodId} {below : List Frame} {meth : Method} {c : Code} (l : Launch) {b L : Nat} {xs : Nat → Int32} (hL : L ≤ 3072) (C0 : lw_At p s m meth c b L xs) {D : va_G} {k : Nat → ClassId} (hG : GK D k s) {ad tv ad2 tv2 : Nat → Nat} (hE : EX ad tv (A0 s) s) (hE2 : EY ad2 tv2 (A0 s) s) {a ra ia v : Nat → Nat} {rr ii : Nat → Option Nat} (hq : RQ ra ia rr ii) {i : Int32} (hi0 : 0 ≤ i.toInt) (hi1 : i.toInt + 6 ≤ (L : Int)) {z : CSt} {y : OB} (hk : GLs z y) {H : Heap} {locs : List Loc} {ls : Array Slot} (hP : va_P D vwCl (CWs k a ra ia rr ii z ++ moW k v y) H) (hD : va_D (A0 s) (CWs k a ra ia rr ii z ++ moW k v y)) (hS : va_S (A0 s) s.heap H locs) (hl : lv_has ls 4 [(3, .int i), (2, .ref (v 0)), (1, .ref (a 0)), (0, .ref b)]) (KK : ∀ (z : CSt) (y : OB), GLs z y → ∀ (H : Heap) (locs : List Loc) (ls : Array Slot), va_P D vwCl (CWs k a ra ia rr ii z ++ moW k v y) H → va_D (A0 s) (CWs k a ra ia rr ii z ++ moW k v y) → va_S (A0 s) s.heap H locs → lv_has ls 4 [(3, .int i), (2, .ref (v 0)), (1, .ref (a 0)), (0, .ref b)] → W p l e room_1 s m #[Value.ref b] below meth c H locs 187 14115 (lw_Z below #[Value.ref b] s) (F0 m 1126 ls [])) : W p l e room_1 s m #[Value.ref b] below meth c H locs 187 14115 (lw_Z below #[Value.ref b] s) (F0 m 375 ls []) := by
  obtain ⟨hx, hb, hr, hml, hown, hts, hX, hbl, hlocks, hgv⟩ := id C0
  have hown : s.vm.findClass RL = some m.cls := hown
  have hA : ∀ q : Nat, s.heap.size ≤ q → A0 s q := fun _ h => h
  have hbA : ¬ A0 s b := Nat.not_le.mpr hbl
  refine lv_aload_n hx hb dL_law_375 rfl (lv_at hl 2 rfl) ?_
  refine lv_aload_n hx hb dL_law_376 rfl (lv_at hl 3 rfl) ?_
  refine lv_iload_n hx hb dL_law_377 rfl (lv_at hl 0 rfl) ?_
  refine lv_iconst (v := 1) hx hb dL_law_378 (by decide) ?_
  refine lv_iadd hx hb dL_law_379 ?_
  refine lv_topi (fun w1_1 ew1_1 => ?_)
  have tw1_1 : w1_1.toInt = i.toInt + 1 := ai_add rfl (by decide) ew1_1 (by omega) (by omega)
  refine va_sld hx hb hX hbl hbA hS (i := w1_1) (vp_in_iff.mpr ⟨by omega, by omega⟩) dL_law_380 ?_
  refine lv_topi (fun x1_1 ex1_1 => ?_)
  refine lv_aload_n hx hb dL_law_381 rfl (lv_at hl 3 rfl) ?_
  refine lv_iload_n hx hb dL_law_382 rfl (lv_at hl 0 rfl) ?_
  refine lv_iconst (v := 2) hx hb dL_law_383 (by decide) ?_
  refine lv_iadd hx hb dL_law_384 ?_
  refine lv_topi (fun w1_2 ew1_2 => ?_)
  have tw1_2 : w1_2.toInt = i.toInt + 2 := ai_add rfl (by decide) ew1_2 (by omega) (by omega)
  refine va_sld hx hb hX hbl hbA hS (i := w1_2) (vp_in_iff.mpr ⟨by omega, by omega⟩) dL_law_385 ?_
  refine lv_topi (fun x1_2 ex1_2 => ?_)
  obtain ⟨r0, z2, y2, t8, t9, G2⟩ := t_sitter l D k a ra ia v rr ii hq z y hk x1_1 x1_2
  refine hc_Vi (As := [.int x1_1, .int x1_2]) (rest := []) (n := 2) (wr := moW k v y) hx hb hml hown hts hG hA hP hD hS hl.1 (List.range 149) (List.range' 149 38) (t8 _) (ci := 6) (q0 := 0) rfl rfl gL_law_X8_sitter rfl ⟨rfl, rfl, Nat.le_of_ble_eq_true rfl, Nat.le_of_ble_eq_true rfl⟩ (by decide +kernel) (rng_l _ _ _ (CWlen k a ra ia rr ii z)) (rng_r _ _ _ _ (CWlen k a ra ia rr ii z) (MWlen k v y)) nd1 ⟨rfl, rfl, Nat.le_of_ble_eq_true rfl, Nat.le_of_ble_eq_true rfl, Nat.le_of_ble_eq_true rfl⟩ dL_law_386 (fun r1 u1 H locs e1 hP hD hS => ?_)
  obtain ⟨hP, hD⟩ := cv (w' := moW k v y ++ CWs k a ra ia rr ii z2) hP hD rfl
  refine lv_aload_n hx hb dL_law_389 rfl (lv_at hl 1 rfl) ?_
  refine lv_aload_n hx hb dL_law_390 rfl (lv_at hl 3 rfl) ?_
  refine lv_iload_n hx hb dL_law_391 rfl (lv_at hl 0 rfl) ?_
  refine lv_iconst (v := 1) hx hb dL_law_392 (by decide) ?_
  refine lv_iadd hx hb dL_law_393 ?_
  refine lv_topi (fun w2_1 ew2_1 => ?_)
  have tw2_1 : w2_1.toInt = i.toInt + 1 := ai_add rfl (by decide) ew2_1 (by omega) (by omega)
  refine va_sld hx hb hX hbl hbA hS (i := w2_1) (vp_in_iff.mpr ⟨by omega, by omega⟩) dL_law_394 ?_
  refine lv_topi (fun x2_1 ex2_1 => ?_)
  refine lv_aload_n hx hb dL_law_395 rfl (lv_at hl 3 rfl) ?_
  refine lv_iload_n hx hb dL_law_396 rfl (lv_at hl 0 rfl) ?_
  refine lv_iconst (v := 2) hx hb dL_law_397 (by decide) ?_
  refine lv_iadd hx hb dL_law_398 ?_
  refine lv_topi (fun w2_2 ew2_2 => ?_)
  have tw2_2 : w2_2.toInt = i.toInt + 2 := ai_add rfl (by decide) ew2_2 (by omega) (by omega)
  refine va_sld hx hb hX hbl hbA hS (i := w2_2) (vp_in_iff.mpr ⟨by omega, by omega⟩) dL_law_399 ?_
  refine lv_topi (fun x2_2 ex2_2 => ?_)
  have ex1 : x2_1 = x1_1 := by rw [ex2_1, ew2_1, ex1_1, ew1_1]
  rw [← ex1] at t9
  have ex2 : x2_2 = x1_2 := by rw [ex2_2, ew2_2, ex1_2, ew1_2]
  rw [← ex2] at t9
  refine hc_Vi (As := [.int x2_1, .int x2_2]) (rest := [.int r1]) (n := 2) (wr := CWs k a ra ia rr ii z2) hx hb hml hown hts hG hA hP hD hS hl.1 (List.range 38) (List.range' 38 149) (t9 _) (ci := 7) (q0 := 0) rfl rfl gL_law_X9_sitter rfl ⟨rfl, rfl, Nat.le_of_ble_eq_true rfl, Nat.le_of_ble_eq_true rfl⟩ (by decide +kernel) (rng_l _ _ _ (MWlen k v y)) (rng_r _ _ _ _ (MWlen k v y) (CWlen k a ra ia rr ii z2)) nd2 ⟨rfl, rfl, Nat.le_of_ble_eq_true rfl, Nat.le_of_ble_eq_true rfl, Nat.le_of_ble_eq_true rfl⟩ dL_law_400 (fun r2 u2 H locs e2 hP hD hS => ?_)
  obtain ⟨hP, hD⟩ := cv (w' := CWs k a ra ia rr ii z2 ++ moW k v y2) hP hD rfl
  have hr12 : r1 = r2 := e1.trans e2.symm
  refine lv_icmp_eq (tgt := 1126) hx hb dL_law_403 (by decide) (fun _ => ?_) (fun h => absurd hr12 h)
  exact KK z2 y2 G2 H locs ls hP hD hS hl
set_option maxHeartbeats 4000000 in
set_option maxRecDepth 100000 in
theorem law_case_8 {p : Program} {e : Env} {s : State} {m : MethodId} {below : List Frame} {meth : Method} {c : Code} (l : Launch) {b L : Nat} {xs : Nat → Int32} (hL : L ≤ 3072) (C0 : lw_At p s m meth c b L xs) {D : va_G} {k : Nat → ClassId} (hG : GK D k s) {ad tv ad2 tv2 : Nat → Nat} (hE : EX ad tv (A0 s) s) (hE2 : EY ad2 tv2 (A0 s) s) {a ra ia v : Nat → Nat} {rr ii : Nat → Option Nat} (hq : RQ ra ia rr ii) {i : Int32} (hi0 : 0 ≤ i.toInt) (hi1 : i.toInt + 6 ≤ (L : Int)) {z : CSt} {y : OB} (hk : GLs z y) {H : Heap} {locs : List Loc} {ls : Array Slot} (hP : va_P D vwCl (CWs k a ra ia rr ii z ++ moW k v y) H) (hD : va_D (A0 s) (CWs k a ra ia rr ii z ++ moW k v y)) (hS : va_S (A0 s) s.heap H locs) (hl : lv_has ls 4 [(3, .int i), (2, .ref (v 0)), (1, .ref (a 0)), (0, .ref b)]) (KK : ∀ (z : CSt) (y : OB), GLs z y → ∀ (H : Heap) (locs : List Loc) (ls : Array Slot), va_P D vwCl (CWs k a ra ia rr ii z ++ moW k v y) H → va_D (A0 s) (CWs k a ra ia rr ii z ++ moW k v y) → va_S (A0 s) s.heap H locs → lv_has ls 4 [(3, .int i), (2, .ref (v 0)), (1, .ref (a 0)), (0, .ref b)] → W p l e room_1 s m #[Value.ref b] below meth c H locs 187 14115 (lw_Z below #[Value.ref b] s) (F0 m 1126 ls [])) : W p l e room_1 s m #[Value.ref b] below meth c H locs 187 14115 (lw_Z below #[Value.ref b] s) (F0 m 408 ls []) := by
  obtain ⟨hx, hb, hr, hml, hown, hts, hX, hbl, hlocks, hgv⟩ := id C0
  have hown : s.vm.findClass RL = some m.cls := hown
  have hA : ∀ q : Nat, s.heap.size ≤ q → A0 s q := fun _ h => h
  have hbA : ¬ A0 s b := Nat.not_le.mpr hbl
  refine lv_aload_n hx hb dL_law_408 rfl (lv_at hl 2 rfl) ?_
  obtain ⟨r0, z2, y2, t8, t9, G2⟩ := t_minute l D k a ra ia v rr ii hq z y hk 
  refine hc_Vi (As := []) (rest := []) (n := 0) (wr := moW k v y) hx hb hml hown hts hG hA hP hD hS hl.1 (List.range 149) (List.range' 149 38) (t8 _) (ci := 6) (q0 := 0) rfl rfl gL_law_X8_minute rfl ⟨rfl, rfl, Nat.le_of_ble_eq_true rfl, Nat.le_of_ble_eq_true rfl⟩ (by decide +kernel) (rng_l _ _ _ (CWlen k a ra ia rr ii z)) (rng_r _ _ _ _ (CWlen k a ra ia rr ii z) (MWlen k v y)) nd1 ⟨rfl, rfl, Nat.le_of_ble_eq_true rfl, Nat.le_of_ble_eq_true rfl, Nat.le_of_ble_eq_true rfl⟩ dL_law_409 (fun r1 u1 H locs e1 hP hD hS => ?_)
  obtain ⟨hP, hD⟩ := cv (w' := moW k v y ++ CWs k a ra ia rr ii z2) hP hD rfl
  refine lv_pop hx hb dL_law_412 rfl ?_
  refine lv_aload_n hx hb dL_law_413 rfl (lv_at hl 1 rfl) ?_
  refine hc_Vi (As := []) (rest := []) (n := 0) (wr := CWs k a ra ia rr ii z2) hx hb hml hown hts hG hA hP hD hS hl.1 (List.range 38) (List.range' 38 149) (t9 _) (ci := 7) (q0 := 0) rfl rfl gL_law_X9_minute rfl ⟨rfl, rfl, Nat.le_of_ble_eq_true rfl, Nat.le_of_ble_eq_true rfl⟩ (by decide +kernel) (rng_l _ _ _ (MWlen k v y)) (rng_r _ _ _ _ (MWlen k v y) (CWlen k a ra ia rr ii z2)) nd2 ⟨rfl, rfl, Nat.le_of_ble_eq_true rfl, Nat.le_of_ble_eq_true rfl, Nat.le_of_ble_eq_true rfl⟩ dL_law_414 (fun r2 u2 H locs e2 hP hD hS => ?_)
  obtain ⟨hP, hD⟩ := cv (w' := CWs k a ra ia rr ii z2 ++ moW k v y2) hP hD rfl
  refine lv_pop hx hb dL_law_417 rfl ?_
  refine lv_goto (tgt := 1126) hx hb dL_law_418 (by decide) ?_
  exact KK z2 y2 G2 H locs ls hP hD hS hl
set_option maxHeartbeats 4000000 in
set_option maxRecDepth 100000 in
theorem law_case_9 {p : Program} {e : Env} {s : State} {m : MethodId} {below : List Frame} {meth : Method} {c : Code} (l : Launch) {b L : Nat} {xs : Nat → Int32} (hL : L ≤ 3072) (C0 : lw_At p s m meth c b L xs) {D : va_G} {k : Nat → ClassId} (hG : GK D k s) {ad tv ad2 tv2 : Nat → Nat} (hE : EX ad tv (A0 s) s) (hE2 : EY ad2 tv2 (A0 s) s) {a ra ia v : Nat → Nat} {rr ii : Nat → Option Nat} (hq : RQ ra ia rr ii) {i : Int32} (hi0 : 0 ≤ i.toInt) (hi1 : i.toInt + 6 ≤ (L : Int)) {z : CSt} {y : OB} (hk : GLs z y) {H : Heap} {locs : List Loc} {ls : Array Slot} (hP : va_P D vwCl (CWs k a ra ia rr ii z ++ moW k v y) H) (hD : va_D (A0 s) (CWs k a ra ia rr ii z ++ moW k v y)) (hS : va_S (A0 s) s.heap H locs) (hl : lv_has ls 4 [(3, .int i), (2, .ref (v 0)), (1, .ref (a 0)), (0, .ref b)]) (KK : ∀ (z : CSt) (y : OB), GLs z y → ∀ (H : Heap) (locs : List Loc) (ls : Array Slot), va_P D vwCl (CWs k a ra ia rr ii z ++ moW k v y) H → va_D (A0 s) (CWs k a ra ia rr ii z ++ moW k v y) → va_S (A0 s) s.heap H locs → lv_has ls 4 [(3, .int i), (2, .ref (v 0)), (1, .ref (a 0)), (0, .ref b)] → W p l e room_1 s m #[Value.ref b] below meth c H locs 187 14115 (lw_Z below #[Value.ref b] s) (F0 m 1126 ls [])) : W p l e room_1 s m #[Value.ref b] below meth c H locs 187 14115 (lw_Z below #[Value.ref b] s) (F0 m 421 ls []) := by
  obtain ⟨hx, hb, hr, hml, hown, hts, hX, hbl, hlocks, hgv⟩ := id C0
  have hown : s.vm.findClass RL = some m.cls := hown
  have hA : ∀ q : Nat, s.heap.size ≤ q → A0 s q := fun _ h => h
  have hbA : ¬ A0 s b := Nat.not_le.mpr hbl
  refine lv_aload_n hx hb dL_law_421 rfl (lv_at hl 2 rfl) ?_
  refine lv_aload_n hx hb dL_law_422 rfl (lv_at hl 3 rfl) ?_
  refine lv_iload_n hx hb dL_law_423 rfl (lv_at hl 0 rfl) ?_
  refine lv_iconst (v := 1) hx hb dL_law_424 (by decide) ?_
  refine lv_iadd hx hb dL_law_425 ?_
  refine lv_topi (fun w1_1 ew1_1 => ?_)
  have tw1_1 : w1_1.toInt = i.toInt + 1 := ai_add rfl (by decide) ew1_1 (by omega) (by omega)
  refine va_sld hx hb hX hbl hbA hS (i := w1_1) (vp_in_iff.mpr ⟨by omega, by omega⟩) dL_law_426 ?_
  refine lv_topi (fun x1_1 ex1_1 => ?_)
  obtain ⟨r0, z2, y2, t8, t9, G2⟩ := t_sit l D k a ra ia v rr ii hq z y hk x1_1
  refine hc_Vi (As := [.int x1_1]) (rest := []) (n := 1) (wr := moW k v y) hx hb hml hown hts hG hA hP hD hS hl.1 (List.range 149) (List.range' 149 38) (t8 _) (ci := 6) (q0 := 0) rfl rfl gL_law_X8_sit rfl ⟨rfl, rfl, Nat.le_of_ble_eq_true rfl, Nat.le_of_ble_eq_true rfl⟩ (by decide +kernel) (rng_l _ _ _ (CWlen k a ra ia rr ii z)) (rng_r _ _ _ _ (CWlen k a ra ia rr ii z) (MWlen k v y)) nd1 ⟨rfl, rfl, Nat.le_of_ble_eq_true rfl, Nat.le_of_ble_eq_true rfl, Nat.le_of_ble_eq_true rfl⟩ dL_law_427 (fun r1 u1 H locs e1 hP hD hS => ?_)
  obtain ⟨hP, hD⟩ := cv (w' := moW k v y ++ CWs k a ra ia rr ii z2) hP hD rfl
  refine lv_pop hx hb dL_law_430 rfl ?_
  refine lv_aload_n hx hb dL_law_431 rfl (lv_at hl 1 rfl) ?_
  refine lv_aload_n hx hb dL_law_432 rfl (lv_at hl 3 rfl) ?_
  refine lv_iload_n hx hb dL_law_433 rfl (lv_at hl 0 rfl) ?_
  refine lv_iconst (v := 1) hx hb dL_law_434 (by decide) ?_
  refine lv_iadd hx hb dL_law_435 ?_
  refine lv_topi (fun w2_1 ew2_1 => ?_)
  have tw2_1 : w2_1.toInt = i.toInt + 1 := ai_add rfl (by decide) ew2_1 (by omega) (by omega)
  refine va_sld hx hb hX hbl hbA hS (i := w2_1) (vp_in_iff.mpr ⟨by omega, by omega⟩) dL_law_436 ?_
  refine lv_topi (fun x2_1 ex2_1 => ?_)
  have ex1 : x2_1 = x1_1 := by rw [ex2_1, ew2_1, ex1_1, ew1_1]
  rw [← ex1] at t9
  refine hc_Vi (As := [.int x2_1]) (rest := []) (n := 1) (wr := CWs k a ra ia rr ii z2) hx hb hml hown hts hG hA hP hD hS hl.1 (List.range 38) (List.range' 38 149) (t9 _) (ci := 7) (q0 := 0) rfl rfl gL_law_X9_sit rfl ⟨rfl, rfl, Nat.le_of_ble_eq_true rfl, Nat.le_of_ble_eq_true rfl⟩ (by decide +kernel) (rng_l _ _ _ (MWlen k v y)) (rng_r _ _ _ _ (MWlen k v y) (CWlen k a ra ia rr ii z2)) nd2 ⟨rfl, rfl, Nat.le_of_ble_eq_true rfl, Nat.le_of_ble_eq_true rfl, Nat.le_of_ble_eq_true rfl⟩ dL_law_437 (fun r2 u2 H locs e2 hP hD hS => ?_)
  obtain ⟨hP, hD⟩ := cv (w' := CWs k a ra ia rr ii z2 ++ moW k v y2) hP hD rfl
  refine lv_pop hx hb dL_law_440 rfl ?_
  refine lv_goto (tgt := 1126) hx hb dL_law_441 (by decide) ?_
  exact KK z2 y2 G2 H locs ls hP hD hS hl
set_option maxHeartbeats 4000000 in
set_option maxRecDepth 100000 in
theorem law_case_10 {p : Program} {e : Env} {s : State} {m : MethodId} {below : List Frame} {meth : Method} {c : Code} (l : Launch) {b L : Nat} {xs : Nat → Int32} (hL : L ≤ 3072) (C0 : lw_At p s m meth c b L xs) {D : va_G} {k : Nat → ClassId} (hG : GK D k s) {ad tv ad2 tv2 : Nat → Nat} (hE : EX ad tv (A0 s) s) (hE2 : EY ad2 tv2 (A0 s) s) {a ra ia v : Nat → Nat} {rr ii : Nat → Option Nat} (hq : RQ ra ia rr ii) {i : Int32} (hi0 : 0 ≤ i.toInt) (hi1 : i.toInt + 6 ≤ (L : Int)) {z : CSt} {y : OB} (hk : GLs z y) {H : Heap} {locs : List Loc} {ls : Array Slot} (hP : va_P D vwCl (CWs k a ra ia rr ii z ++ moW k v y) H) (hD : va_D (A0 s) (CWs k a ra ia rr ii z ++ moW k v y)) (hS : va_S (A0 s) s.heap H locs) (hl : lv_has ls 4 [(3, .int i), (2, .ref (v 0)), (1, .ref (a 0)), (0, .ref b)]) (KK : ∀ (z : CSt) (y : OB), GLs z y → ∀ (H : Heap) (locs : List Loc) (ls : Array Slot), va_P D vwCl (CWs k a ra ia rr ii z ++ moW k v y) H → va_D (A0 s) (CWs k a ra ia rr ii z ++ moW k v y) → va_S (A0 s) s.heap H locs → lv_has ls 4 [(3, .int i), (2, .ref (v 0)), (1, .ref (a 0)), (0, .ref b)] → W p l e room_1 s m #[Value.ref b] below meth c H locs 187 14115 (lw_Z below #[Value.ref b] s) (F0 m 1126 ls [])) : W p l e room_1 s m #[Value.ref b] below meth c H locs 187 14115 (lw_Z below #[Value.ref b] s) (F0 m 444 ls []) := by
  obtain ⟨hx, hb, hr, hml, hown, hts, hX, hbl, hlocks, hgv⟩ := id C0
  have hown : s.vm.findClass RL = some m.cls := hown
  have hA : ∀ q : Nat, s.heap.size ≤ q → A0 s q := fun _ h => h
  have hbA : ¬ A0 s b := Nat.not_le.mpr hbl
  refine lv_aload_n hx hb dL_law_444 rfl (lv_at hl 2 rfl) ?_
  refine lv_aload_n hx hb dL_law_445 rfl (lv_at hl 3 rfl) ?_
  refine lv_iload_n hx hb dL_law_446 rfl (lv_at hl 0 rfl) ?_
  refine lv_iconst (v := 1) hx hb dL_law_447 (by decide) ?_
  refine lv_iadd hx hb dL_law_448 ?_
  refine lv_topi (fun w1_1 ew1_1 => ?_)
  have tw1_1 : w1_1.toInt = i.toInt + 1 := ai_add rfl (by decide) ew1_1 (by omega) (by omega)
  refine va_sld hx hb hX hbl hbA hS (i := w1_1) (vp_in_iff.mpr ⟨by omega, by omega⟩) dL_law_449 ?_
  refine lv_topi (fun x1_1 ex1_1 => ?_)
  obtain ⟨r0, z2, y2, t8, t9, G2⟩ := t_rise l D k a ra ia v rr ii hq z y hk x1_1
  refine hc_Vi (As := [.int x1_1]) (rest := []) (n := 1) (wr := moW k v y) hx hb hml hown hts hG hA hP hD hS hl.1 (List.range 149) (List.range' 149 38) (t8 _) (ci := 6) (q0 := 0) rfl rfl gL_law_X8_rise rfl ⟨rfl, rfl, Nat.le_of_ble_eq_true rfl, Nat.le_of_ble_eq_true rfl⟩ (by decide +kernel) (rng_l _ _ _ (CWlen k a ra ia rr ii z)) (rng_r _ _ _ _ (CWlen k a ra ia rr ii z) (MWlen k v y)) nd1 ⟨rfl, rfl, Nat.le_of_ble_eq_true rfl, Nat.le_of_ble_eq_true rfl, Nat.le_of_ble_eq_true rfl⟩ dL_law_450 (fun r1 u1 H locs e1 hP hD hS => ?_)
  obtain ⟨hP, hD⟩ := cv (w' := moW k v y ++ CWs k a ra ia rr ii z2) hP hD rfl
  refine lv_pop hx hb dL_law_453 rfl ?_
  refine lv_aload_n hx hb dL_law_454 rfl (lv_at hl 1 rfl) ?_
  refine lv_aload_n hx hb dL_law_455 rfl (lv_at hl 3 rfl) ?_
  refine lv_iload_n hx hb dL_law_456 rfl (lv_at hl 0 rfl) ?_
  refine lv_iconst (v := 1) hx hb dL_law_457 (by decide) ?_
  refine lv_iadd hx hb dL_law_458 ?_
  refine lv_topi (fun w2_1 ew2_1 => ?_)
  have tw2_1 : w2_1.toInt = i.toInt + 1 := ai_add rfl (by decide) ew2_1 (by omega) (by omega)
  refine va_sld hx hb hX hbl hbA hS (i := w2_1) (vp_in_iff.mpr ⟨by omega, by omega⟩) dL_law_459 ?_
  refine lv_topi (fun x2_1 ex2_1 => ?_)
  have ex1 : x2_1 = x1_1 := by rw [ex2_1, ew2_1, ex1_1, ew1_1]
  rw [← ex1] at t9
  refine hc_Vi (As := [.int x2_1]) (rest := []) (n := 1) (wr := CWs k a ra ia rr ii z2) hx hb hml hown hts hG hA hP hD hS hl.1 (List.range 38) (List.range' 38 149) (t9 _) (ci := 7) (q0 := 0) rfl rfl gL_law_X9_rise rfl ⟨rfl, rfl, Nat.le_of_ble_eq_true rfl, Nat.le_of_ble_eq_true rfl⟩ (by decide +kernel) (rng_l _ _ _ (MWlen k v y)) (rng_r _ _ _ _ (MWlen k v y) (CWlen k a ra ia rr ii z2)) nd2 ⟨rfl, rfl, Nat.le_of_ble_eq_true rfl, Nat.le_of_ble_eq_true rfl, Nat.le_of_ble_eq_true rfl⟩ dL_law_460 (fun r2 u2 H locs e2 hP hD hS => ?_)
  obtain ⟨hP, hD⟩ := cv (w' := CWs k a ra ia rr ii z2 ++ moW k v y2) hP hD rfl
  refine lv_pop hx hb dL_law_463 rfl ?_
  refine lv_goto (tgt := 1126) hx hb dL_law_464 (by decide) ?_
  exact KK z2 y2 G2 H locs ls hP hD hS hl
set_option maxHeartbeats 4000000 in
set_option maxRecDepth 100000 in
theorem law_case_11 {p : Program} {e : Env} {s : State} {m : MethodId} {below : List Frame} {meth : Method} {c : Code} (l : Launch) {b L : Nat} {xs : Nat → Int32} (hL : L ≤ 3072) (C0 : lw_At p s m meth c b L xs) {D : va_G} {k : Nat → ClassId} (hG : GK D k s) {ad tv ad2 tv2 : Nat → Nat} (hE : EX ad tv (A0 s) s) (hE2 : EY ad2 tv2 (A0 s) s) {a ra ia v : Nat → Nat} {rr ii : Nat → Option Nat} (hq : RQ ra ia rr ii) {i : Int32} (hi0 : 0 ≤ i.toInt) (hi1 : i.toInt + 6 ≤ (L : Int)) {z : CSt} {y : OB} (hk : GLs z y) {H : Heap} {locs : List Loc} {ls : Array Slot} (hP : va_P D vwCl (CWs k a ra ia rr ii z ++ moW k v y) H) (hD : va_D (A0 s) (CWs k a ra ia rr ii z ++ moW k v y)) (hS : va_S (A0 s) s.heap H locs) (hl : lv_has ls 4 [(3, .int i), (2, .ref (v 0)), (1, .ref (a 0)), (0, .ref b)]) (KK : ∀ (z : CSt) (y : OB), GLs z y → ∀ (H : Heap) (locs : List Loc) (ls : Array Slot), va_P D vwCl (CWs k a ra ia rr ii z ++ moW k v y) H → va_D (A0 s) (CWs k a ra ia rr ii z ++ moW k v y) → va_S (A0 s) s.heap H locs → lv_has ls 4 [(3, .int i), (2, .ref (v 0)), (1, .ref (a 0)), (0, .ref b)] → W p l e room_1 s m #[Value.ref b] below meth c H locs 187 14115 (lw_Z below #[Value.ref b] s) (F0 m 1126 ls [])) : W p l e room_1 s m #[Value.ref b] below meth c H locs 187 14115 (lw_Z below #[Value.ref b] s) (F0 m 467 ls []) := by
  obtain ⟨hx, hb, hr, hml, hown, hts, hX, hbl, hlocks, hgv⟩ := id C0
  have hown : s.vm.findClass RL = some m.cls := hown
  have hA : ∀ q : Nat, s.heap.size ≤ q → A0 s q := fun _ h => h
  have hbA : ¬ A0 s b := Nat.not_le.mpr hbl
  refine lv_aload_n hx hb dL_law_467 rfl (lv_at hl 2 rfl) ?_
  refine lv_aload_n hx hb dL_law_468 rfl (lv_at hl 3 rfl) ?_
  refine lv_iload_n hx hb dL_law_469 rfl (lv_at hl 0 rfl) ?_
  refine lv_iconst (v := 1) hx hb dL_law_470 (by decide) ?_
  refine lv_iadd hx hb dL_law_471 ?_
  refine lv_topi (fun w1_1 ew1_1 => ?_)
  have tw1_1 : w1_1.toInt = i.toInt + 1 := ai_add rfl (by decide) ew1_1 (by omega) (by omega)
  refine va_sld hx hb hX hbl hbA hS (i := w1_1) (vp_in_iff.mpr ⟨by omega, by omega⟩) dL_law_472 ?_
  refine lv_topi (fun x1_1 ex1_1 => ?_)
  obtain ⟨r0, z2, y2, t8, t9, G2⟩ := t_help l D k a ra ia v rr ii hq z y hk x1_1
  refine hc_Vi (As := [.int x1_1]) (rest := []) (n := 1) (wr := moW k v y) hx hb hml hown hts hG hA hP hD hS hl.1 (List.range 149) (List.range' 149 38) (t8 _) (ci := 6) (q0 := 0) rfl rfl gL_law_X8_help rfl ⟨rfl, rfl, Nat.le_of_ble_eq_true rfl, Nat.le_of_ble_eq_true rfl⟩ (by decide +kernel) (rng_l _ _ _ (CWlen k a ra ia rr ii z)) (rng_r _ _ _ _ (CWlen k a ra ia rr ii z) (MWlen k v y)) nd1 ⟨rfl, rfl, Nat.le_of_ble_eq_true rfl, Nat.le_of_ble_eq_true rfl, Nat.le_of_ble_eq_true rfl⟩ dL_law_473 (fun r1 u1 H locs e1 hP hD hS => ?_)
  obtain ⟨hP, hD⟩ := cv (w' := moW k v y ++ CWs k a ra ia rr ii z2) hP hD rfl
  refine lv_pop hx hb dL_law_476 rfl ?_
  refine lv_aload_n hx hb dL_law_477 rfl (lv_at hl 1 rfl) ?_
  refine lv_aload_n hx hb dL_law_478 rfl (lv_at hl 3 rfl) ?_
  refine lv_iload_n hx hb dL_law_479 rfl (lv_at hl 0 rfl) ?_
  refine lv_iconst (v := 1) hx hb dL_law_480 (by decide) ?_
  refine lv_iadd hx hb dL_law_481 ?_
  refine lv_topi (fun w2_1 ew2_1 => ?_)
  have tw2_1 : w2_1.toInt = i.toInt + 1 := ai_add rfl (by decide) ew2_1 (by omega) (by omega)
  refine va_sld hx hb hX hbl hbA hS (i := w2_1) (vp_in_iff.mpr ⟨by omega, by omega⟩) dL_law_482 ?_
  refine lv_topi (fun x2_1 ex2_1 => ?_)
  have ex1 : x2_1 = x1_1 := by rw [ex2_1, ew2_1, ex1_1, ew1_1]
  rw [← ex1] at t9
  refine hc_Vi (As := [.int x2_1]) (rest := []) (n := 1) (wr := CWs k a ra ia rr ii z2) hx hb hml hown hts hG hA hP hD hS hl.1 (List.range 38) (List.range' 38 149) (t9 _) (ci := 7) (q0 := 0) rfl rfl gL_law_X9_help rfl ⟨rfl, rfl, Nat.le_of_ble_eq_true rfl, Nat.le_of_ble_eq_true rfl⟩ (by decide +kernel) (rng_l _ _ _ (MWlen k v y)) (rng_r _ _ _ _ (MWlen k v y) (CWlen k a ra ia rr ii z2)) nd2 ⟨rfl, rfl, Nat.le_of_ble_eq_true rfl, Nat.le_of_ble_eq_true rfl, Nat.le_of_ble_eq_true rfl⟩ dL_law_483 (fun r2 u2 H locs e2 hP hD hS => ?_)
  obtain ⟨hP, hD⟩ := cv (w' := CWs k a ra ia rr ii z2 ++ moW k v y2) hP hD rfl
  refine lv_pop hx hb dL_law_486 rfl ?_
  refine lv_goto (tgt := 1126) hx hb dL_law_487 (by decide) ?_
  exact KK z2 y2 G2 H locs ls hP hD hS hl
set_option maxHeartbeats 4000000 in
set_option maxRecDepth 100000 in
theorem law_case_12 {p : Program} {e : Env} {s : State} {m : MethodId} {below : List Frame} {meth : Method} {c : Code} (l : Launch) {b L : Nat} {xs : Nat → Int32} (hL : L ≤ 3072) (C0 : lw_At p s m meth c b L xs) {D : va_G} {k : Nat → ClassId} (hG : GK D k s) {ad tv ad2 tv2 : Nat → Nat} (hE : EX ad tv (A0 s) s) (hE2 : EY ad2 tv2 (A0 s) s) {a ra ia v : Nat → Nat} {rr ii : Nat → Option Nat} (hq : RQ ra ia rr ii) {i : Int32} (hi0 : 0 ≤ i.toInt) (hi1 : i.toInt + 6 ≤ (L : Int)) {z : CSt} {y : OB} (hk : GLs z y) {H : Heap} {locs : List Loc} {ls : Array Slot} (hP : va_P D vwCl (CWs k a ra ia rr ii z ++ moW k v y) H) (hD : va_D (A0 s) (CWs k a ra ia rr ii z ++ moW k v y)) (hS : va_S (A0 s) s.heap H locs) (hl : lv_has ls 4 [(3, .int i), (2, .ref (v 0)), (1, .ref (a 0)), (0, .ref b)]) (KK : ∀ (z : CSt) (y : OB), GLs z y → ∀ (H : Heap) (locs : List Loc) (ls : Array Slot), va_P D vwCl (CWs k a ra ia rr ii z ++ moW k v y) H → va_D (A0 s) (CWs k a ra ia rr ii z ++ moW k v y) → va_S (A0 s) s.heap H locs → lv_has ls 4 [(3, .int i), (2, .ref (v 0)), (1, .ref (a 0)), (0, .ref b)] → W p l e room_1 s m #[Value.ref b] below meth c H locs 187 14115 (lw_Z below #[Value.ref b] s) (F0 m 1126 ls [])) : W p l e room_1 s m #[Value.ref b] below meth c H locs 187 14115 (lw_Z below #[Value.ref b] s) (F0 m 490 ls []) := by
  obtain ⟨hx, hb, hr, hml, hown, hts, hX, hbl, hlocks, hgv⟩ := id C0
  have hown : s.vm.findClass RL = some m.cls := hown
  have hA : ∀ q : Nat, s.heap.size ≤ q → A0 s q := fun _ h => h
  have hbA : ¬ A0 s b := Nat.not_le.mpr hbl
  refine lv_aload_n hx hb dL_law_490 rfl (lv_at hl 2 rfl) ?_
  refine lv_aload_n hx hb dL_law_491 rfl (lv_at hl 3 rfl) ?_
  refine lv_iload_n hx hb dL_law_492 rfl (lv_at hl 0 rfl) ?_
  refine lv_iconst (v := 1) hx hb dL_law_493 (by decide) ?_
  refine lv_iadd hx hb dL_law_494 ?_
  refine lv_topi (fun w1_1 ew1_1 => ?_)
  have tw1_1 : w1_1.toInt = i.toInt + 1 := ai_add rfl (by decide) ew1_1 (by omega) (by omega)
  refine va_sld hx hb hX hbl hbA hS (i := w1_1) (vp_in_iff.mpr ⟨by omega, by omega⟩) dL_law_495 ?_
  refine lv_topi (fun x1_1 ex1_1 => ?_)
  refine lv_aload_n hx hb dL_law_496 rfl (lv_at hl 3 rfl) ?_
  refine lv_iload_n hx hb dL_law_497 rfl (lv_at hl 0 rfl) ?_
  refine lv_iconst (v := 2) hx hb dL_law_498 (by decide) ?_
  refine lv_iadd hx hb dL_law_499 ?_
  refine lv_topi (fun w1_2 ew1_2 => ?_)
  have tw1_2 : w1_2.toInt = i.toInt + 2 := ai_add rfl (by decide) ew1_2 (by omega) (by omega)
  refine va_sld hx hb hX hbl hbA hS (i := w1_2) (vp_in_iff.mpr ⟨by omega, by omega⟩) dL_law_500 ?_
  refine lv_topi (fun x1_2 ex1_2 => ?_)
  obtain ⟨r0, z2, y2, t8, t9, G2⟩ := t_let l D k a ra ia v rr ii hq z y hk x1_1 x1_2
  refine hc_Vi (As := [.int x1_1, .int x1_2]) (rest := []) (n := 2) (wr := moW k v y) hx hb hml hown hts hG hA hP hD hS hl.1 (List.range 149) (List.range' 149 38) (t8 _) (ci := 6) (q0 := 0) rfl rfl gL_law_X8_let rfl ⟨rfl, rfl, Nat.le_of_ble_eq_true rfl, Nat.le_of_ble_eq_true rfl⟩ (by decide +kernel) (rng_l _ _ _ (CWlen k a ra ia rr ii z)) (rng_r _ _ _ _ (CWlen k a ra ia rr ii z) (MWlen k v y)) nd1 ⟨rfl, rfl, Nat.le_of_ble_eq_true rfl, Nat.le_of_ble_eq_true rfl, Nat.le_of_ble_eq_true rfl⟩ dL_law_501 (fun r1 u1 H locs e1 hP hD hS => ?_)
  obtain ⟨hP, hD⟩ := cv (w' := moW k v y ++ CWs k a ra ia rr ii z2) hP hD rfl
  refine lv_pop hx hb dL_law_504 rfl ?_
  refine lv_aload_n hx hb dL_law_505 rfl (lv_at hl 1 rfl) ?_
  refine lv_aload_n hx hb dL_law_506 rfl (lv_at hl 3 rfl) ?_
  refine lv_iload_n hx hb dL_law_507 rfl (lv_at hl 0 rfl) ?_
  refine lv_iconst (v := 1) hx hb dL_law_508 (by decide) ?_
  refine lv_iadd hx hb dL_law_509 ?_
  refine lv_topi (fun w2_1 ew2_1 => ?_)
  have tw2_1 : w2_1.toInt = i.toInt + 1 := ai_add rfl (by decide) ew2_1 (by omega) (by omega)
  refine va_sld hx hb hX hbl hbA hS (i := w2_1) (vp_in_iff.mpr ⟨by omega, by omega⟩) dL_law_510 ?_
  refine lv_topi (fun x2_1 ex2_1 => ?_)
  refine lv_aload_n hx hb dL_law_511 rfl (lv_at hl 3 rfl) ?_
  refine lv_iload_n hx hb dL_law_512 rfl (lv_at hl 0 rfl) ?_
  refine lv_iconst (v := 2) hx hb dL_law_513 (by decide) ?_
  refine lv_iadd hx hb dL_law_514 ?_
  refine lv_topi (fun w2_2 ew2_2 => ?_)
  have tw2_2 : w2_2.toInt = i.toInt + 2 := ai_add rfl (by decide) ew2_2 (by omega) (by omega)
  refine va_sld hx hb hX hbl hbA hS (i := w2_2) (vp_in_iff.mpr ⟨by omega, by omega⟩) dL_law_515 ?_
  refine lv_topi (fun x2_2 ex2_2 => ?_)
  have ex1 : x2_1 = x1_1 := by rw [ex2_1, ew2_1, ex1_1, ew1_1]
  rw [← ex1] at t9
  have ex2 : x2_2 = x1_2 := by rw [ex2_2, ew2_2, ex1_2, ew1_2]
  rw [← ex2] at t9
  refine hc_Vi (As := [.int x2_1, .int x2_2]) (rest := []) (n := 2) (wr := CWs k a ra ia rr ii z2) hx hb hml hown hts hG hA hP hD hS hl.1 (List.range 38) (List.range' 38 149) (t9 _) (ci := 7) (q0 := 0) rfl rfl gL_law_X9_let rfl ⟨rfl, rfl, Nat.le_of_ble_eq_true rfl, Nat.le_of_ble_eq_true rfl⟩ (by decide +kernel) (rng_l _ _ _ (MWlen k v y)) (rng_r _ _ _ _ (MWlen k v y) (CWlen k a ra ia rr ii z2)) nd2 ⟨rfl, rfl, Nat.le_of_ble_eq_true rfl, Nat.le_of_ble_eq_true rfl, Nat.le_of_ble_eq_true rfl⟩ dL_law_516 (fun r2 u2 H locs e2 hP hD hS => ?_)
  obtain ⟨hP, hD⟩ := cv (w' := CWs k a ra ia rr ii z2 ++ moW k v y2) hP hD rfl
  refine lv_pop hx hb dL_law_519 rfl ?_
  refine lv_goto (tgt := 1126) hx hb dL_law_520 (by decide) ?_
  exact KK z2 y2 G2 H locs ls hP hD hS hl
set_option maxHeartbeats 4000000 in
set_option maxRecDepth 100000 in
theorem law_case_13 {p : Program} {e : Env} {s : State} {m : MethodId} {below : List Frame} {meth : Method} {c : Code} (l : Launch) {b L : Nat} {xs : Nat → Int32} (hL : L ≤ 3072) (C0 : lw_At p s m meth c b L xs) {D : va_G} {k : Nat → ClassId} (hG : GK D k s) {ad tv ad2 tv2 : Nat → Nat} (hE : EX ad tv (A0 s) s) (hE2 : EY ad2 tv2 (A0 s) s) {a ra ia v : Nat → Nat} {rr ii : Nat → Option Nat} (hq : RQ ra ia rr ii) {i : Int32} (hi0 : 0 ≤ i.toInt) (hi1 : i.toInt + 6 ≤ (L : Int)) {z : CSt} {y : OB} (hk : GLs z y) {H : Heap} {locs : List Loc} {ls : Array Slot} (hP : va_P D vwCl (CWs k a ra ia rr ii z ++ moW k v y) H) (hD : va_D (A0 s) (CWs k a ra ia rr ii z ++ moW k v y)) (hS : va_S (A0 s) s.heap H locs) (hl : lv_has ls 4 [(3, .int i), (2, .ref (v 0)), (1, .ref (a 0)), (0, .ref b)]) (KK : ∀ (z : CSt) (y : OB), GLs z y → ∀ (H : Heap) (locs : List Loc) (ls : Array Slot), va_P D vwCl (CWs k a ra ia rr ii z ++ moW k v y) H → va_D (A0 s) (CWs k a ra ia rr ii z ++ moW k v y) → va_S (A0 s) s.heap H locs → lv_has ls 4 [(3, .int i), (2, .ref (v 0)), (1, .ref (a 0)), (0, .ref b)] → W p l e room_1 s m #[Value.ref b] below meth c H locs 187 14115 (lw_Z below #[Value.ref b] s) (F0 m 1126 ls [])) : W p l e room_1 s m #[Value.ref b] below meth c H locs 187 14115 (lw_Z below #[Value.ref b] s) (F0 m 523 ls []) := by
  obtain ⟨hx, hb, hr, hml, hown, hts, hX, hbl, hlocks, hgv⟩ := id C0
  have hown : s.vm.findClass RL = some m.cls := hown
  have hA : ∀ q : Nat, s.heap.size ≤ q → A0 s q := fun _ h => h
  have hbA : ¬ A0 s b := Nat.not_le.mpr hbl
  refine lv_aload_n hx hb dL_law_523 rfl (lv_at hl 2 rfl) ?_
  obtain ⟨r0, z2, y2, t8, t9, G2⟩ := t_undo l D k a ra ia v rr ii hq z y hk 
  refine hc_Vi (As := []) (rest := []) (n := 0) (wr := moW k v y) hx hb hml hown hts hG hA hP hD hS hl.1 (List.range 149) (List.range' 149 38) (t8 _) (ci := 6) (q0 := 0) rfl rfl gL_law_X8_undo rfl ⟨rfl, rfl, Nat.le_of_ble_eq_true rfl, Nat.le_of_ble_eq_true rfl⟩ (by decide +kernel) (rng_l _ _ _ (CWlen k a ra ia rr ii z)) (rng_r _ _ _ _ (CWlen k a ra ia rr ii z) (MWlen k v y)) nd1 ⟨rfl, rfl, Nat.le_of_ble_eq_true rfl, Nat.le_of_ble_eq_true rfl, Nat.le_of_ble_eq_true rfl⟩ dL_law_524 (fun r1 u1 H locs e1 hP hD hS => ?_)
  obtain ⟨hP, hD⟩ := cv (w' := moW k v y ++ CWs k a ra ia rr ii z2) hP hD rfl
  refine lv_pop hx hb dL_law_527 rfl ?_
  refine lv_aload_n hx hb dL_law_528 rfl (lv_at hl 1 rfl) ?_
  refine hc_Vi (As := []) (rest := []) (n := 0) (wr := CWs k a ra ia rr ii z2) hx hb hml hown hts hG hA hP hD hS hl.1 (List.range 38) (List.range' 38 149) (t9 _) (ci := 7) (q0 := 0) rfl rfl gL_law_X9_undo rfl ⟨rfl, rfl, Nat.le_of_ble_eq_true rfl, Nat.le_of_ble_eq_true rfl⟩ (by decide +kernel) (rng_l _ _ _ (MWlen k v y)) (rng_r _ _ _ _ (MWlen k v y) (CWlen k a ra ia rr ii z2)) nd2 ⟨rfl, rfl, Nat.le_of_ble_eq_true rfl, Nat.le_of_ble_eq_true rfl, Nat.le_of_ble_eq_true rfl⟩ dL_law_529 (fun r2 u2 H locs e2 hP hD hS => ?_)
  obtain ⟨hP, hD⟩ := cv (w' := CWs k a ra ia rr ii z2 ++ moW k v y2) hP hD rfl
  refine lv_pop hx hb dL_law_532 rfl ?_
  refine lv_goto (tgt := 1126) hx hb dL_law_533 (by decide) ?_
  exact KK z2 y2 G2 H locs ls hP hD hS hl
set_option maxHeartbeats 4000000 in
set_option maxRecDepth 100000 in
theorem law_case_14 {p : Program} {e : Env} {s : State} {m : MethodId} {below : List Frame} {meth : Method} {c : Code} (l : Launch) {b L : Nat} {xs : Nat → Int32} (hL : L ≤ 3072) (C0 : lw_At p s m meth c b L xs) {D : va_G} {k : Nat → ClassId} (hG : GK D k s) {ad tv ad2 tv2 : Nat → Nat} (hE : EX ad tv (A0 s) s) (hE2 : EY ad2 tv2 (A0 s) s) {a ra ia v : Nat → Nat} {rr ii : Nat → Option Nat} (hq : RQ ra ia rr ii) {i : Int32} (hi0 : 0 ≤ i.toInt) (hi1 : i.toInt + 6 ≤ (L : Int)) {z : CSt} {y : OB} (hk : GLs z y) {H : Heap} {locs : List Loc} {ls : Array Slot} (hP : va_P D vwCl (CWs k a ra ia rr ii z ++ moW k v y) H) (hD : va_D (A0 s) (CWs k a ra ia rr ii z ++ moW k v y)) (hS : va_S (A0 s) s.heap H locs) (hl : lv_has ls 4 [(3, .int i), (2, .ref (v 0)), (1, .ref (a 0)), (0, .ref b)]) (KK : ∀ (z : CSt) (y : OB), GLs z y → ∀ (H : Heap) (locs : List Loc) (ls : Array Slot), va_P D vwCl (CWs k a ra ia rr ii z ++ moW k v y) H → va_D (A0 s) (CWs k a ra ia rr ii z ++ moW k v y) → va_S (A0 s) s.heap H locs → lv_has ls 4 [(3, .int i), (2, .ref (v 0)), (1, .ref (a 0)), (0, .ref b)] → W p l e room_1 s m #[Value.ref b] below meth c H locs 187 14115 (lw_Z below #[Value.ref b] s) (F0 m 1126 ls [])) : W p l e room_1 s m #[Value.ref b] below meth c H locs 187 14115 (lw_Z below #[Value.ref b] s) (F0 m 536 ls []) := by
  obtain ⟨hx, hb, hr, hml, hown, hts, hX, hbl, hlocks, hgv⟩ := id C0
  have hown : s.vm.findClass RL = some m.cls := hown
  have hA : ∀ q : Nat, s.heap.size ≤ q → A0 s q := fun _ h => h
  have hbA : ¬ A0 s b := Nat.not_le.mpr hbl
  refine lv_aload_n hx hb dL_law_536 rfl (lv_at hl 2 rfl) ?_
  refine lv_aload_n hx hb dL_law_537 rfl (lv_at hl 3 rfl) ?_
  refine lv_iload_n hx hb dL_law_538 rfl (lv_at hl 0 rfl) ?_
  refine lv_iconst (v := 1) hx hb dL_law_539 (by decide) ?_
  refine lv_iadd hx hb dL_law_540 ?_
  refine lv_topi (fun w1_1 ew1_1 => ?_)
  have tw1_1 : w1_1.toInt = i.toInt + 1 := ai_add rfl (by decide) ew1_1 (by omega) (by omega)
  refine va_sld hx hb hX hbl hbA hS (i := w1_1) (vp_in_iff.mpr ⟨by omega, by omega⟩) dL_law_541 ?_
  refine lv_topi (fun x1_1 ex1_1 => ?_)
  refine lv_aload_n hx hb dL_law_542 rfl (lv_at hl 3 rfl) ?_
  refine lv_iload_n hx hb dL_law_543 rfl (lv_at hl 0 rfl) ?_
  refine lv_iconst (v := 2) hx hb dL_law_544 (by decide) ?_
  refine lv_iadd hx hb dL_law_545 ?_
  refine lv_topi (fun w1_2 ew1_2 => ?_)
  have tw1_2 : w1_2.toInt = i.toInt + 2 := ai_add rfl (by decide) ew1_2 (by omega) (by omega)
  refine va_sld hx hb hX hbl hbA hS (i := w1_2) (vp_in_iff.mpr ⟨by omega, by omega⟩) dL_law_546 ?_
  refine lv_topi (fun x1_2 ex1_2 => ?_)
  refine lv_aload_n hx hb dL_law_547 rfl (lv_at hl 3 rfl) ?_
  refine lv_iload_n hx hb dL_law_548 rfl (lv_at hl 0 rfl) ?_
  refine lv_iconst (v := 3) hx hb dL_law_549 (by decide) ?_
  refine lv_iadd hx hb dL_law_550 ?_
  refine lv_topi (fun w1_3 ew1_3 => ?_)
  have tw1_3 : w1_3.toInt = i.toInt + 3 := ai_add rfl (by decide) ew1_3 (by omega) (by omega)
  refine va_sld hx hb hX hbl hbA hS (i := w1_3) (vp_in_iff.mpr ⟨by omega, by omega⟩) dL_law_551 ?_
  refine lv_topi (fun x1_3 ex1_3 => ?_)
  obtain ⟨r0, z2, y2, t8, t9, G2⟩ := t_ahead l D k a ra ia v rr ii hq z y hk x1_1 x1_2 x1_3
  refine hc_Vi (As := [.int x1_1, .int x1_2, .int x1_3]) (rest := []) (n := 3) (wr := moW k v y) hx hb hml hown hts hG hA hP hD hS hl.1 (List.range 149) (List.range' 149 38) (t8 _) (ci := 6) (q0 := 0) rfl rfl gL_law_X8_ahead rfl ⟨rfl, rfl, Nat.le_of_ble_eq_true rfl, Nat.le_of_ble_eq_true rfl⟩ (by decide +kernel) (rng_l _ _ _ (CWlen k a ra ia rr ii z)) (rng_r _ _ _ _ (CWlen k a ra ia rr ii z) (MWlen k v y)) nd1 ⟨rfl, rfl, Nat.le_of_ble_eq_true rfl, Nat.le_of_ble_eq_true rfl, Nat.le_of_ble_eq_true rfl⟩ dL_law_552 (fun r1 u1 H locs e1 hP hD hS => ?_)
  obtain ⟨hP, hD⟩ := cv (w' := moW k v y ++ CWs k a ra ia rr ii z2) hP hD rfl
  refine lv_pop hx hb dL_law_555 rfl ?_
  refine lv_aload_n hx hb dL_law_556 rfl (lv_at hl 1 rfl) ?_
  refine lv_aload_n hx hb dL_law_557 rfl (lv_at hl 3 rfl) ?_
  refine lv_iload_n hx hb dL_law_558 rfl (lv_at hl 0 rfl) ?_
  refine lv_iconst (v := 1) hx hb dL_law_559 (by decide) ?_
  refine lv_iadd hx hb dL_law_560 ?_
  refine lv_topi (fun w2_1 ew2_1 => ?_)
  have tw2_1 : w2_1.toInt = i.toInt + 1 := ai_add rfl (by decide) ew2_1 (by omega) (by omega)
  refine va_sld hx hb hX hbl hbA hS (i := w2_1) (vp_in_iff.mpr ⟨by omega, by omega⟩) dL_law_561 ?_
  refine lv_topi (fun x2_1 ex2_1 => ?_)
  refine lv_aload_n hx hb dL_law_562 rfl (lv_at hl 3 rfl) ?_
  refine lv_iload_n hx hb dL_law_563 rfl (lv_at hl 0 rfl) ?_
  refine lv_iconst (v := 2) hx hb dL_law_564 (by decide) ?_
  refine lv_iadd hx hb dL_law_565 ?_
  refine lv_topi (fun w2_2 ew2_2 => ?_)
  have tw2_2 : w2_2.toInt = i.toInt + 2 := ai_add rfl (by decide) ew2_2 (by omega) (by omega)
  refine va_sld hx hb hX hbl hbA hS (i := w2_2) (vp_in_iff.mpr ⟨by omega, by omega⟩) dL_law_566 ?_
  refine lv_topi (fun x2_2 ex2_2 => ?_)
  refine lv_aload_n hx hb dL_law_567 rfl (lv_at hl 3 rfl) ?_
  refine lv_iload_n hx hb dL_law_568 rfl (lv_at hl 0 rfl) ?_
  refine lv_iconst (v := 3) hx hb dL_law_569 (by decide) ?_
  refine lv_iadd hx hb dL_law_570 ?_
  refine lv_topi (fun w2_3 ew2_3 => ?_)
  have tw2_3 : w2_3.toInt = i.toInt + 3 := ai_add rfl (by decide) ew2_3 (by omega) (by omega)
  refine va_sld hx hb hX hbl hbA hS (i := w2_3) (vp_in_iff.mpr ⟨by omega, by omega⟩) dL_law_571 ?_
  refine lv_topi (fun x2_3 ex2_3 => ?_)
  have ex1 : x2_1 = x1_1 := by rw [ex2_1, ew2_1, ex1_1, ew1_1]
  rw [← ex1] at t9
  have ex2 : x2_2 = x1_2 := by rw [ex2_2, ew2_2, ex1_2, ew1_2]
  rw [← ex2] at t9
  have ex3 : x2_3 = x1_3 := by rw [ex2_3, ew2_3, ex1_3, ew1_3]
  rw [← ex3] at t9
  refine hc_Vi (As := [.int x2_1, .int x2_2, .int x2_3]) (rest := []) (n := 3) (wr := CWs k a ra ia rr ii z2) hx hb hml hown hts hG hA hP hD hS hl.1 (List.range 38) (List.range' 38 149) (t9 _) (ci := 7) (q0 := 0) rfl rfl gL_law_X9_ahead rfl ⟨rfl, rfl, Nat.le_of_ble_eq_true rfl, Nat.le_of_ble_eq_true rfl⟩ (by decide +kernel) (rng_l _ _ _ (MWlen k v y)) (rng_r _ _ _ _ (MWlen k v y) (CWlen k a ra ia rr ii z2)) nd2 ⟨rfl, rfl, Nat.le_of_ble_eq_true rfl, Nat.le_of_ble_eq_true rfl, Nat.le_of_ble_eq_true rfl⟩ dL_law_572 (fun r2 u2 H locs e2 hP hD hS => ?_)
  obtain ⟨hP, hD⟩ := cv (w' := CWs k a ra ia rr ii z2 ++ moW k v y2) hP hD rfl
  refine lv_pop hx hb dL_law_575 rfl ?_
  refine lv_goto (tgt := 1126) hx hb dL_law_576 (by decide) ?_
  exact KK z2 y2 G2 H locs ls hP hD hS hl
set_option maxHeartbeats 4000000 in
set_option maxRecDepth 100000 in
theorem law_case_15 {p : Program} {e : Env} {s : State} {m : MethodId} {below : List Frame} {meth : Method} {c : Code} (l : Launch) {b L : Nat} {xs : Nat → Int32} (hL : L ≤ 3072) (C0 : lw_At p s m meth c b L xs) {D : va_G} {k : Nat → ClassId} (hG : GK D k s) {ad tv ad2 tv2 : Nat → Nat} (hE : EX ad tv (A0 s) s) (hE2 : EY ad2 tv2 (A0 s) s) {a ra ia v : Nat → Nat} {rr ii : Nat → Option Nat} (hq : RQ ra ia rr ii) {i : Int32} (hi0 : 0 ≤ i.toInt) (hi1 : i.toInt + 6 ≤ (L : Int)) {z : CSt} {y : OB} (hk : GLs z y) {H : Heap} {locs : List Loc} {ls : Array Slot} (hP : va_P D vwCl (CWs k a ra ia rr ii z ++ moW k v y) H) (hD : va_D (A0 s) (CWs k a ra ia rr ii z ++ moW k v y)) (hS : va_S (A0 s) s.heap H locs) (hl : lv_has ls 4 [(3, .int i), (2, .ref (v 0)), (1, .ref (a 0)), (0, .ref b)]) (KK : ∀ (z : CSt) (y : OB), GLs z y → ∀ (H : Heap) (locs : List Loc) (ls : Array Slot), va_P D vwCl (CWs k a ra ia rr ii z ++ moW k v y) H → va_D (A0 s) (CWs k a ra ia rr ii z ++ moW k v y) → va_S (A0 s) s.heap H locs → lv_has ls 4 [(3, .int i), (2, .ref (v 0)), (1, .ref (a 0)), (0, .ref b)] → W p l e room_1 s m #[Value.ref b] below meth c H locs 187 14115 (lw_Z below #[Value.ref b] s) (F0 m 1126 ls [])) : W p l e room_1 s m #[Value.ref b] below meth c H locs 187 14115 (lw_Z below #[Value.ref b] s) (F0 m 579 ls []) := by
  obtain ⟨hx, hb, hr, hml, hown, hts, hX, hbl, hlocks, hgv⟩ := id C0
  have hown : s.vm.findClass RL = some m.cls := hown
  have hA : ∀ q : Nat, s.heap.size ≤ q → A0 s q := fun _ h => h
  have hbA : ¬ A0 s b := Nat.not_le.mpr hbl
  refine lv_aload_n hx hb dL_law_579 rfl (lv_at hl 2 rfl) ?_
  refine lv_aload_n hx hb dL_law_580 rfl (lv_at hl 3 rfl) ?_
  refine lv_iload_n hx hb dL_law_581 rfl (lv_at hl 0 rfl) ?_
  refine lv_iconst (v := 1) hx hb dL_law_582 (by decide) ?_
  refine lv_iadd hx hb dL_law_583 ?_
  refine lv_topi (fun w1_1 ew1_1 => ?_)
  have tw1_1 : w1_1.toInt = i.toInt + 1 := ai_add rfl (by decide) ew1_1 (by omega) (by omega)
  refine va_sld hx hb hX hbl hbA hS (i := w1_1) (vp_in_iff.mpr ⟨by omega, by omega⟩) dL_law_584 ?_
  refine lv_topi (fun x1_1 ex1_1 => ?_)
  obtain ⟨r0, z2, y2, t8, t9, G2⟩ := t_falls l D k a ra ia v rr ii hq z y hk x1_1
  refine hc_Vi (As := [.int x1_1]) (rest := []) (n := 1) (wr := moW k v y) hx hb hml hown hts hG hA hP hD hS hl.1 (List.range 149) (List.range' 149 38) (t8 _) (ci := 6) (q0 := 0) rfl rfl gL_law_X8_falls rfl ⟨rfl, rfl, Nat.le_of_ble_eq_true rfl, Nat.le_of_ble_eq_true rfl⟩ (by decide +kernel) (rng_l _ _ _ (CWlen k a ra ia rr ii z)) (rng_r _ _ _ _ (CWlen k a ra ia rr ii z) (MWlen k v y)) nd1 ⟨rfl, rfl, Nat.le_of_ble_eq_true rfl, Nat.le_of_ble_eq_true rfl, Nat.le_of_ble_eq_true rfl⟩ dL_law_585 (fun r1 u1 H locs e1 hP hD hS => ?_)
  obtain ⟨hP, hD⟩ := cv (w' := moW k v y ++ CWs k a ra ia rr ii z2) hP hD rfl
  refine lv_pop hx hb dL_law_588 rfl ?_
  refine lv_aload_n hx hb dL_law_589 rfl (lv_at hl 1 rfl) ?_
  refine lv_aload_n hx hb dL_law_590 rfl (lv_at hl 3 rfl) ?_
  refine lv_iload_n hx hb dL_law_591 rfl (lv_at hl 0 rfl) ?_
  refine lv_iconst (v := 1) hx hb dL_law_592 (by decide) ?_
  refine lv_iadd hx hb dL_law_593 ?_
  refine lv_topi (fun w2_1 ew2_1 => ?_)
  have tw2_1 : w2_1.toInt = i.toInt + 1 := ai_add rfl (by decide) ew2_1 (by omega) (by omega)
  refine va_sld hx hb hX hbl hbA hS (i := w2_1) (vp_in_iff.mpr ⟨by omega, by omega⟩) dL_law_594 ?_
  refine lv_topi (fun x2_1 ex2_1 => ?_)
  have ex1 : x2_1 = x1_1 := by rw [ex2_1, ew2_1, ex1_1, ew1_1]
  rw [← ex1] at t9
  refine hc_Vi (As := [.int x2_1]) (rest := []) (n := 1) (wr := CWs k a ra ia rr ii z2) hx hb hml hown hts hG hA hP hD hS hl.1 (List.range 38) (List.range' 38 149) (t9 _) (ci := 7) (q0 := 0) rfl rfl gL_law_X9_falls rfl ⟨rfl, rfl, Nat.le_of_ble_eq_true rfl, Nat.le_of_ble_eq_true rfl⟩ (by decide +kernel) (rng_l _ _ _ (MWlen k v y)) (rng_r _ _ _ _ (MWlen k v y) (CWlen k a ra ia rr ii z2)) nd2 ⟨rfl, rfl, Nat.le_of_ble_eq_true rfl, Nat.le_of_ble_eq_true rfl, Nat.le_of_ble_eq_true rfl⟩ dL_law_595 (fun r2 u2 H locs e2 hP hD hS => ?_)
  obtain ⟨hP, hD⟩ := cv (w' := CWs k a ra ia rr ii z2 ++ moW k v y2) hP hD rfl
  refine lv_pop hx hb dL_law_598 rfl ?_
  refine lv_goto (tgt := 1126) hx hb dL_law_599 (by decide) ?_
  exact KK z2 y2 G2 H locs ls hP hD hS hl
set_option maxHeartbeats 4000000 in
set_option maxRecDepth 100000 in
theorem law_case_16 {p : Program} {e : Env} {s : State} {m : MethodId} {below : List Frame} {meth : Method} {c : Code} (l : Launch) {b L : Nat} {xs : Nat → Int32} (hL : L ≤ 3072) (C0 : lw_At p s m meth c b L xs) {D : va_G} {k : Nat → ClassId} (hG : GK D k s) {ad tv ad2 tv2 : Nat → Nat} (hE : EX ad tv (A0 s) s) (hE2 : EY ad2 tv2 (A0 s) s) {a ra ia v : Nat → Nat} {rr ii : Nat → Option Nat} (hq : RQ ra ia rr ii) {i : Int32} (hi0 : 0 ≤ i.toInt) (hi1 : i.toInt + 6 ≤ (L : Int)) {z : CSt} {y : OB} (hk : GLs z y) {H : Heap} {locs : List Loc} {ls : Array Slot} (hP : va_P D vwCl (CWs k a ra ia rr ii z ++ moW k v y) H) (hD : va_D (A0 s) (CWs k a ra ia rr ii z ++ moW k v y)) (hS : va_S (A0 s) s.heap H locs) (hl : lv_has ls 4 [(3, .int i), (2, .ref (v 0)), (1, .ref (a 0)), (0, .ref b)]) (KK : ∀ (z : CSt) (y : OB), GLs z y → ∀ (H : Heap) (locs : List Loc) (ls : Array Slot), va_P D vwCl (CWs k a ra ia rr ii z ++ moW k v y) H → va_D (A0 s) (CWs k a ra ia rr ii z ++ moW k v y) → va_S (A0 s) s.heap H locs → lv_has ls 4 [(3, .int i), (2, .ref (v 0)), (1, .ref (a 0)), (0, .ref b)] → W p l e room_1 s m #[Value.ref b] below meth c H locs 187 14115 (lw_Z below #[Value.ref b] s) (F0 m 1126 ls [])) : W p l e room_1 s m #[Value.ref b] below meth c H locs 187 14115 (lw_Z below #[Value.ref b] s) (F0 m 602 ls []) := by
  obtain ⟨hx, hb, hr, hml, hown, hts, hX, hbl, hlocks, hgv⟩ := id C0
  have hown : s.vm.findClass RL = some m.cls := hown
  have hA : ∀ q : Nat, s.heap.size ≤ q → A0 s q := fun _ h => h
  have hbA : ¬ A0 s b := Nat.not_le.mpr hbl
  refine lv_aload_n hx hb dL_law_602 rfl (lv_at hl 2 rfl) ?_
  refine lv_aload_n hx hb dL_law_603 rfl (lv_at hl 3 rfl) ?_
  refine lv_iload_n hx hb dL_law_604 rfl (lv_at hl 0 rfl) ?_
  refine lv_iconst (v := 1) hx hb dL_law_605 (by decide) ?_
  refine lv_iadd hx hb dL_law_606 ?_
  refine lv_topi (fun w1_1 ew1_1 => ?_)
  have tw1_1 : w1_1.toInt = i.toInt + 1 := ai_add rfl (by decide) ew1_1 (by omega) (by omega)
  refine va_sld hx hb hX hbl hbA hS (i := w1_1) (vp_in_iff.mpr ⟨by omega, by omega⟩) dL_law_607 ?_
  refine lv_topi (fun x1_1 ex1_1 => ?_)
  obtain ⟨r0, z2, y2, t8, t9, G2⟩ := t_felled l D k a ra ia v rr ii hq z y hk x1_1
  refine hc_Vi (As := [.int x1_1]) (rest := []) (n := 1) (wr := moW k v y) hx hb hml hown hts hG hA hP hD hS hl.1 (List.range 149) (List.range' 149 38) (t8 _) (ci := 6) (q0 := 0) rfl rfl gL_law_X8_felled rfl ⟨rfl, rfl, Nat.le_of_ble_eq_true rfl, Nat.le_of_ble_eq_true rfl⟩ (by decide +kernel) (rng_l _ _ _ (CWlen k a ra ia rr ii z)) (rng_r _ _ _ _ (CWlen k a ra ia rr ii z) (MWlen k v y)) nd1 ⟨rfl, rfl, Nat.le_of_ble_eq_true rfl, Nat.le_of_ble_eq_true rfl, Nat.le_of_ble_eq_true rfl⟩ dL_law_608 (fun r1 u1 H locs e1 hP hD hS => ?_)
  obtain ⟨hP, hD⟩ := cv (w' := moW k v y ++ CWs k a ra ia rr ii z2) hP hD rfl
  refine lv_pop hx hb dL_law_611 rfl ?_
  refine lv_aload_n hx hb dL_law_612 rfl (lv_at hl 1 rfl) ?_
  refine lv_aload_n hx hb dL_law_613 rfl (lv_at hl 3 rfl) ?_
  refine lv_iload_n hx hb dL_law_614 rfl (lv_at hl 0 rfl) ?_
  refine lv_iconst (v := 1) hx hb dL_law_615 (by decide) ?_
  refine lv_iadd hx hb dL_law_616 ?_
  refine lv_topi (fun w2_1 ew2_1 => ?_)
  have tw2_1 : w2_1.toInt = i.toInt + 1 := ai_add rfl (by decide) ew2_1 (by omega) (by omega)
  refine va_sld hx hb hX hbl hbA hS (i := w2_1) (vp_in_iff.mpr ⟨by omega, by omega⟩) dL_law_617 ?_
  refine lv_topi (fun x2_1 ex2_1 => ?_)
  have ex1 : x2_1 = x1_1 := by rw [ex2_1, ew2_1, ex1_1, ew1_1]
  rw [← ex1] at t9
  refine hc_Vi (As := [.int x2_1]) (rest := []) (n := 1) (wr := CWs k a ra ia rr ii z2) hx hb hml hown hts hG hA hP hD hS hl.1 (List.range 38) (List.range' 38 149) (t9 _) (ci := 7) (q0 := 0) rfl rfl gL_law_X9_felled rfl ⟨rfl, rfl, Nat.le_of_ble_eq_true rfl, Nat.le_of_ble_eq_true rfl⟩ (by decide +kernel) (rng_l _ _ _ (MWlen k v y)) (rng_r _ _ _ _ (MWlen k v y) (CWlen k a ra ia rr ii z2)) nd2 ⟨rfl, rfl, Nat.le_of_ble_eq_true rfl, Nat.le_of_ble_eq_true rfl, Nat.le_of_ble_eq_true rfl⟩ dL_law_618 (fun r2 u2 H locs e2 hP hD hS => ?_)
  obtain ⟨hP, hD⟩ := cv (w' := CWs k a ra ia rr ii z2 ++ moW k v y2) hP hD rfl
  refine lv_pop hx hb dL_law_621 rfl ?_
  refine lv_goto (tgt := 1126) hx hb dL_law_622 (by decide) ?_
  exact KK z2 y2 G2 H locs ls hP hD hS hl
