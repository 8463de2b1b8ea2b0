/-! Room: what never breaks -/
section HC2
variable {p : Program} {l : Launch} {e : Env} {R : Room} {s : State} {m : MethodId} {args : Array Value} {below : List Frame} {meth : Method} {c : Code} {H : Heap} {locs : List Loc} {cells slots : Nat} {Q : State → Prop} {pc : Nat} {ls : Array Slot} {rest st0 As : List Value} {D : va_G} {k : Nat → ClassId} {A : Nat → Prop} {ws wc wr : va_W} {cc : ByteArray} {y : MethodName} {wd wd' Ts : List Cond} {rm : Room} {mc ms n index maxL nL : Nat} {bytes : ByteArray} {ret : Option FieldType} {own C host : String} {b : Nat}
end HC2
/-! intervals: copies, rests -/
theorem row_cpy {lo hi : Int} {f g : Nat → Int32} {a b n : Nat} (hf : rowIn lo hi f) (hg : rowIn lo hi g) : rowIn lo hi (va_cpy f g a b n) := by
  intro j
  by_cases h : b ≤ j ∧ j < b + n
  · rw [pk_cpy_in h.1 h.2]; exact hf _
  · rw [pk_cpy_out (by omega)]; exact hg _

set_option maxHeartbeats 4000000 in
set_option maxRecDepth 100000 in
theorem i_X3_hasStrand (l : Launch) (D : va_G) (k : Nat → ClassId) (sz : Nat) (x1 : Int32) (r : Nat) (r_told : Int32) (r_strands : Int32) (r_chairs : Int32) (r_sitters : Int32) (r_atoldCane : Nat) (r_aheight : Nat) (r_astrandOf : Nat) (r_achairOf : Nat) (r_aweight : Nat) (r_acane : Nat) (r_sits : Int32) (r_dropped : Int32) (r_minute : Int32) (r_aload : Nat) (r_aheads : Nat) (r_held : Int32) (r_heldDown : Int32) (h_r_told : iv (0) (1) r_told) (h_r_strands : iv (0) (4) r_strands) (h_r_chairs : iv (0) (8) r_chairs) (h_r_sitters : iv (0) (8) r_sitters) : CtI l yX3_hasStrand wsX3_hasStrand (rmK 1 0 0) [.ref r, .int x1] D k sz ([(r, .inr (2, [.int r_told, .int r_strands, .int r_chairs, .int r_sitters, .ref r_atoldCane, .ref r_aheight, .ref r_astrandOf, .ref r_achairOf, .ref r_aweight, .ref r_acane, .int r_sits, .int r_dropped, .int r_minute, .ref r_aload, .ref r_aheads, .int r_held, .int r_heldDown]))]) (fun (r : Int32) (u : Unit) => iv (0) (1) r ∧ (r.toInt = 0 ∨ 0 ≤ x1.toInt ∧ x1.toInt < r_strands.toInt)) (fun u : Unit => [(r, .inr (2, [.int r_told, .int r_strands, .int r_chairs, .int r_sitters, .ref r_atoldCane, .ref r_aheight, .ref r_astrandOf, .ref r_achairOf, .ref r_aweight, .ref r_acane, .int r_sits, .int r_dropped, .int r_minute, .ref r_aload, .ref r_aheads, .int r_held, .int r_heldDown]))]) 0 0 := by
  have h_r_told_l := h_r_told.1
  have h_r_told_u := h_r_told.2
  have h_r_strands_l := h_r_strands.1
  have h_r_strands_u := h_r_strands.2
  have h_r_chairs_l := h_r_chairs.1
  have h_r_chairs_u := h_r_chairs.2
  have h_r_sitters_l := h_r_sitters.1
  have h_r_sitters_u := h_r_sitters.2
  refine CtI.mk (cc := cX3_hasStrand) (maxL := 2) (ret := (some .boolean)) (by decide) rfl (Nat.le_of_ble_eq_true rfl) ?_
  intro p e s m below meth c A ls E hP hD hS hl
  obtain ⟨hx, hb, hr, hml, hown, hts, hlocks, hin, hG, hA⟩ := E
  have hown : s.vm.findClass RX3 = some m.cls := hown
  have in3 : ∀ w ∈ u_ws RX3 TX3 17, w ∈ wsX3_hasStrand := fun _ h => List.mem_cons_of_mem _ (List.mem_append_right _ h)
  have hl : lv_has ls 2 [(0, .ref r), (1, .int x1)] := hl
  refine lv_iload_n hx hb dX3_hasStrand_0 rfl (lv_at hl 1 rfl) ?_
  refine lv_if_lt (tgt := 16) hx hb dX3_hasStrand_1 (by decide) (fun c1 => ?_) (fun c1 => ?_)
  · have fc1 := cx_lt_t (a := x1.toInt) (b := 0) rfl (by decide) c1
    refine lv_iconst (v := 0) hx hb dX3_hasStrand_16 (by decide) ?_
    exact hc_endZ hx hb hr hlocks rfl () ⟨iv_lit (by decide) (by decide), (by have q9 : (0 : Int32).toInt = 0 := (by decide); omega)⟩ hP hD hS dX3_hasStrand_17
  · have fc1 := cx_lt_f (a := x1.toInt) (b := 0) rfl (by decide) c1
    refine lv_iload_n hx hb dX3_hasStrand_4 rfl (lv_at hl 1 rfl) ?_
    refine lv_aload_n hx hb dX3_hasStrand_5 rfl (lv_at hl 0 rfl) ?_
    refine va_get (D := D) (ci := 2) (v := .int r_strands) (C := RX3) (T := TX3) (N := 17) hx hb hts in3 hown hG.1 hP 0 rfl rfl 1 (by decide) (hts (.fieldLink RX3 15 "ChairCane$Room" "strands" "I") (by decide +kernel)) (fun _ h9 => h9) rfl dX3_hasStrand_6 ?_
    refine lv_icmp_ge (tgt := 16) hx hb dX3_hasStrand_9 (by decide) (fun c2 => ?_) (fun c2 => ?_)
    · have fc2 := cx_ge_t (a := x1.toInt) (b := r_strands.toInt) rfl rfl c2
      refine lv_iconst (v := 0) hx hb dX3_hasStrand_16 (by decide) ?_
      exact hc_endZ hx hb hr hlocks rfl () ⟨iv_lit (by decide) (by decide), (by have q9 : (0 : Int32).toInt = 0 := (by decide); omega)⟩ hP hD hS dX3_hasStrand_17
    · have fc2 := cx_ge_f (a := x1.toInt) (b := r_strands.toInt) rfl rfl c2
      refine lv_iconst (v := 1) hx hb dX3_hasStrand_12 (by decide) ?_
      refine lv_goto (tgt := 17) hx hb dX3_hasStrand_13 (by decide) ?_
      exact hc_endZ hx hb hr hlocks rfl () ⟨iv_lit (by decide) (by decide), (by have q9 : (1 : Int32).toInt = 1 := (by decide); omega)⟩ hP hD hS dX3_hasStrand_17
set_option maxHeartbeats 4000000 in
set_option maxRecDepth 100000 in
theorem i_X3_hasChair (l : Launch) (D : va_G) (k : Nat → ClassId) (sz : Nat) (x1 : Int32) (r : Nat) (r_told : Int32) (r_strands : Int32) (r_chairs : Int32) (r_sitters : Int32) (r_atoldCane : Nat) (r_aheight : Nat) (r_astrandOf : Nat) (r_achairOf : Nat) (r_aweight : Nat) (r_acane : Nat) (r_sits : Int32) (r_dropped : Int32) (r_minute : Int32) (r_aload : Nat) (r_aheads : Nat) (r_held : Int32) (r_heldDown : Int32) (h_r_told : iv (0) (1) r_told) (h_r_strands : iv (0) (4) r_strands) (h_r_chairs : iv (0) (8) r_chairs) (h_r_sitters : iv (0) (8) r_sitters) : CtI l yX3_hasChair wsX3_hasChair (rmK 1 0 0) [.ref r, .int x1] D k sz ([(r, .inr (2, [.int r_told, .int r_strands, .int r_chairs, .int r_sitters, .ref r_atoldCane, .ref r_aheight, .ref r_astrandOf, .ref r_achairOf, .ref r_aweight, .ref r_acane, .int r_sits, .int r_dropped, .int r_minute, .ref r_aload, .ref r_aheads, .int r_held, .int r_heldDown]))]) (fun (r : Int32) (u : Unit) => iv (0) (1) r ∧ (r.toInt = 0 ∨ 0 ≤ x1.toInt ∧ x1.toInt < r_chairs.toInt)) (fun u : Unit => [(r, .inr (2, [.int r_told, .int r_strands, .int r_chairs, .int r_sitters, .ref r_atoldCane, .ref r_aheight, .ref r_astrandOf, .ref r_achairOf, .ref r_aweight, .ref r_acane, .int r_sits, .int r_dropped, .int r_minute, .ref r_aload, .ref r_aheads, .int r_held, .int r_heldDown]))]) 0 0 := by
  have h_r_told_l := h_r_told.1
  have h_r_told_u := h_r_told.2
  have h_r_strands_l := h_r_strands.1
  have h_r_strands_u := h_r_strands.2
  have h_r_chairs_l := h_r_chairs.1
  have h_r_chairs_u := h_r_chairs.2
  have h_r_sitters_l := h_r_sitters.1
  have h_r_sitters_u := h_r_sitters.2
  refine CtI.mk (cc := cX3_hasChair) (maxL := 2) (ret := (some .boolean)) (by decide) rfl (Nat.le_of_ble_eq_true rfl) ?_
  intro p e s m below meth c A ls E hP hD hS hl
  obtain ⟨hx, hb, hr, hml, hown, hts, hlocks, hin, hG, hA⟩ := E
  have hown : s.vm.findClass RX3 = some m.cls := hown
  have in3 : ∀ w ∈ u_ws RX3 TX3 17, w ∈ wsX3_hasChair := fun _ h => List.mem_cons_of_mem _ (List.mem_append_right _ h)
  have hl : lv_has ls 2 [(0, .ref r), (1, .int x1)] := hl
  refine lv_iload_n hx hb dX3_hasChair_0 rfl (lv_at hl 1 rfl) ?_
  refine lv_if_lt (tgt := 16) hx hb dX3_hasChair_1 (by decide) (fun c1 => ?_) (fun c1 => ?_)
  · have fc1 := cx_lt_t (a := x1.toInt) (b := 0) rfl (by decide) c1
    refine lv_iconst (v := 0) hx hb dX3_hasChair_16 (by decide) ?_
    exact hc_endZ hx hb hr hlocks rfl () ⟨iv_lit (by decide) (by decide), (by have q9 : (0 : Int32).toInt = 0 := (by decide); omega)⟩ hP hD hS dX3_hasChair_17
  · have fc1 := cx_lt_f (a := x1.toInt) (b := 0) rfl (by decide) c1
    refine lv_iload_n hx hb dX3_hasChair_4 rfl (lv_at hl 1 rfl) ?_
    refine lv_aload_n hx hb dX3_hasChair_5 rfl (lv_at hl 0 rfl) ?_
    refine va_get (D := D) (ci := 2) (v := .int r_chairs) (C := RX3) (T := TX3) (N := 17) hx hb hts in3 hown hG.1 hP 0 rfl rfl 2 (by decide) (hts (.fieldLink RX3 19 "ChairCane$Room" "chairs" "I") (by decide +kernel)) (fun _ h9 => h9) rfl dX3_hasChair_6 ?_
    refine lv_icmp_ge (tgt := 16) hx hb dX3_hasChair_9 (by decide) (fun c2 => ?_) (fun c2 => ?_)
    · have fc2 := cx_ge_t (a := x1.toInt) (b := r_chairs.toInt) rfl rfl c2
      refine lv_iconst (v := 0) hx hb dX3_hasChair_16 (by decide) ?_
      exact hc_endZ hx hb hr hlocks rfl () ⟨iv_lit (by decide) (by decide), (by have q9 : (0 : Int32).toInt = 0 := (by decide); omega)⟩ hP hD hS dX3_hasChair_17
    · have fc2 := cx_ge_f (a := x1.toInt) (b := r_chairs.toInt) rfl rfl c2
      refine lv_iconst (v := 1) hx hb dX3_hasChair_12 (by decide) ?_
      refine lv_goto (tgt := 17) hx hb dX3_hasChair_13 (by decide) ?_
      exact hc_endZ hx hb hr hlocks rfl () ⟨iv_lit (by decide) (by decide), (by have q9 : (1 : Int32).toInt = 1 := (by decide); omega)⟩ hP hD hS dX3_hasChair_17
set_option maxHeartbeats 4000000 in
set_option maxRecDepth 100000 in
theorem i_X3_hasSitter (l : Launch) (D : va_G) (k : Nat → ClassId) (sz : Nat) (x1 : Int32) (r : Nat) (r_told : Int32) (r_strands : Int32) (r_chairs : Int32) (r_sitters : Int32) (r_atoldCane : Nat) (r_aheight : Nat) (r_astrandOf : Nat) (r_achairOf : Nat) (r_aweight : Nat) (r_acane : Nat) (r_sits : Int32) (r_dropped : Int32) (r_minute : Int32) (r_aload : Nat) (r_aheads : Nat) (r_held : Int32) (r_heldDown : Int32) (h_r_told : iv (0) (1) r_told) (h_r_strands : iv (0) (4) r_strands) (h_r_chairs : iv (0) (8) r_chairs) (h_r_sitters : iv (0) (8) r_sitters) : CtI l yX3_hasSitter wsX3_hasSitter (rmK 1 0 0) [.ref r, .int x1] D k sz ([(r, .inr (2, [.int r_told, .int r_strands, .int r_chairs, .int r_sitters, .ref r_atoldCane, .ref r_aheight, .ref r_astrandOf, .ref r_achairOf, .ref r_aweight, .ref r_acane, .int r_sits, .int r_dropped, .int r_minute, .ref r_aload, .ref r_aheads, .int r_held, .int r_heldDown]))]) (fun (r : Int32) (u : Unit) => iv (0) (1) r ∧ (r.toInt = 0 ∨ 0 ≤ x1.toInt ∧ x1.toInt < r_sitters.toInt)) (fun u : Unit => [(r, .inr (2, [.int r_told, .int r_strands, .int r_chairs, .int r_sitters, .ref r_atoldCane, .ref r_aheight, .ref r_astrandOf, .ref r_achairOf, .ref r_aweight, .ref r_acane, .int r_sits, .int r_dropped, .int r_minute, .ref r_aload, .ref r_aheads, .int r_held, .int r_heldDown]))]) 0 0 := by
  have h_r_told_l := h_r_told.1
  have h_r_told_u := h_r_told.2
  have h_r_strands_l := h_r_strands.1
  have h_r_strands_u := h_r_strands.2
  have h_r_chairs_l := h_r_chairs.1
  have h_r_chairs_u := h_r_chairs.2
  have h_r_sitters_l := h_r_sitters.1
  have h_r_sitters_u := h_r_sitters.2
  refine CtI.mk (cc := cX3_hasSitter) (maxL := 2) (ret := (some .boolean)) (by decide) rfl (Nat.le_of_ble_eq_true rfl) ?_
  intro p e s m below meth c A ls E hP hD hS hl
  obtain ⟨hx, hb, hr, hml, hown, hts, hlocks, hin, hG, hA⟩ := E
  have hown : s.vm.findClass RX3 = some m.cls := hown
  have in3 : ∀ w ∈ u_ws RX3 TX3 17, w ∈ wsX3_hasSitter := fun _ h => List.mem_cons_of_mem _ (List.mem_append_right _ h)
  have hl : lv_has ls 2 [(0, .ref r), (1, .int x1)] := hl
  refine lv_iload_n hx hb dX3_hasSitter_0 rfl (lv_at hl 1 rfl) ?_
  refine lv_if_lt (tgt := 16) hx hb dX3_hasSitter_1 (by decide) (fun c1 => ?_) (fun c1 => ?_)
  · have fc1 := cx_lt_t (a := x1.toInt) (b := 0) rfl (by decide) c1
    refine lv_iconst (v := 0) hx hb dX3_hasSitter_16 (by decide) ?_
    exact hc_endZ hx hb hr hlocks rfl () ⟨iv_lit (by decide) (by decide), (by have q9 : (0 : Int32).toInt = 0 := (by decide); omega)⟩ hP hD hS dX3_hasSitter_17
  · have fc1 := cx_lt_f (a := x1.toInt) (b := 0) rfl (by decide) c1
    refine lv_iload_n hx hb dX3_hasSitter_4 rfl (lv_at hl 1 rfl) ?_
    refine lv_aload_n hx hb dX3_hasSitter_5 rfl (lv_at hl 0 rfl) ?_
    refine va_get (D := D) (ci := 2) (v := .int r_sitters) (C := RX3) (T := TX3) (N := 17) hx hb hts in3 hown hG.1 hP 0 rfl rfl 3 (by decide) (hts (.fieldLink RX3 22 "ChairCane$Room" "sitters" "I") (by decide +kernel)) (fun _ h9 => h9) rfl dX3_hasSitter_6 ?_
    refine lv_icmp_ge (tgt := 16) hx hb dX3_hasSitter_9 (by decide) (fun c2 => ?_) (fun c2 => ?_)
    · have fc2 := cx_ge_t (a := x1.toInt) (b := r_sitters.toInt) rfl rfl c2
      refine lv_iconst (v := 0) hx hb dX3_hasSitter_16 (by decide) ?_
      exact hc_endZ hx hb hr hlocks rfl () ⟨iv_lit (by decide) (by decide), (by have q9 : (0 : Int32).toInt = 0 := (by decide); omega)⟩ hP hD hS dX3_hasSitter_17
    · have fc2 := cx_ge_f (a := x1.toInt) (b := r_sitters.toInt) rfl rfl c2
      refine lv_iconst (v := 1) hx hb dX3_hasSitter_12 (by decide) ?_
      refine lv_goto (tgt := 17) hx hb dX3_hasSitter_13 (by decide) ?_
      exact hc_endZ hx hb hr hlocks rfl () ⟨iv_lit (by decide) (by decide), (by have q9 : (1 : Int32).toInt = 1 := (by decide); omega)⟩ hP hD hS dX3_hasSitter_17
set_option maxHeartbeats 4000000 in
set_option maxRecDepth 100000 in
theorem i_X3_isUp (l : Launch) (D : va_G) (k : Nat → ClassId) (sz : Nat) (x1 : Int32) (r : Nat) (r_told : Int32) (r_strands : Int32) (r_chairs : Int32) (r_sitters : Int32) (r_atoldCane : Nat) (r_aheight : Nat) (r_astrandOf : Nat) (r_achairOf : Nat) (r_aweight : Nat) (r_acane : Nat) (r_sits : Int32) (r_dropped : Int32) (r_minute : Int32) (r_aload : Nat) (r_aheads : Nat) (r_held : Int32) (r_heldDown : Int32) (h_r_told : iv (0) (1) r_told) (h_r_strands : iv (0) (4) r_strands) (h_r_chairs : iv (0) (8) r_chairs) (h_r_sitters : iv (0) (8) r_sitters) : CtI l yX3_isUp wsX3_isUp (rmK 1 0 0) [.ref r, .int x1] D k sz ([(r, .inr (2, [.int r_told, .int r_strands, .int r_chairs, .int r_sitters, .ref r_atoldCane, .ref r_aheight, .ref r_astrandOf, .ref r_achairOf, .ref r_aweight, .ref r_acane, .int r_sits, .int r_dropped, .int r_minute, .ref r_aload, .ref r_aheads, .int r_held, .int r_heldDown]))]) (fun (r : Int32) (u : Unit) => iv (0) (1) r ∧ (r.toInt = 0 ∨ 0 ≤ x1.toInt ∧ x1.toInt < r_sitters.toInt)) (fun u : Unit => [(r, .inr (2, [.int r_told, .int r_strands, .int r_chairs, .int r_sitters, .ref r_atoldCane, .ref r_aheight, .ref r_astrandOf, .ref r_achairOf, .ref r_aweight, .ref r_acane, .int r_sits, .int r_dropped, .int r_minute, .ref r_aload, .ref r_aheads, .int r_held, .int r_heldDown]))]) 0 0 := by
  have h_r_told_l := h_r_told.1
  have h_r_told_u := h_r_told.2
  have h_r_strands_l := h_r_strands.1
  have h_r_strands_u := h_r_strands.2
  have h_r_chairs_l := h_r_chairs.1
  have h_r_chairs_u := h_r_chairs.2
  have h_r_sitters_l := h_r_sitters.1
  have h_r_sitters_u := h_r_sitters.2
  refine CtI.mk (cc := cX3_isUp) (maxL := 2) (ret := (some .boolean)) (by decide) rfl (Nat.le_of_ble_eq_true rfl) ?_
  intro p e s m below meth c A ls E hP hD hS hl
  obtain ⟨hx, hb, hr, hml, hown, hts, hlocks, hin, hG, hA⟩ := E
  have hown : s.vm.findClass RX3 = some m.cls := hown
  have in3 : ∀ w ∈ u_ws RX3 TX3 17, w ∈ wsX3_isUp := fun _ h => List.mem_cons_of_mem _ (List.mem_append_right _ h)
  have hl : lv_has ls 2 [(0, .ref r), (1, .int x1)] := hl
  refine lv_iload_n hx hb dX3_isUp_0 rfl (lv_at hl 1 rfl) ?_
  refine lv_if_lt (tgt := 27) hx hb dX3_isUp_1 (by decide) (fun c1 => ?_) (fun c1 => ?_)
  · have fc1 := cx_lt_t (a := x1.toInt) (b := 0) rfl (by decide) c1
    refine lv_iconst (v := 0) hx hb dX3_isUp_27 (by decide) ?_
    exact hc_endZ hx hb hr hlocks rfl () ⟨iv_lit (by decide) (by decide), (by have q9 : (0 : Int32).toInt = 0 := (by decide); omega)⟩ hP hD hS dX3_isUp_28
  · have fc1 := cx_lt_f (a := x1.toInt) (b := 0) rfl (by decide) c1
    refine lv_iload_n hx hb dX3_isUp_4 rfl (lv_at hl 1 rfl) ?_
    refine lv_aload_n hx hb dX3_isUp_5 rfl (lv_at hl 0 rfl) ?_
    refine va_get (D := D) (ci := 2) (v := .int r_sitters) (C := RX3) (T := TX3) (N := 17) hx hb hts in3 hown hG.1 hP 0 rfl rfl 3 (by decide) (hts (.fieldLink RX3 22 "ChairCane$Room" "sitters" "I") (by decide +kernel)) (fun _ h9 => h9) rfl dX3_isUp_6 ?_
    refine lv_icmp_ge (tgt := 27) hx hb dX3_isUp_9 (by decide) (fun c2 => ?_) (fun c2 => ?_)
    · have fc2 := cx_ge_t (a := x1.toInt) (b := r_sitters.toInt) rfl rfl c2
      refine lv_iconst (v := 0) hx hb dX3_isUp_27 (by decide) ?_
      exact hc_endZ hx hb hr hlocks rfl () ⟨iv_lit (by decide) (by decide), (by have q9 : (0 : Int32).toInt = 0 := (by decide); omega)⟩ hP hD hS dX3_isUp_28
    · have fc2 := cx_ge_f (a := x1.toInt) (b := r_sitters.toInt) rfl rfl c2
      refine lv_aload_n hx hb dX3_isUp_12 rfl (lv_at hl 0 rfl) ?_
      refine va_get (D := D) (ci := 2) (v := .int r_dropped) (C := RX3) (T := TX3) (N := 17) hx hb hts in3 hown hG.1 hP 0 rfl rfl 11 (by decide) (hts (.fieldLink RX3 47 "ChairCane$Room" "dropped" "I") (by decide +kernel)) (fun _ h9 => h9) rfl dX3_isUp_13 ?_
      refine lv_iload_n hx hb dX3_isUp_16 rfl (lv_at hl 1 rfl) ?_
      refine lv_ishr hx hb dX3_isUp_17 ?_
      refine lv_topi (fun z3 ez3 => ?_)
      refine lv_iconst (v := 1) hx hb dX3_isUp_18 (by decide) ?_
      refine lv_iand hx hb dX3_isUp_19 ?_
      refine lv_topi (fun z4 ez4 => ?_)
      have bz4 : iv (0) (1) z4 := ai_mask 1 (by decide) (by decide) ez4
      have bz4_l := bz4.1
      have bz4_u := bz4.2
      refine lv_if_ne (tgt := 27) hx hb dX3_isUp_20 (by decide) (fun c5 => ?_) (fun c5 => ?_)
      · have fc5 := cx_ne_t (a := z4.toInt) (b := 0) rfl (by decide) c5
        refine lv_iconst (v := 0) hx hb dX3_isUp_27 (by decide) ?_
        exact hc_endZ hx hb hr hlocks rfl () ⟨iv_lit (by decide) (by decide), (by have q9 : (0 : Int32).toInt = 0 := (by decide); omega)⟩ hP hD hS dX3_isUp_28
      · have fc5 := cx_ne_f (a := z4.toInt) (b := 0) rfl (by decide) c5
        refine lv_iconst (v := 1) hx hb dX3_isUp_23 (by decide) ?_
        refine lv_goto (tgt := 28) hx hb dX3_isUp_24 (by decide) ?_
        exact hc_endZ hx hb hr hlocks rfl () ⟨iv_lit (by decide) (by decide), (by have q9 : (1 : Int32).toInt = 1 := (by decide); omega)⟩ hP hD hS dX3_isUp_28
set_option maxHeartbeats 4000000 in
set_option maxRecDepth 100000 in
theorem i_X3_isDown (l : Launch) (D : va_G) (k : Nat → ClassId) (sz : Nat) (x1 : Int32) (r : Nat) (r_told : Int32) (r_strands : Int32) (r_chairs : Int32) (r_sitters : Int32) (r_atoldCane : Nat) (r_aheight : Nat) (r_astrandOf : Nat) (r_achairOf : Nat) (r_aweight : Nat) (r_acane : Nat) (r_sits : Int32) (r_dropped : Int32) (r_minute : Int32) (r_aload : Nat) (r_aheads : Nat) (r_held : Int32) (r_heldDown : Int32) (h_r_told : iv (0) (1) r_told) (h_r_strands : iv (0) (4) r_strands) (h_r_chairs : iv (0) (8) r_chairs) (h_r_sitters : iv (0) (8) r_sitters) : CtI l yX3_isDown wsX3_isDown (rmK 1 0 0) [.ref r, .int x1] D k sz ([(r, .inr (2, [.int r_told, .int r_strands, .int r_chairs, .int r_sitters, .ref r_atoldCane, .ref r_aheight, .ref r_astrandOf, .ref r_achairOf, .ref r_aweight, .ref r_acane, .int r_sits, .int r_dropped, .int r_minute, .ref r_aload, .ref r_aheads, .int r_held, .int r_heldDown]))]) (fun (r : Int32) (u : Unit) => iv (0) (1) r ∧ (r.toInt = 0 ∨ 0 ≤ x1.toInt ∧ x1.toInt < r_sitters.toInt)) (fun u : Unit => [(r, .inr (2, [.int r_told, .int r_strands, .int r_chairs, .int r_sitters, .ref r_atoldCane, .ref r_aheight, .ref r_astrandOf, .ref r_achairOf, .ref r_aweight, .ref r_acane, .int r_sits, .int r_dropped, .int r_minute, .ref r_aload, .ref r_aheads, .int r_held, .int r_heldDown]))]) 0 0 := by
  have h_r_told_l := h_r_told.1
  have h_r_told_u := h_r_told.2
  have h_r_strands_l := h_r_strands.1
  have h_r_strands_u := h_r_strands.2
  have h_r_chairs_l := h_r_chairs.1
  have h_r_chairs_u := h_r_chairs.2
  have h_r_sitters_l := h_r_sitters.1
  have h_r_sitters_u := h_r_sitters.2
  refine CtI.mk (cc := cX3_isDown) (maxL := 2) (ret := (some .boolean)) (by decide) rfl (Nat.le_of_ble_eq_true rfl) ?_
  intro p e s m below meth c A ls E hP hD hS hl
  obtain ⟨hx, hb, hr, hml, hown, hts, hlocks, hin, hG, hA⟩ := E
  have hown : s.vm.findClass RX3 = some m.cls := hown
  have in3 : ∀ w ∈ u_ws RX3 TX3 17, w ∈ wsX3_isDown := fun _ h => List.mem_cons_of_mem _ (List.mem_append_right _ h)
  have hl : lv_has ls 2 [(0, .ref r), (1, .int x1)] := hl
  refine lv_iload_n hx hb dX3_isDown_0 rfl (lv_at hl 1 rfl) ?_
  refine lv_if_lt (tgt := 27) hx hb dX3_isDown_1 (by decide) (fun c1 => ?_) (fun c1 => ?_)
  · have fc1 := cx_lt_t (a := x1.toInt) (b := 0) rfl (by decide) c1
    refine lv_iconst (v := 0) hx hb dX3_isDown_27 (by decide) ?_
    exact hc_endZ hx hb hr hlocks rfl () ⟨iv_lit (by decide) (by decide), (by have q9 : (0 : Int32).toInt = 0 := (by decide); omega)⟩ hP hD hS dX3_isDown_28
  · have fc1 := cx_lt_f (a := x1.toInt) (b := 0) rfl (by decide) c1
    refine lv_iload_n hx hb dX3_isDown_4 rfl (lv_at hl 1 rfl) ?_
    refine lv_aload_n hx hb dX3_isDown_5 rfl (lv_at hl 0 rfl) ?_
    refine va_get (D := D) (ci := 2) (v := .int r_sitters) (C := RX3) (T := TX3) (N := 17) hx hb hts in3 hown hG.1 hP 0 rfl rfl 3 (by decide) (hts (.fieldLink RX3 22 "ChairCane$Room" "sitters" "I") (by decide +kernel)) (fun _ h9 => h9) rfl dX3_isDown_6 ?_
    refine lv_icmp_ge (tgt := 27) hx hb dX3_isDown_9 (by decide) (fun c2 => ?_) (fun c2 => ?_)
    · have fc2 := cx_ge_t (a := x1.toInt) (b := r_sitters.toInt) rfl rfl c2
      refine lv_iconst (v := 0) hx hb dX3_isDown_27 (by decide) ?_
      exact hc_endZ hx hb hr hlocks rfl () ⟨iv_lit (by decide) (by decide), (by have q9 : (0 : Int32).toInt = 0 := (by decide); omega)⟩ hP hD hS dX3_isDown_28
    · have fc2 := cx_ge_f (a := x1.toInt) (b := r_sitters.toInt) rfl rfl c2
      refine lv_aload_n hx hb dX3_isDown_12 rfl (lv_at hl 0 rfl) ?_
      refine va_get (D := D) (ci := 2) (v := .int r_sits) (C := RX3) (T := TX3) (N := 17) hx hb hts in3 hown hG.1 hP 0 rfl rfl 10 (by decide) (hts (.fieldLink RX3 44 "ChairCane$Room" "sits" "I") (by decide +kernel)) (fun _ h9 => h9) rfl dX3_isDown_13 ?_
      refine lv_iload_n hx hb dX3_isDown_16 rfl (lv_at hl 1 rfl) ?_
      refine lv_ishr hx hb dX3_isDown_17 ?_
      refine lv_topi (fun z3 ez3 => ?_)
      refine lv_iconst (v := 1) hx hb dX3_isDown_18 (by decide) ?_
      refine lv_iand hx hb dX3_isDown_19 ?_
      refine lv_topi (fun z4 ez4 => ?_)
      have bz4 : iv (0) (1) z4 := ai_mask 1 (by decide) (by decide) ez4
      have bz4_l := bz4.1
      have bz4_u := bz4.2
      refine lv_if_eq (tgt := 27) hx hb dX3_isDown_20 (by decide) (fun c5 => ?_) (fun c5 => ?_)
      · have fc5 := cx_eq_t (a := z4.toInt) (b := 0) rfl (by decide) c5
        refine lv_iconst (v := 0) hx hb dX3_isDown_27 (by decide) ?_
        exact hc_endZ hx hb hr hlocks rfl () ⟨iv_lit (by decide) (by decide), (by have q9 : (0 : Int32).toInt = 0 := (by decide); omega)⟩ hP hD hS dX3_isDown_28
      · have fc5 := cx_eq_f (a := z4.toInt) (b := 0) rfl (by decide) c5
        refine lv_iconst (v := 1) hx hb dX3_isDown_23 (by decide) ?_
        refine lv_goto (tgt := 28) hx hb dX3_isDown_24 (by decide) ?_
        exact hc_endZ hx hb hr hlocks rfl () ⟨iv_lit (by decide) (by decide), (by have q9 : (1 : Int32).toInt = 1 := (by decide); omega)⟩ hP hD hS dX3_isDown_28
set_option maxHeartbeats 4000000 in
set_option maxRecDepth 100000 in
theorem i_X3_stateOf (l : Launch) (D : va_G) (k : Nat → ClassId) (sz : Nat) (x1 : Int32) (r : Nat) (r_told : Int32) (r_strands : Int32) (r_chairs : Int32) (r_sitters : Int32) (r_atoldCane : Nat) (r_aheight : Nat) (r_astrandOf : Nat) (r_achairOf : Nat) (r_aweight : Nat) (r_acane : Nat) (r_sits : Int32) (r_dropped : Int32) (r_minute : Int32) (r_aload : Nat) (r_aheads : Nat) (r_held : Int32) (r_heldDown : Int32) (h_r_told : iv (0) (1) r_told) (h_r_strands : iv (0) (4) r_strands) (h_r_chairs : iv (0) (8) r_chairs) (h_r_sitters : iv (0) (8) r_sitters) : CtI l yX3_stateOf wsX3_stateOf (rmK 2 0 0) [.ref r, .int x1] D k sz ([(r, .inr (2, [.int r_told, .int r_strands, .int r_chairs, .int r_sitters, .ref r_atoldCane, .ref r_aheight, .ref r_astrandOf, .ref r_achairOf, .ref r_aweight, .ref r_acane, .int r_sits, .int r_dropped, .int r_minute, .ref r_aload, .ref r_aheads, .int r_held, .int r_heldDown]))]) (fun (r : Int32) (u : Unit) => iv (-1) (2) r) (fun u : Unit => [(r, .inr (2, [.int r_told, .int r_strands, .int r_chairs, .int r_sitters, .ref r_atoldCane, .ref r_aheight, .ref r_astrandOf, .ref r_achairOf, .ref r_aweight, .ref r_acane, .int r_sits, .int r_dropped, .int r_minute, .ref r_aload, .ref r_aheads, .int r_held, .int r_heldDown]))]) 0 0 := by
  have h_r_told_l := h_r_told.1
  have h_r_told_u := h_r_told.2
  have h_r_strands_l := h_r_strands.1
  have h_r_strands_u := h_r_strands.2
  have h_r_chairs_l := h_r_chairs.1
  have h_r_chairs_u := h_r_chairs.2
  have h_r_sitters_l := h_r_sitters.1
  have h_r_sitters_u := h_r_sitters.2
  refine CtI.mk (cc := cX3_stateOf) (maxL := 2) (ret := (some .int)) (by decide) rfl (Nat.le_of_ble_eq_true rfl) ?_
  intro p e s m below meth c A ls E hP hD hS hl
  obtain ⟨hx, hb, hr, hml, hown, hts, hlocks, hin, hG, hA⟩ := E
  have hown : s.vm.findClass RX3 = some m.cls := hown
  have in3 : ∀ w ∈ u_ws RX3 TX3 17, w ∈ wsX3_stateOf := fun _ h => List.mem_cons_of_mem _ (List.mem_append_right _ h)
  have hl : lv_has ls 2 [(0, .ref r), (1, .int x1)] := hl
  refine lv_aload_n hx hb dX3_stateOf_0 rfl (lv_at hl 0 rfl) ?_
  refine lv_iload_n hx hb dX3_stateOf_1 rfl (lv_at hl 1 rfl) ?_
  refine hc_Vi (As := [.int x1]) (rest := []) (n := 1) (wr := []) hx hb hml hown hts hG hA hP hD hS hl.1 [0] [] (i_X3_hasSitter l D k _ x1 r r_told r_strands r_chairs r_sitters r_atoldCane r_aheight r_astrandOf r_achairOf r_aweight r_acane r_sits r_dropped r_minute r_aload r_aheads r_held r_heldDown ⟨by omega, by omega⟩ ⟨by omega, by omega⟩ ⟨by omega, by omega⟩ ⟨by omega, by omega⟩) (ci := 2) (q0 := 0) rfl rfl gX3_stateOf_X3_hasSitter rfl ⟨rfl, rfl, Nat.le_of_ble_eq_true rfl, Nat.le_of_ble_eq_true rfl⟩ (by decide +kernel) rfl rfl ⟨by decide, by decide, by decide⟩ ⟨rfl, rfl, Nat.le_of_ble_eq_true rfl, Nat.le_of_ble_eq_true rfl, Nat.le_of_ble_eq_true rfl⟩ dX3_stateOf_2 (fun r2 u1 H locs hw hP hD hS => ?_)
  have hP : va_P D vwCl ([(r, .inr (2, [.int r_told, .int r_strands, .int r_chairs, .int r_sitters, .ref r_atoldCane, .ref r_aheight, .ref r_astrandOf, .ref r_achairOf, .ref r_aweight, .ref r_acane, .int r_sits, .int r_dropped, .int r_minute, .ref r_aload, .ref r_aheads, .int r_held, .int r_heldDown]))]) H := hP
  have hD : va_D A ([(r, .inr (2, [.int r_told, .int r_strands, .int r_chairs, .int r_sitters, .ref r_atoldCane, .ref r_aheight, .ref r_astrandOf, .ref r_achairOf, .ref r_aweight, .ref r_acane, .int r_sits, .int r_dropped, .int r_minute, .ref r_aload, .ref r_aheads, .int r_held, .int r_heldDown]))]) := hD
  obtain ⟨br2, rel3⟩ := hw
  have br2 : iv (0) (1) r2 := br2
  have br2_l := br2.1
  have br2_u := br2.2
  refine lv_if_ne (tgt := 10) hx hb dX3_stateOf_5 (by decide) (fun c4 => ?_) (fun c4 => ?_)
  · have fc4 := cx_ne_t (a := r2.toInt) (b := 0) rfl (by decide) c4
    refine lv_aload_n hx hb dX3_stateOf_10 rfl (lv_at hl 0 rfl) ?_
    refine va_get (D := D) (ci := 2) (v := .int r_dropped) (C := RX3) (T := TX3) (N := 17) hx hb hts in3 hown hG.1 hP 0 rfl rfl 11 (by decide) (hts (.fieldLink RX3 47 "ChairCane$Room" "dropped" "I") (by decide +kernel)) (fun _ h9 => h9) rfl dX3_stateOf_11 ?_
    refine lv_iload_n hx hb dX3_stateOf_14 rfl (lv_at hl 1 rfl) ?_
    refine lv_ishr hx hb dX3_stateOf_15 ?_
    refine lv_topi (fun z5 ez5 => ?_)
    refine lv_iconst (v := 1) hx hb dX3_stateOf_16 (by decide) ?_
    refine lv_iand hx hb dX3_stateOf_17 ?_
    refine lv_topi (fun z6 ez6 => ?_)
    have bz6 : iv (0) (1) z6 := ai_mask 1 (by decide) (by decide) ez6
    have bz6_l := bz6.1
    have bz6_u := bz6.2
    refine lv_if_eq (tgt := 23) hx hb dX3_stateOf_18 (by decide) (fun c7 => ?_) (fun c7 => ?_)
    · have fc7 := cx_eq_t (a := z6.toInt) (b := 0) rfl (by decide) c7
      refine lv_aload_n hx hb dX3_stateOf_23 rfl (lv_at hl 0 rfl) ?_
      refine va_get (D := D) (ci := 2) (v := .int r_sits) (C := RX3) (T := TX3) (N := 17) hx hb hts in3 hown hG.1 hP 0 rfl rfl 10 (by decide) (hts (.fieldLink RX3 44 "ChairCane$Room" "sits" "I") (by decide +kernel)) (fun _ h9 => h9) rfl dX3_stateOf_24 ?_
      refine lv_iload_n hx hb dX3_stateOf_27 rfl (lv_at hl 1 rfl) ?_
      refine lv_ishr hx hb dX3_stateOf_28 ?_
      refine lv_topi (fun z8 ez8 => ?_)
      refine lv_iconst (v := 1) hx hb dX3_stateOf_29 (by decide) ?_
      refine lv_iand hx hb dX3_stateOf_30 ?_
      refine lv_topi (fun z9 ez9 => ?_)
      have bz9 : iv (0) (1) z9 := ai_mask 1 (by decide) (by decide) ez9
      have bz9_l := bz9.1
      have bz9_u := bz9.2
      refine lv_if_eq (tgt := 38) hx hb dX3_stateOf_31 (by decide) (fun c10 => ?_) (fun c10 => ?_)
      · have fc10 := cx_eq_t (a := z9.toInt) (b := 0) rfl (by decide) c10
        refine lv_iconst (v := 0) hx hb dX3_stateOf_38 (by decide) ?_
        exact hc_end hx hb hr hlocks () (iv_lit (by decide) (by decide)) hP hD hS dX3_stateOf_39
      · have fc10 := cx_eq_f (a := z9.toInt) (b := 0) rfl (by decide) c10
        refine lv_iconst (v := 1) hx hb dX3_stateOf_34 (by decide) ?_
        refine lv_goto (tgt := 39) hx hb dX3_stateOf_35 (by decide) ?_
        exact hc_end hx hb hr hlocks () (iv_lit (by decide) (by decide)) hP hD hS dX3_stateOf_39
    · have fc7 := cx_eq_f (a := z6.toInt) (b := 0) rfl (by decide) c7
      refine lv_iconst (v := 2) hx hb dX3_stateOf_21 (by decide) ?_
      exact hc_end hx hb hr hlocks () (iv_lit (by decide) (by decide)) hP hD hS dX3_stateOf_22
  · have fc4 := cx_ne_f (a := r2.toInt) (b := 0) rfl (by decide) c4
    refine lv_iconst (v := (-1)) hx hb dX3_stateOf_8 (by decide) ?_
    exact hc_end hx hb hr hlocks () (iv_lit (by decide) (by decide)) hP hD hS dX3_stateOf_9
set_option maxHeartbeats 4000000 in
set_option maxRecDepth 100000 in
theorem i_X3_clear (l : Launch) (D : va_G) (k : Nat → ClassId) (sz : Nat) (r : Nat) (r_told : Int32) (r_strands : Int32) (r_chairs : Int32) (r_sitters : Int32) (r_atoldCane : Nat) (r_aheight : Nat) (r_astrandOf : Nat) (r_achairOf : Nat) (r_aweight : Nat) (r_acane : Nat) (r_sits : Int32) (r_dropped : Int32) (r_minute : Int32) (r_aload : Nat) (r_aheads : Nat) (r_held : Int32) (r_heldDown : Int32) (h_r_told : iv (0) (1) r_told) (h_r_strands : iv (0) (4) r_strands) (h_r_chairs : iv (0) (8) r_chairs) (h_r_sitters : iv (0) (8) r_sitters) : CtV l yX3_clear wsX3_clear (rmK 1 0 0) [.ref r] D k sz ([(r, .inr (2, [.int r_told, .int r_strands, .int r_chairs, .int r_sitters, .ref r_atoldCane, .ref r_aheight, .ref r_astrandOf, .ref r_achairOf, .ref r_aweight, .ref r_acane, .int r_sits, .int r_dropped, .int r_minute, .ref r_aload, .ref r_aheads, .int r_held, .int r_heldDown]))]) (fun u : (Int32) × (Int32) × (Int32) × (Int32) => iv (0) (1) (u.1) ∧ iv (0) (4) (u.2.1) ∧ iv (0) (8) (u.2.2.1) ∧ iv (0) (8) (u.2.2.2)) (fun u : (Int32) × (Int32) × (Int32) × (Int32) => [(r, .inr (2, [.int (u.1), .int (u.2.1), .int (u.2.2.1), .int (u.2.2.2), .ref r_atoldCane, .ref r_aheight, .ref r_astrandOf, .ref r_achairOf, .ref r_aweight, .ref r_acane, .int r_sits, .int r_dropped, .int r_minute, .ref r_aload, .ref r_aheads, .int r_held, .int r_heldDown]))]) 0 0 := by
  have h_r_told_l := h_r_told.1
  have h_r_told_u := h_r_told.2
  have h_r_strands_l := h_r_strands.1
  have h_r_strands_u := h_r_strands.2
  have h_r_chairs_l := h_r_chairs.1
  have h_r_chairs_u := h_r_chairs.2
  have h_r_sitters_l := h_r_sitters.1
  have h_r_sitters_u := h_r_sitters.2
  refine CtV.mk (cc := cX3_clear) (maxL := 1) (ret := none) (by decide) rfl (Nat.le_of_ble_eq_true rfl) ?_
  intro p e s m below meth c A ls E hP hD hS hl
  obtain ⟨hx, hb, hr, hml, hown, hts, hlocks, hin, hG, hA⟩ := E
  have hown : s.vm.findClass RX3 = some m.cls := hown
  have in3 : ∀ w ∈ u_ws RX3 TX3 17, w ∈ wsX3_clear := fun _ h => List.mem_cons_of_mem _ (List.mem_append_right _ h)
  have hl : lv_has ls 1 [(0, .ref r)] := hl
  refine lv_aload_n hx hb dX3_clear_0 rfl (lv_at hl 0 rfl) ?_
  refine lv_iconst (v := 0) hx hb dX3_clear_1 (by decide) ?_
  refine va_put (D := D) (ci := 2) (v := .int 0) (C := RX3) (T := TX3) (N := 17) hx hb hts in3 tyX3 tyX3_ok nmX3 hown hG.1 hP hD hS 0 rfl rfl 0 (by decide) (hts (.fieldLink RX3 9 "ChairCane$Room" "told" "Z") (by decide +kernel)) (fun _ h9 => h9) rfl (tyX3_ok 0 (by decide)) rfl rfl (Nat.le_of_ble_eq_true rfl) dX3_clear_2 (fun H locs hP hD hS => ?_)
  have hP : va_P D vwCl ([(r, .inr (2, [.int 0, .int r_strands, .int r_chairs, .int r_sitters, .ref r_atoldCane, .ref r_aheight, .ref r_astrandOf, .ref r_achairOf, .ref r_aweight, .ref r_acane, .int r_sits, .int r_dropped, .int r_minute, .ref r_aload, .ref r_aheads, .int r_held, .int r_heldDown]))]) H := hP
  have hD : va_D A ([(r, .inr (2, [.int 0, .int r_strands, .int r_chairs, .int r_sitters, .ref r_atoldCane, .ref r_aheight, .ref r_astrandOf, .ref r_achairOf, .ref r_aweight, .ref r_acane, .int r_sits, .int r_dropped, .int r_minute, .ref r_aload, .ref r_aheads, .int r_held, .int r_heldDown]))]) := hD
  refine lv_aload_n hx hb dX3_clear_5 rfl (lv_at hl 0 rfl) ?_
  refine lv_iconst (v := 0) hx hb dX3_clear_6 (by decide) ?_
  refine va_put (D := D) (ci := 2) (v := .int 0) (C := RX3) (T := TX3) (N := 17) hx hb hts in3 tyX3 tyX3_ok nmX3 hown hG.1 hP hD hS 0 rfl rfl 1 (by decide) (hts (.fieldLink RX3 15 "ChairCane$Room" "strands" "I") (by decide +kernel)) (fun _ h9 => h9) rfl (tyX3_ok 1 (by decide)) rfl rfl (Nat.le_of_ble_eq_true rfl) dX3_clear_7 (fun H locs hP hD hS => ?_)
  have hP : va_P D vwCl ([(r, .inr (2, [.int 0, .int 0, .int r_chairs, .int r_sitters, .ref r_atoldCane, .ref r_aheight, .ref r_astrandOf, .ref r_achairOf, .ref r_aweight, .ref r_acane, .int r_sits, .int r_dropped, .int r_minute, .ref r_aload, .ref r_aheads, .int r_held, .int r_heldDown]))]) H := hP
  have hD : va_D A ([(r, .inr (2, [.int 0, .int 0, .int r_chairs, .int r_sitters, .ref r_atoldCane, .ref r_aheight, .ref r_astrandOf, .ref r_achairOf, .ref r_aweight, .ref r_acane, .int r_sits, .int r_dropped, .int r_minute, .ref r_aload, .ref r_aheads, .int r_held, .int r_heldDown]))]) := hD
  refine lv_aload_n hx hb dX3_clear_10 rfl (lv_at hl 0 rfl) ?_
  refine lv_iconst (v := 0) hx hb dX3_clear_11 (by decide) ?_
  refine va_put (D := D) (ci := 2) (v := .int 0) (C := RX3) (T := TX3) (N := 17) hx hb hts in3 tyX3 tyX3_ok nmX3 hown hG.1 hP hD hS 0 rfl rfl 2 (by decide) (hts (.fieldLink RX3 19 "ChairCane$Room" "chairs" "I") (by decide +kernel)) (fun _ h9 => h9) rfl (tyX3_ok 2 (by decide)) rfl rfl (Nat.le_of_ble_eq_true rfl) dX3_clear_12 (fun H locs hP hD hS => ?_)
  have hP : va_P D vwCl ([(r, .inr (2, [.int 0, .int 0, .int 0, .int r_sitters, .ref r_atoldCane, .ref r_aheight, .ref r_astrandOf, .ref r_achairOf, .ref r_aweight, .ref r_acane, .int r_sits, .int r_dropped, .int r_minute, .ref r_aload, .ref r_aheads, .int r_held, .int r_heldDown]))]) H := hP
  have hD : va_D A ([(r, .inr (2, [.int 0, .int 0, .int 0, .int r_sitters, .ref r_atoldCane, .ref r_aheight, .ref r_astrandOf, .ref r_achairOf, .ref r_aweight, .ref r_acane, .int r_sits, .int r_dropped, .int r_minute, .ref r_aload, .ref r_aheads, .int r_held, .int r_heldDown]))]) := hD
  refine lv_aload_n hx hb dX3_clear_15 rfl (lv_at hl 0 rfl) ?_
  refine lv_iconst (v := 0) hx hb dX3_clear_16 (by decide) ?_
  refine va_put (D := D) (ci := 2) (v := .int 0) (C := RX3) (T := TX3) (N := 17) hx hb hts in3 tyX3 tyX3_ok nmX3 hown hG.1 hP hD hS 0 rfl rfl 3 (by decide) (hts (.fieldLink RX3 22 "ChairCane$Room" "sitters" "I") (by decide +kernel)) (fun _ h9 => h9) rfl (tyX3_ok 3 (by decide)) rfl rfl (Nat.le_of_ble_eq_true rfl) dX3_clear_17 (fun H locs hP hD hS => ?_)
  have hP : va_P D vwCl ([(r, .inr (2, [.int 0, .int 0, .int 0, .int 0, .ref r_atoldCane, .ref r_aheight, .ref r_astrandOf, .ref r_achairOf, .ref r_aweight, .ref r_acane, .int r_sits, .int r_dropped, .int r_minute, .ref r_aload, .ref r_aheads, .int r_held, .int r_heldDown]))]) H := hP
  have hD : va_D A ([(r, .inr (2, [.int 0, .int 0, .int 0, .int 0, .ref r_atoldCane, .ref r_aheight, .ref r_astrandOf, .ref r_achairOf, .ref r_aweight, .ref r_acane, .int r_sits, .int r_dropped, .int r_minute, .ref r_aload, .ref r_aheads, .int r_held, .int r_heldDown]))]) := hD
  exact hc_endV hx hb hr hlocks (0, 0, 0, 0) ⟨(show iv (0) (1) 0 from iv_lit (by decide) (by decide)), (show iv (0) (4) 0 from iv_lit (by decide) (by decide)), (show iv (0) (8) 0 from iv_lit (by decide) (by decide)), (show iv (0) (8) 0 from iv_lit (by decide) (by decide))⟩ hP hD hS dX3_clear_20
set_option maxHeartbeats 4000000 in
set_option maxRecDepth 100000 in
theorem i_X3_sitterOn (l : Launch) (D : va_G) (k : Nat → ClassId) (sz : Nat) (x1 : Int32) (r : Nat) (r_told : Int32) (r_strands : Int32) (r_chairs : Int32) (r_sitters : Int32) (r_atoldCane : Nat) (r_aheight : Nat) (r_astrandOf : Nat) (r_achairOf : Nat) (r_aweight : Nat) (r_acane : Nat) (r_sits : Int32) (r_dropped : Int32) (r_minute : Int32) (r_aload : Nat) (r_aheads : Nat) (r_held : Int32) (r_heldDown : Int32) (r_rchairOf : Nat → Int32) (h_r_told : iv (0) (1) r_told) (h_r_strands : iv (0) (4) r_strands) (h_r_chairs : iv (0) (8) r_chairs) (h_r_sitters : iv (0) (8) r_sitters) (h_r_rchairOf : rowIn (0) (7) r_rchairOf) : CtI l yX3_sitterOn wsX3_sitterOn (rmK 1 0 0) [.ref r, .int x1] D k sz ([(r, .inr (2, [.int r_told, .int r_strands, .int r_chairs, .int r_sitters, .ref r_atoldCane, .ref r_aheight, .ref r_astrandOf, .ref r_achairOf, .ref r_aweight, .ref r_acane, .int r_sits, .int r_dropped, .int r_minute, .ref r_aload, .ref r_aheads, .int r_held, .int r_heldDown])), (r_achairOf, hcI k 8 r_rchairOf)]) (fun (r : Int32) (u : Unit) => iv (-1) (7) r) (fun u : Unit => [(r, .inr (2, [.int r_told, .int r_strands, .int r_chairs, .int r_sitters, .ref r_atoldCane, .ref r_aheight, .ref r_astrandOf, .ref r_achairOf, .ref r_aweight, .ref r_acane, .int r_sits, .int r_dropped, .int r_minute, .ref r_aload, .ref r_aheads, .int r_held, .int r_heldDown])), (r_achairOf, hcI k 8 r_rchairOf)]) 0 0 := by
  have h_r_told_l := h_r_told.1
  have h_r_told_u := h_r_told.2
  have h_r_strands_l := h_r_strands.1
  have h_r_strands_u := h_r_strands.2
  have h_r_chairs_l := h_r_chairs.1
  have h_r_chairs_u := h_r_chairs.2
  have h_r_sitters_l := h_r_sitters.1
  have h_r_sitters_u := h_r_sitters.2
  refine CtI.mk (cc := cX3_sitterOn) (maxL := 3) (ret := (some .int)) (by decide) rfl (Nat.le_of_ble_eq_true rfl) ?_
  intro p e s m below meth c A ls E hP hD hS hl
  obtain ⟨hx, hb, hr, hml, hown, hts, hlocks, hin, hG, hA⟩ := E
  have hown : s.vm.findClass RX3 = some m.cls := hown
  have in3 : ∀ w ∈ u_ws RX3 TX3 17, w ∈ wsX3_sitterOn := fun _ h => List.mem_cons_of_mem _ (List.mem_append_right _ h)
  have hl : lv_has ls 3 [(0, .ref r), (1, .int x1)] := hl
  refine lv_iconst (v := 0) hx hb dX3_sitterOn_0 (by decide) ?_
  refine lv_istore_n (lv' := [(2, .int 0), (0, .ref r), (1, .int x1)]) hx hb dX3_sitterOn_1 rfl hl (by decide) rfl (fun ls hl => ?_)
  have loop1 : ∀ (fu : Nat) (L2_1 : Int32), iv (0) (8) L2_1 → 8 - L2_1.toInt < (fu : Int) → ∀ (H : Heap) (locs : List Loc) (ls : Array Slot), va_P D vwCl ([(r, .inr (2, [.int r_told, .int r_strands, .int r_chairs, .int r_sitters, .ref r_atoldCane, .ref r_aheight, .ref r_astrandOf, .ref r_achairOf, .ref r_aweight, .ref r_acane, .int r_sits, .int r_dropped, .int r_minute, .ref r_aload, .ref r_aheads, .int r_held, .int r_heldDown])), (r_achairOf, hcI k 8 r_rchairOf)]) H → va_D A ([(r, .inr (2, [.int r_told, .int r_strands, .int r_chairs, .int r_sitters, .ref r_atoldCane, .ref r_aheight, .ref r_astrandOf, .ref r_achairOf, .ref r_aweight, .ref r_acane, .int r_sits, .int r_dropped, .int r_minute, .ref r_aload, .ref r_aheads, .int r_held, .int r_heldDown])), (r_achairOf, hcI k 8 r_rchairOf)]) → va_S A s.heap H locs → lv_has ls 3 [(2, .int L2_1), (0, .ref r), (1, .int x1)] → W p l e (rmK 1 0 0) s m (List.toArray [.ref r, .int x1]) below meth c H locs 0 0 (MQ below (va_Qi (fun (r : Int32) (u : Unit) => iv (-1) (7) r) (hcB D (fun u : Unit => [(r, .inr (2, [.int r_told, .int r_strands, .int r_chairs, .int r_sitters, .ref r_atoldCane, .ref r_aheight, .ref r_astrandOf, .ref r_achairOf, .ref r_aweight, .ref r_acane, .int r_sits, .int r_dropped, .int r_minute, .ref r_aload, .ref r_aheads, .int r_held, .int r_heldDown])), (r_achairOf, hcI k 8 r_rchairOf)]) A) A) (List.toArray [.ref r, .int x1]) s 0 0 A) (F0 m 2 ls []) := by
    intro fu
    induction fu with
    | zero =>
      intro L2_1 bL2_1 hm
      have bL2_1_l := bL2_1.1
      have bL2_1_u := bL2_1.2
      exact absurd hm (by omega)
    | succ fu ih1 =>
      intro L2_1 bL2_1 hm H locs ls hP hD hS hl
      have bL2_1_l := bL2_1.1
      have bL2_1_u := bL2_1.2
      refine lv_iload_n hx hb dX3_sitterOn_2 rfl (lv_at hl 0 rfl) ?_
      refine lv_aload_n hx hb dX3_sitterOn_3 rfl (lv_at hl 1 rfl) ?_
      refine va_get (D := D) (ci := 2) (v := .int r_sitters) (C := RX3) (T := TX3) (N := 17) hx hb hts in3 hown hG.1 hP 0 rfl rfl 3 (by decide) (hts (.fieldLink RX3 22 "ChairCane$Room" "sitters" "I") (by decide +kernel)) (fun _ h9 => h9) rfl dX3_sitterOn_4 ?_
      refine lv_icmp_ge (tgt := 28) hx hb dX3_sitterOn_7 (by decide) (fun c2 => ?_) (fun c2 => ?_)
      · have fc2 := cx_ge_t (a := L2_1.toInt) (b := r_sitters.toInt) rfl rfl c2
        refine lv_iconst (v := (-1)) hx hb dX3_sitterOn_28 (by decide) ?_
        exact hc_end hx hb hr hlocks () (iv_lit (by decide) (by decide)) hP hD hS dX3_sitterOn_29
      · have fc2 := cx_ge_f (a := L2_1.toInt) (b := r_sitters.toInt) rfl rfl c2
        refine lv_aload_n hx hb dX3_sitterOn_10 rfl (lv_at hl 1 rfl) ?_
        refine va_get (D := D) (ci := 2) (v := .ref r_achairOf) (C := RX3) (T := TX3) (N := 17) hx hb hts in3 hown hG.1 hP 0 rfl rfl 7 (by decide) (hts (.fieldLink RX3 35 "ChairCane$Room" "chairOf" "[I") (by decide +kernel)) (fun _ h9 => h9) rfl dX3_sitterOn_11 ?_
        refine lv_iload_n hx hb dX3_sitterOn_14 rfl (lv_at hl 0 rfl) ?_
        refine va_iald hx hb hG.1 hP 1 0 rfl rfl (vp_in_iff.mpr ⟨by omega, by omega⟩) dX3_sitterOn_15 ?_
        refine lv_topi (fun z3 ez3 => ?_)
        have bz3 : iv (0) (7) z3 := by rw [ez3]; exact h_r_rchairOf _
        have bz3_l := bz3.1
        have bz3_u := bz3.2
        refine lv_iload_n hx hb dX3_sitterOn_16 rfl (lv_at hl 2 rfl) ?_
        refine lv_icmp_ne (tgt := 22) hx hb dX3_sitterOn_17 (by decide) (fun c4 => ?_) (fun c4 => ?_)
        · have fc4 := cx_ne_t (a := z3.toInt) (b := x1.toInt) rfl rfl c4
          obtain ⟨z5, ez5⟩ : ∃ z : Int32, z = L2_1 + 1 := ⟨_, rfl⟩
          have tz5 : z5.toInt = L2_1.toInt + (1) := ai_add rfl (by decide) ez5 (by omega) (by omega)
          refine lv_iinc (v := z5) (lv' := [(2, .int z5), (0, .ref r), (1, .int x1)]) hx hb dX3_sitterOn_22 hl (k := 0) rfl (by rw [ez5]; rfl) (by decide) rfl (fun ls hl => ?_)
          refine lv_goto (tgt := 2) hx hb dX3_sitterOn_25 (by decide) ?_
          exact ih1 z5 ⟨by omega, by omega⟩ (by omega) _ _ _ hP hD hS (lv_sub hl [0, 1, 2] rfl)
        · have fc4 := cx_ne_f (a := z3.toInt) (b := x1.toInt) rfl rfl c4
          refine lv_iload_n hx hb dX3_sitterOn_20 rfl (lv_at hl 0 rfl) ?_
          exact hc_end hx hb hr hlocks () (⟨by omega, by omega⟩) hP hD hS dX3_sitterOn_21
  exact loop1 100 0 (iv_lit (by decide) (by decide)) (by have q0 : (0 : Int32).toInt = 0 := (by decide); omega) _ _ _ hP hD hS hl
set_option maxHeartbeats 4000000 in
set_option maxRecDepth 100000 in
theorem i_X3_givesUnder (l : Launch) (D : va_G) (k : Nat → ClassId) (sz : Nat) (x1 : Int32) (r : Nat) (r_told : Int32) (r_strands : Int32) (r_chairs : Int32) (r_sitters : Int32) (r_atoldCane : Nat) (r_aheight : Nat) (r_astrandOf : Nat) (r_achairOf : Nat) (r_aweight : Nat) (r_acane : Nat) (r_sits : Int32) (r_dropped : Int32) (r_minute : Int32) (r_aload : Nat) (r_aheads : Nat) (r_held : Int32) (r_heldDown : Int32) (r_rstrandOf : Nat → Int32) (r_rchairOf : Nat → Int32) (r_rweight : Nat → Int32) (r_rcane : Nat → Int32) (r_rload : Nat → Int32) (h_r_told : iv (0) (1) r_told) (h_r_strands : iv (0) (4) r_strands) (h_r_chairs : iv (0) (8) r_chairs) (h_r_sitters : iv (0) (8) r_sitters) (h_r_rstrandOf : rowIn (0) (3) r_rstrandOf) (h_r_rchairOf : rowIn (0) (7) r_rchairOf) : CtI l yX3_givesUnder wsX3_givesUnder (rmK 1 0 0) [.ref r, .int x1] D k sz ([(r, .inr (2, [.int r_told, .int r_strands, .int r_chairs, .int r_sitters, .ref r_atoldCane, .ref r_aheight, .ref r_astrandOf, .ref r_achairOf, .ref r_aweight, .ref r_acane, .int r_sits, .int r_dropped, .int r_minute, .ref r_aload, .ref r_aheads, .int r_held, .int r_heldDown])), (r_astrandOf, hcI k 8 r_rstrandOf), (r_achairOf, hcI k 8 r_rchairOf), (r_aweight, hcI k 8 r_rweight), (r_acane, hcI k 4 r_rcane), (r_aload, hcI k 4 r_rload)]) (fun (r : Int32) (u : Unit) => True) (fun u : Unit => [(r, .inr (2, [.int r_told, .int r_strands, .int r_chairs, .int r_sitters, .ref r_atoldCane, .ref r_aheight, .ref r_astrandOf, .ref r_achairOf, .ref r_aweight, .ref r_acane, .int r_sits, .int r_dropped, .int r_minute, .ref r_aload, .ref r_aheads, .int r_held, .int r_heldDown])), (r_astrandOf, hcI k 8 r_rstrandOf), (r_achairOf, hcI k 8 r_rchairOf), (r_aweight, hcI k 8 r_rweight), (r_acane, hcI k 4 r_rcane), (r_aload, hcI k 4 r_rload)]) 0 0 := by
  have h_r_told_l := h_r_told.1
  have h_r_told_u := h_r_told.2
  have h_r_strands_l := h_r_strands.1
  have h_r_strands_u := h_r_strands.2
  have h_r_chairs_l := h_r_chairs.1
  have h_r_chairs_u := h_r_chairs.2
  have h_r_sitters_l := h_r_sitters.1
  have h_r_sitters_u := h_r_sitters.2
  refine CtI.mk (cc := cX3_givesUnder) (maxL := 3) (ret := (some .int)) (by decide) rfl (Nat.le_of_ble_eq_true rfl) ?_
  intro p e s m below meth c A ls E hP hD hS hl
  obtain ⟨hx, hb, hr, hml, hown, hts, hlocks, hin, hG, hA⟩ := E
  have hown : s.vm.findClass RX3 = some m.cls := hown
  have in3 : ∀ w ∈ u_ws RX3 TX3 17, w ∈ wsX3_givesUnder := fun _ h => List.mem_cons_of_mem _ (List.mem_append_right _ h)
  have hl : lv_has ls 3 [(0, .ref r), (1, .int x1)] := hl
  refine lv_iload_n hx hb dX3_givesUnder_0 rfl (lv_at hl 1 rfl) ?_
  refine lv_if_lt (tgt := 23) hx hb dX3_givesUnder_1 (by decide) (fun c1 => ?_) (fun c1 => ?_)
  · have fc1 := cx_lt_t (a := x1.toInt) (b := 0) rfl (by decide) c1
    refine lv_iconst (v := 0) hx hb dX3_givesUnder_23 (by decide) ?_
    exact hc_end hx hb hr hlocks () trivial hP hD hS dX3_givesUnder_24
  · have fc1 := cx_lt_f (a := x1.toInt) (b := 0) rfl (by decide) c1
    refine lv_iload_n hx hb dX3_givesUnder_4 rfl (lv_at hl 1 rfl) ?_
    refine lv_aload_n hx hb dX3_givesUnder_5 rfl (lv_at hl 0 rfl) ?_
    refine va_get (D := D) (ci := 2) (v := .int r_sitters) (C := RX3) (T := TX3) (N := 17) hx hb hts in3 hown hG.1 hP 0 rfl rfl 3 (by decide) (hts (.fieldLink RX3 22 "ChairCane$Room" "sitters" "I") (by decide +kernel)) (fun _ h9 => h9) rfl dX3_givesUnder_6 ?_
    refine lv_icmp_ge (tgt := 23) hx hb dX3_givesUnder_9 (by decide) (fun c2 => ?_) (fun c2 => ?_)
    · have fc2 := cx_ge_t (a := x1.toInt) (b := r_sitters.toInt) rfl rfl c2
      refine lv_iconst (v := 0) hx hb dX3_givesUnder_23 (by decide) ?_
      exact hc_end hx hb hr hlocks () trivial hP hD hS dX3_givesUnder_24
    · have fc2 := cx_ge_f (a := x1.toInt) (b := r_sitters.toInt) rfl rfl c2
      refine lv_aload_n hx hb dX3_givesUnder_12 rfl (lv_at hl 0 rfl) ?_
      refine va_get (D := D) (ci := 2) (v := .int r_sits) (C := RX3) (T := TX3) (N := 17) hx hb hts in3 hown hG.1 hP 0 rfl rfl 10 (by decide) (hts (.fieldLink RX3 44 "ChairCane$Room" "sits" "I") (by decide +kernel)) (fun _ h9 => h9) rfl dX3_givesUnder_13 ?_
      refine lv_iload_n hx hb dX3_givesUnder_16 rfl (lv_at hl 1 rfl) ?_
      refine lv_ishr hx hb dX3_givesUnder_17 ?_
      refine lv_topi (fun z3 ez3 => ?_)
      refine lv_iconst (v := 1) hx hb dX3_givesUnder_18 (by decide) ?_
      refine lv_iand hx hb dX3_givesUnder_19 ?_
      refine lv_topi (fun z4 ez4 => ?_)
      have bz4 : iv (0) (1) z4 := ai_mask 1 (by decide) (by decide) ez4
      have bz4_l := bz4.1
      have bz4_u := bz4.2
      refine lv_if_ne (tgt := 25) hx hb dX3_givesUnder_20 (by decide) (fun c5 => ?_) (fun c5 => ?_)
      · have fc5 := cx_ne_t (a := z4.toInt) (b := 0) rfl (by decide) c5
        refine lv_aload_n hx hb dX3_givesUnder_25 rfl (lv_at hl 0 rfl) ?_
        refine va_get (D := D) (ci := 2) (v := .ref r_astrandOf) (C := RX3) (T := TX3) (N := 17) hx hb hts in3 hown hG.1 hP 0 rfl rfl 6 (by decide) (hts (.fieldLink RX3 32 "ChairCane$Room" "strandOf" "[I") (by decide +kernel)) (fun _ h9 => h9) rfl dX3_givesUnder_26 ?_
        refine lv_aload_n hx hb dX3_givesUnder_29 rfl (lv_at hl 0 rfl) ?_
        refine va_get (D := D) (ci := 2) (v := .ref r_achairOf) (C := RX3) (T := TX3) (N := 17) hx hb hts in3 hown hG.1 hP 0 rfl rfl 7 (by decide) (hts (.fieldLink RX3 35 "ChairCane$Room" "chairOf" "[I") (by decide +kernel)) (fun _ h9 => h9) rfl dX3_givesUnder_30 ?_
        refine lv_iload_n hx hb dX3_givesUnder_33 rfl (lv_at hl 1 rfl) ?_
        refine va_iald hx hb hG.1 hP 2 0 rfl rfl (vp_in_iff.mpr ⟨by omega, by omega⟩) dX3_givesUnder_34 ?_
        refine lv_topi (fun z6 ez6 => ?_)
        have bz6 : iv (0) (7) z6 := by rw [ez6]; exact h_r_rchairOf _
        have bz6_l := bz6.1
        have bz6_u := bz6.2
        refine va_iald hx hb hG.1 hP 1 0 rfl rfl (vp_in_iff.mpr ⟨by omega, by omega⟩) dX3_givesUnder_35 ?_
        refine lv_topi (fun z7 ez7 => ?_)
        have bz7 : iv (0) (3) z7 := by rw [ez7]; exact h_r_rstrandOf _
        have bz7_l := bz7.1
        have bz7_u := bz7.2
        refine lv_istore_n (lv' := [(2, .int z7), (0, .ref r), (1, .int x1)]) hx hb dX3_givesUnder_36 rfl hl (by decide) rfl (fun ls hl => ?_)
        refine lv_aload_n hx hb dX3_givesUnder_37 rfl (lv_at hl 1 rfl) ?_
        refine va_get (D := D) (ci := 2) (v := .ref r_aload) (C := RX3) (T := TX3) (N := 17) hx hb hts in3 hown hG.1 hP 0 rfl rfl 13 (by decide) (hts (.fieldLink RX3 53 "ChairCane$Room" "load" "[I") (by decide +kernel)) (fun _ h9 => h9) rfl dX3_givesUnder_38 ?_
        refine lv_iload_n hx hb dX3_givesUnder_41 rfl (lv_at hl 0 rfl) ?_
        refine va_iald hx hb hG.1 hP 5 0 rfl rfl (vp_in_iff.mpr ⟨by omega, by omega⟩) dX3_givesUnder_42 ?_
        refine lv_topi (fun z8 ez8 => ?_)
        refine lv_if_le (tgt := 69) hx hb dX3_givesUnder_43 (by decide) (fun c9 => ?_) (fun c9 => ?_)
        · have fc9 := cx_le_t (a := z8.toInt) (b := 0) rfl (by decide) c9
          refine lv_iconst (v := 0) hx hb dX3_givesUnder_69 (by decide) ?_
          exact hc_end hx hb hr hlocks () trivial hP hD hS dX3_givesUnder_70
        · have fc9 := cx_le_f (a := z8.toInt) (b := 0) rfl (by decide) c9
          refine lv_aload_n hx hb dX3_givesUnder_46 rfl (lv_at hl 1 rfl) ?_
          refine va_get (D := D) (ci := 2) (v := .ref r_acane) (C := RX3) (T := TX3) (N := 17) hx hb hts in3 hown hG.1 hP 0 rfl rfl 9 (by decide) (hts (.fieldLink RX3 41 "ChairCane$Room" "cane" "[I") (by decide +kernel)) (fun _ h9 => h9) rfl dX3_givesUnder_47 ?_
          refine lv_iload_n hx hb dX3_givesUnder_50 rfl (lv_at hl 0 rfl) ?_
          refine va_iald hx hb hG.1 hP 4 0 rfl rfl (vp_in_iff.mpr ⟨by omega, by omega⟩) dX3_givesUnder_51 ?_
          refine lv_topi (fun z10 ez10 => ?_)
          refine lv_aload_n hx hb dX3_givesUnder_52 rfl (lv_at hl 1 rfl) ?_
          refine va_get (D := D) (ci := 2) (v := .ref r_aweight) (C := RX3) (T := TX3) (N := 17) hx hb hts in3 hown hG.1 hP 0 rfl rfl 8 (by decide) (hts (.fieldLink RX3 38 "ChairCane$Room" "weight" "[I") (by decide +kernel)) (fun _ h9 => h9) rfl dX3_givesUnder_53 ?_
          refine lv_iload_n hx hb dX3_givesUnder_56 rfl (lv_at hl 2 rfl) ?_
          refine va_iald hx hb hG.1 hP 3 0 rfl rfl (vp_in_iff.mpr ⟨by omega, by omega⟩) dX3_givesUnder_57 ?_
          refine lv_topi (fun z11 ez11 => ?_)
          refine lv_imul hx hb dX3_givesUnder_58 ?_
          refine lv_topi (fun z12 ez12 => ?_)
          refine lv_aload_n hx hb dX3_givesUnder_59 rfl (lv_at hl 1 rfl) ?_
          refine va_get (D := D) (ci := 2) (v := .ref r_aload) (C := RX3) (T := TX3) (N := 17) hx hb hts in3 hown hG.1 hP 0 rfl rfl 13 (by decide) (hts (.fieldLink RX3 53 "ChairCane$Room" "load" "[I") (by decide +kernel)) (fun _ h9 => h9) rfl dX3_givesUnder_60 ?_
          refine lv_iload_n hx hb dX3_givesUnder_63 rfl (lv_at hl 0 rfl) ?_
          refine va_iald hx hb hG.1 hP 5 0 rfl rfl (vp_in_iff.mpr ⟨by omega, by omega⟩) dX3_givesUnder_64 ?_
          refine hc_is (z := z8) ez8.symm ?_
          refine lv_idiv hx hb dX3_givesUnder_65 (cd_ne_t (a := z8.toInt) (b := 0) rfl (by decide) (by omega)) ?_
          refine lv_topi (fun z13 ez13 => ?_)
          refine lv_goto (tgt := 70) hx hb dX3_givesUnder_66 (by decide) ?_
          exact hc_end hx hb hr hlocks () trivial hP hD hS dX3_givesUnder_70
      · have fc5 := cx_ne_f (a := z4.toInt) (b := 0) rfl (by decide) c5
        refine lv_iconst (v := 0) hx hb dX3_givesUnder_23 (by decide) ?_
        exact hc_end hx hb hr hlocks () trivial hP hD hS dX3_givesUnder_24
set_option maxHeartbeats 4000000 in
set_option maxRecDepth 100000 in
theorem i_X3_givesInAll (l : Launch) (D : va_G) (k : Nat → ClassId) (sz : Nat) (r : Nat) (r_told : Int32) (r_strands : Int32) (r_chairs : Int32) (r_sitters : Int32) (r_atoldCane : Nat) (r_aheight : Nat) (r_astrandOf : Nat) (r_achairOf : Nat) (r_aweight : Nat) (r_acane : Nat) (r_sits : Int32) (r_dropped : Int32) (r_minute : Int32) (r_aload : Nat) (r_aheads : Nat) (r_held : Int32) (r_heldDown : Int32) (r_rstrandOf : Nat → Int32) (r_rchairOf : Nat → Int32) (r_rweight : Nat → Int32) (r_rcane : Nat → Int32) (r_rload : Nat → Int32) (h_r_told : iv (0) (1) r_told) (h_r_strands : iv (0) (4) r_strands) (h_r_chairs : iv (0) (8) r_chairs) (h_r_sitters : iv (0) (8) r_sitters) (h_r_rstrandOf : rowIn (0) (3) r_rstrandOf) (h_r_rchairOf : rowIn (0) (7) r_rchairOf) : CtI l yX3_givesInAll wsX3_givesInAll (rmK 2 0 0) [.ref r] D k sz ([(r, .inr (2, [.int r_told, .int r_strands, .int r_chairs, .int r_sitters, .ref r_atoldCane, .ref r_aheight, .ref r_astrandOf, .ref r_achairOf, .ref r_aweight, .ref r_acane, .int r_sits, .int r_dropped, .int r_minute, .ref r_aload, .ref r_aheads, .int r_held, .int r_heldDown])), (r_astrandOf, hcI k 8 r_rstrandOf), (r_achairOf, hcI k 8 r_rchairOf), (r_aweight, hcI k 8 r_rweight), (r_acane, hcI k 4 r_rcane), (r_aload, hcI k 4 r_rload)]) (fun (r : Int32) (u : Unit) => True) (fun u : Unit => [(r, .inr (2, [.int r_told, .int r_strands, .int r_chairs, .int r_sitters, .ref r_atoldCane, .ref r_aheight, .ref r_astrandOf, .ref r_achairOf, .ref r_aweight, .ref r_acane, .int r_sits, .int r_dropped, .int r_minute, .ref r_aload, .ref r_aheads, .int r_held, .int r_heldDown])), (r_astrandOf, hcI k 8 r_rstrandOf), (r_achairOf, hcI k 8 r_rchairOf), (r_aweight, hcI k 8 r_rweight), (r_acane, hcI k 4 r_rcane), (r_aload, hcI k 4 r_rload)]) 0 0 := by
  have h_r_told_l := h_r_told.1
  have h_r_told_u := h_r_told.2
  have h_r_strands_l := h_r_strands.1
  have h_r_strands_u := h_r_strands.2
  have h_r_chairs_l := h_r_chairs.1
  have h_r_chairs_u := h_r_chairs.2
  have h_r_sitters_l := h_r_sitters.1
  have h_r_sitters_u := h_r_sitters.2
  refine CtI.mk (cc := cX3_givesInAll) (maxL := 3) (ret := (some .int)) (by decide) rfl (Nat.le_of_ble_eq_true rfl) ?_
  intro p e s m below meth c A ls E hP hD hS hl
  obtain ⟨hx, hb, hr, hml, hown, hts, hlocks, hin, hG, hA⟩ := E
  have hown : s.vm.findClass RX3 = some m.cls := hown
  have in3 : ∀ w ∈ u_ws RX3 TX3 17, w ∈ wsX3_givesInAll := fun _ h => List.mem_cons_of_mem _ (List.mem_append_right _ h)
  have hl : lv_has ls 3 [(0, .ref r)] := hl
  refine lv_iconst (v := 0) hx hb dX3_givesInAll_0 (by decide) ?_
  refine lv_istore_n (lv' := [(1, .int 0), (0, .ref r)]) hx hb dX3_givesInAll_1 rfl hl (by decide) rfl (fun ls hl => ?_)
  refine lv_iconst (v := 0) hx hb dX3_givesInAll_2 (by decide) ?_
  refine lv_istore_n (lv' := [(2, .int 0), (1, .int 0), (0, .ref r)]) hx hb dX3_givesInAll_3 rfl hl (by decide) rfl (fun ls hl => ?_)
  have loop1 : ∀ (fu : Nat) (L1_1 : Int32) (L2_1 : Int32), iv (0) (8) L2_1 → 8 - L2_1.toInt < (fu : Int) → ∀ (H : Heap) (locs : List Loc) (ls : Array Slot), va_P D vwCl ([(r, .inr (2, [.int r_told, .int r_strands, .int r_chairs, .int r_sitters, .ref r_atoldCane, .ref r_aheight, .ref r_astrandOf, .ref r_achairOf, .ref r_aweight, .ref r_acane, .int r_sits, .int r_dropped, .int r_minute, .ref r_aload, .ref r_aheads, .int r_held, .int r_heldDown])), (r_astrandOf, hcI k 8 r_rstrandOf), (r_achairOf, hcI k 8 r_rchairOf), (r_aweight, hcI k 8 r_rweight), (r_acane, hcI k 4 r_rcane), (r_aload, hcI k 4 r_rload)]) H → va_D A ([(r, .inr (2, [.int r_told, .int r_strands, .int r_chairs, .int r_sitters, .ref r_atoldCane, .ref r_aheight, .ref r_astrandOf, .ref r_achairOf, .ref r_aweight, .ref r_acane, .int r_sits, .int r_dropped, .int r_minute, .ref r_aload, .ref r_aheads, .int r_held, .int r_heldDown])), (r_astrandOf, hcI k 8 r_rstrandOf), (r_achairOf, hcI k 8 r_rchairOf), (r_aweight, hcI k 8 r_rweight), (r_acane, hcI k 4 r_rcane), (r_aload, hcI k 4 r_rload)]) → va_S A s.heap H locs → lv_has ls 3 [(2, .int L2_1), (1, .int L1_1), (0, .ref r)] → W p l e (rmK 2 0 0) s m (List.toArray [.ref r]) below meth c H locs 0 0 (MQ below (va_Qi (fun (r : Int32) (u : Unit) => True) (hcB D (fun u : Unit => [(r, .inr (2, [.int r_told, .int r_strands, .int r_chairs, .int r_sitters, .ref r_atoldCane, .ref r_aheight, .ref r_astrandOf, .ref r_achairOf, .ref r_aweight, .ref r_acane, .int r_sits, .int r_dropped, .int r_minute, .ref r_aload, .ref r_aheads, .int r_held, .int r_heldDown])), (r_astrandOf, hcI k 8 r_rstrandOf), (r_achairOf, hcI k 8 r_rchairOf), (r_aweight, hcI k 8 r_rweight), (r_acane, hcI k 4 r_rcane), (r_aload, hcI k 4 r_rload)]) A) A) (List.toArray [.ref r]) s 0 0 A) (F0 m 4 ls []) := by
    intro fu
    induction fu with
    | zero =>
      intro L1_1 L2_1 bL2_1 hm
      have bL2_1_l := bL2_1.1
      have bL2_1_u := bL2_1.2
      exact absurd hm (by omega)
    | succ fu ih1 =>
      intro L1_1 L2_1 bL2_1 hm H locs ls hP hD hS hl
      have bL2_1_l := bL2_1.1
      have bL2_1_u := bL2_1.2
      refine lv_iload_n hx hb dX3_givesInAll_4 rfl (lv_at hl 0 rfl) ?_
      refine lv_aload_n hx hb dX3_givesInAll_5 rfl (lv_at hl 2 rfl) ?_
      refine va_get (D := D) (ci := 2) (v := .int r_sitters) (C := RX3) (T := TX3) (N := 17) hx hb hts in3 hown hG.1 hP 0 rfl rfl 3 (by decide) (hts (.fieldLink RX3 22 "ChairCane$Room" "sitters" "I") (by decide +kernel)) (fun _ h9 => h9) rfl dX3_givesInAll_6 ?_
      refine lv_icmp_ge (tgt := 26) hx hb dX3_givesInAll_9 (by decide) (fun c2 => ?_) (fun c2 => ?_)
      · have fc2 := cx_ge_t (a := L2_1.toInt) (b := r_sitters.toInt) rfl rfl c2
        refine lv_iload_n hx hb dX3_givesInAll_26 rfl (lv_at hl 1 rfl) ?_
        exact hc_end hx hb hr hlocks () trivial hP hD hS dX3_givesInAll_27
      · have fc2 := cx_ge_f (a := L2_1.toInt) (b := r_sitters.toInt) rfl rfl c2
        refine lv_iload_n hx hb dX3_givesInAll_12 rfl (lv_at hl 1 rfl) ?_
        refine lv_aload_n hx hb dX3_givesInAll_13 rfl (lv_at hl 2 rfl) ?_
        refine lv_iload_n hx hb dX3_givesInAll_14 rfl (lv_at hl 0 rfl) ?_
        refine hc_Vi (As := [.int L2_1]) (rest := [.int L1_1]) (n := 1) (wr := []) hx hb hml hown hts hG hA hP hD hS hl.1 [0, 1, 2, 3, 4, 5] [] (i_X3_givesUnder l D k _ L2_1 r r_told r_strands r_chairs r_sitters r_atoldCane r_aheight r_astrandOf r_achairOf r_aweight r_acane r_sits r_dropped r_minute r_aload r_aheads r_held r_heldDown r_rstrandOf r_rchairOf r_rweight r_rcane r_rload ⟨by omega, by omega⟩ ⟨by omega, by omega⟩ ⟨by omega, by omega⟩ ⟨by omega, by omega⟩ h_r_rstrandOf h_r_rchairOf) (ci := 2) (q0 := 0) rfl rfl gX3_givesInAll_X3_givesUnder rfl ⟨rfl, rfl, Nat.le_of_ble_eq_true rfl, Nat.le_of_ble_eq_true rfl⟩ (by decide +kernel) rfl rfl ⟨by decide, by decide, by decide⟩ ⟨rfl, rfl, Nat.le_of_ble_eq_true rfl, Nat.le_of_ble_eq_true rfl, Nat.le_of_ble_eq_true rfl⟩ dX3_givesInAll_15 (fun r4 u3 H locs hw hP hD hS => ?_)
        have hP : va_P D vwCl ([(r, .inr (2, [.int r_told, .int r_strands, .int r_chairs, .int r_sitters, .ref r_atoldCane, .ref r_aheight, .ref r_astrandOf, .ref r_achairOf, .ref r_aweight, .ref r_acane, .int r_sits, .int r_dropped, .int r_minute, .ref r_aload, .ref r_aheads, .int r_held, .int r_heldDown])), (r_astrandOf, hcI k 8 r_rstrandOf), (r_achairOf, hcI k 8 r_rchairOf), (r_aweight, hcI k 8 r_rweight), (r_acane, hcI k 4 r_rcane), (r_aload, hcI k 4 r_rload)]) H := hP
        have hD : va_D A ([(r, .inr (2, [.int r_told, .int r_strands, .int r_chairs, .int r_sitters, .ref r_atoldCane, .ref r_aheight, .ref r_astrandOf, .ref r_achairOf, .ref r_aweight, .ref r_acane, .int r_sits, .int r_dropped, .int r_minute, .ref r_aload, .ref r_aheads, .int r_held, .int r_heldDown])), (r_astrandOf, hcI k 8 r_rstrandOf), (r_achairOf, hcI k 8 r_rchairOf), (r_aweight, hcI k 8 r_rweight), (r_acane, hcI k 4 r_rcane), (r_aload, hcI k 4 r_rload)]) := hD
        refine lv_iadd hx hb dX3_givesInAll_18 ?_
        refine lv_topi (fun z5 ez5 => ?_)
        refine lv_istore_n (lv' := [(1, .int z5), (2, .int L2_1), (0, .ref r)]) hx hb dX3_givesInAll_19 rfl hl (by decide) rfl (fun ls hl => ?_)
        obtain ⟨z6, ez6⟩ : ∃ z : Int32, z = L2_1 + 1 := ⟨_, rfl⟩
        have tz6 : z6.toInt = L2_1.toInt + (1) := ai_add rfl (by decide) ez6 (by omega) (by omega)
        refine lv_iinc (v := z6) (lv' := [(2, .int z6), (1, .int z5), (0, .ref r)]) hx hb dX3_givesInAll_20 hl (k := 1) rfl (by rw [ez6]; rfl) (by decide) rfl (fun ls hl => ?_)
        refine lv_goto (tgt := 4) hx hb dX3_givesInAll_23 (by decide) ?_
        exact ih1 z5 z6 ⟨by omega, by omega⟩ (by omega) _ _ _ hP hD hS (lv_sub hl [0, 1, 2] rfl)
  exact loop1 100 0 0 (iv_lit (by decide) (by decide)) (by have q0 : (0 : Int32).toInt = 0 := (by decide); have q1 : (0 : Int32).toInt = 0 := (by decide); omega) _ _ _ hP hD hS hl
set_option maxHeartbeats 4000000 in
set_option maxRecDepth 100000 in
theorem i_X3_worthTo (l : Launch) (D : va_G) (k : Nat → ClassId) (sz : Nat) (x1 : Int32) (r : Nat) (r_told : Int32) (r_strands : Int32) (r_chairs : Int32) (r_sitters : Int32) (r_atoldCane : Nat) (r_aheight : Nat) (r_astrandOf : Nat) (r_achairOf : Nat) (r_aweight : Nat) (r_acane : Nat) (r_sits : Int32) (r_dropped : Int32) (r_minute : Int32) (r_aload : Nat) (r_aheads : Nat) (r_held : Int32) (r_heldDown : Int32) (r_rstrandOf : Nat → Int32) (r_rchairOf : Nat → Int32) (r_rweight : Nat → Int32) (r_rcane : Nat → Int32) (r_rload : Nat → Int32) (h_r_told : iv (0) (1) r_told) (h_r_strands : iv (0) (4) r_strands) (h_r_chairs : iv (0) (8) r_chairs) (h_r_sitters : iv (0) (8) r_sitters) (h_r_rstrandOf : rowIn (0) (3) r_rstrandOf) (h_r_rchairOf : rowIn (0) (7) r_rchairOf) : CtI l yX3_worthTo wsX3_worthTo (rmK 2 0 0) [.ref r, .int x1] D k sz ([(r, .inr (2, [.int r_told, .int r_strands, .int r_chairs, .int r_sitters, .ref r_atoldCane, .ref r_aheight, .ref r_astrandOf, .ref r_achairOf, .ref r_aweight, .ref r_acane, .int r_sits, .int r_dropped, .int r_minute, .ref r_aload, .ref r_aheads, .int r_held, .int r_heldDown])), (r_astrandOf, hcI k 8 r_rstrandOf), (r_achairOf, hcI k 8 r_rchairOf), (r_aweight, hcI k 8 r_rweight), (r_acane, hcI k 4 r_rcane), (r_aload, hcI k 4 r_rload)]) (fun (r : Int32) (u : Unit) => True) (fun u : Unit => [(r, .inr (2, [.int r_told, .int r_strands, .int r_chairs, .int r_sitters, .ref r_atoldCane, .ref r_aheight, .ref r_astrandOf, .ref r_achairOf, .ref r_aweight, .ref r_acane, .int r_sits, .int r_dropped, .int r_minute, .ref r_aload, .ref r_aheads, .int r_held, .int r_heldDown])), (r_astrandOf, hcI k 8 r_rstrandOf), (r_achairOf, hcI k 8 r_rchairOf), (r_aweight, hcI k 8 r_rweight), (r_acane, hcI k 4 r_rcane), (r_aload, hcI k 4 r_rload)]) 0 0 := by
  have h_r_told_l := h_r_told.1
  have h_r_told_u := h_r_told.2
  have h_r_strands_l := h_r_strands.1
  have h_r_strands_u := h_r_strands.2
  have h_r_chairs_l := h_r_chairs.1
  have h_r_chairs_u := h_r_chairs.2
  have h_r_sitters_l := h_r_sitters.1
  have h_r_sitters_u := h_r_sitters.2
  refine CtI.mk (cc := cX3_worthTo) (maxL := 2) (ret := (some .int)) (by decide) rfl (Nat.le_of_ble_eq_true rfl) ?_
  intro p e s m below meth c A ls E hP hD hS hl
  obtain ⟨hx, hb, hr, hml, hown, hts, hlocks, hin, hG, hA⟩ := E
  have hown : s.vm.findClass RX3 = some m.cls := hown
  have in3 : ∀ w ∈ u_ws RX3 TX3 17, w ∈ wsX3_worthTo := fun _ h => List.mem_cons_of_mem _ (List.mem_append_right _ h)
  have hl : lv_has ls 2 [(0, .ref r), (1, .int x1)] := hl
  refine lv_aload_n hx hb dX3_worthTo_0 rfl (lv_at hl 0 rfl) ?_
  refine lv_iload_n hx hb dX3_worthTo_1 rfl (lv_at hl 1 rfl) ?_
  refine hc_Vi (As := [.int x1]) (rest := []) (n := 1) (wr := [(r_astrandOf, hcI k 8 r_rstrandOf), (r_achairOf, hcI k 8 r_rchairOf), (r_aweight, hcI k 8 r_rweight), (r_acane, hcI k 4 r_rcane), (r_aload, hcI k 4 r_rload)]) hx hb hml hown hts hG hA hP hD hS hl.1 [0] [1, 2, 3, 4, 5] (i_X3_isDown l D k _ x1 r r_told r_strands r_chairs r_sitters r_atoldCane r_aheight r_astrandOf r_achairOf r_aweight r_acane r_sits r_dropped r_minute r_aload r_aheads r_held r_heldDown ⟨by omega, by omega⟩ ⟨by omega, by omega⟩ ⟨by omega, by omega⟩ ⟨by omega, by omega⟩) (ci := 2) (q0 := 0) rfl rfl gX3_worthTo_X3_isDown rfl ⟨rfl, rfl, Nat.le_of_ble_eq_true rfl, Nat.le_of_ble_eq_true rfl⟩ (by decide +kernel) rfl rfl ⟨by decide, by decide, by decide⟩ ⟨rfl, rfl, Nat.le_of_ble_eq_true rfl, Nat.le_of_ble_eq_true rfl, Nat.le_of_ble_eq_true rfl⟩ dX3_worthTo_2 (fun r2 u1 H locs hw hP hD hS => ?_)
  have hP : va_P D vwCl ([(r_astrandOf, hcI k 8 r_rstrandOf), (r_achairOf, hcI k 8 r_rchairOf), (r_aweight, hcI k 8 r_rweight), (r_acane, hcI k 4 r_rcane), (r_aload, hcI k 4 r_rload), (r, .inr (2, [.int r_told, .int r_strands, .int r_chairs, .int r_sitters, .ref r_atoldCane, .ref r_aheight, .ref r_astrandOf, .ref r_achairOf, .ref r_aweight, .ref r_acane, .int r_sits, .int r_dropped, .int r_minute, .ref r_aload, .ref r_aheads, .int r_held, .int r_heldDown]))]) H := hP
  have hD : va_D A ([(r_astrandOf, hcI k 8 r_rstrandOf), (r_achairOf, hcI k 8 r_rchairOf), (r_aweight, hcI k 8 r_rweight), (r_acane, hcI k 4 r_rcane), (r_aload, hcI k 4 r_rload), (r, .inr (2, [.int r_told, .int r_strands, .int r_chairs, .int r_sitters, .ref r_atoldCane, .ref r_aheight, .ref r_astrandOf, .ref r_achairOf, .ref r_aweight, .ref r_acane, .int r_sits, .int r_dropped, .int r_minute, .ref r_aload, .ref r_aheads, .int r_held, .int r_heldDown]))]) := hD
  obtain ⟨br2, rel3⟩ := hw
  have br2 : iv (0) (1) r2 := br2
  have br2_l := br2.1
  have br2_u := br2.2
  refine lv_if_eq (tgt := 21) hx hb dX3_worthTo_5 (by decide) (fun c4 => ?_) (fun c4 => ?_)
  · have fc4 := cx_eq_t (a := r2.toInt) (b := 0) rfl (by decide) c4
    refine lv_iconst (v := 0) hx hb dX3_worthTo_21 (by decide) ?_
    exact hc_end hx hb hr hlocks () trivial (hP.sub [5, 0, 1, 2, 3, 4] rfl) (hD.sub [5, 0, 1, 2, 3, 4] (by decide) rfl) hS dX3_worthTo_22
  · have fc4 := cx_eq_f (a := r2.toInt) (b := 0) rfl (by decide) c4
    refine lv_iconst (v := 1) hx hb dX3_worthTo_8 (by decide) ?_
    refine lv_aload_n hx hb dX3_worthTo_9 rfl (lv_at hl 0 rfl) ?_
    refine lv_iload_n hx hb dX3_worthTo_10 rfl (lv_at hl 1 rfl) ?_
    refine hc_Vi (As := [.int x1]) (rest := [.int 1]) (n := 1) (wr := []) hx hb hml hown hts hG hA hP hD hS hl.1 [5, 0, 1, 2, 3, 4] [] (i_X3_givesUnder l D k _ x1 r r_told r_strands r_chairs r_sitters r_atoldCane r_aheight r_astrandOf r_achairOf r_aweight r_acane r_sits r_dropped r_minute r_aload r_aheads r_held r_heldDown r_rstrandOf r_rchairOf r_rweight r_rcane r_rload ⟨by omega, by omega⟩ ⟨by omega, by omega⟩ ⟨by omega, by omega⟩ ⟨by omega, by omega⟩ h_r_rstrandOf h_r_rchairOf) (ci := 2) (q0 := 5) rfl rfl gX3_worthTo_X3_givesUnder rfl ⟨rfl, rfl, Nat.le_of_ble_eq_true rfl, Nat.le_of_ble_eq_true rfl⟩ (by decide +kernel) rfl rfl ⟨by decide, by decide, by decide⟩ ⟨rfl, rfl, Nat.le_of_ble_eq_true rfl, Nat.le_of_ble_eq_true rfl, Nat.le_of_ble_eq_true rfl⟩ dX3_worthTo_11 (fun r6 u5 H locs hw hP hD hS => ?_)
    have hP : va_P D vwCl ([(r, .inr (2, [.int r_told, .int r_strands, .int r_chairs, .int r_sitters, .ref r_atoldCane, .ref r_aheight, .ref r_astrandOf, .ref r_achairOf, .ref r_aweight, .ref r_acane, .int r_sits, .int r_dropped, .int r_minute, .ref r_aload, .ref r_aheads, .int r_held, .int r_heldDown])), (r_astrandOf, hcI k 8 r_rstrandOf), (r_achairOf, hcI k 8 r_rchairOf), (r_aweight, hcI k 8 r_rweight), (r_acane, hcI k 4 r_rcane), (r_aload, hcI k 4 r_rload)]) H := hP
    have hD : va_D A ([(r, .inr (2, [.int r_told, .int r_strands, .int r_chairs, .int r_sitters, .ref r_atoldCane, .ref r_aheight, .ref r_astrandOf, .ref r_achairOf, .ref r_aweight, .ref r_acane, .int r_sits, .int r_dropped, .int r_minute, .ref r_aload, .ref r_aheads, .int r_held, .int r_heldDown])), (r_astrandOf, hcI k 8 r_rstrandOf), (r_achairOf, hcI k 8 r_rchairOf), (r_aweight, hcI k 8 r_rweight), (r_acane, hcI k 4 r_rcane), (r_aload, hcI k 4 r_rload)]) := hD
    refine lv_bipush (v := 10) hx hb dX3_worthTo_14 (by decide) ?_
    refine lv_idiv hx hb dX3_worthTo_16 (by decide) ?_
    refine lv_topi (fun z7 ez7 => ?_)
    refine lv_iadd hx hb dX3_worthTo_17 ?_
    refine lv_topi (fun z8 ez8 => ?_)
    refine lv_goto (tgt := 22) hx hb dX3_worthTo_18 (by decide) ?_
    exact hc_end hx hb hr hlocks () trivial hP hD hS dX3_worthTo_22
set_option maxHeartbeats 4000000 in
set_option maxRecDepth 100000 in
theorem i_X3_seat (l : Launch) (D : va_G) (k : Nat → ClassId) (sz : Nat) (x1 : Int32) (x2 : Int32) (r : Nat) (r_told : Int32) (r_strands : Int32) (r_chairs : Int32) (r_sitters : Int32) (r_atoldCane : Nat) (r_aheight : Nat) (r_astrandOf : Nat) (r_achairOf : Nat) (r_aweight : Nat) (r_acane : Nat) (r_sits : Int32) (r_dropped : Int32) (r_minute : Int32) (r_aload : Nat) (r_aheads : Nat) (r_held : Int32) (r_heldDown : Int32) (r_rstrandOf : Nat → Int32) (r_rchairOf : Nat → Int32) (r_rweight : Nat → Int32) (r_rload : Nat → Int32) (r_rheads : Nat → Int32) (h_x2 : iv (0) (1) x2) (h_r_told : iv (0) (1) r_told) (h_r_strands : iv (0) (4) r_strands) (h_r_chairs : iv (0) (8) r_chairs) (h_r_sitters : iv (0) (8) r_sitters) (h_r_rstrandOf : rowIn (0) (3) r_rstrandOf) (h_r_rchairOf : rowIn (0) (7) r_rchairOf) : CtV l yX3_seat wsX3_seat (rmK 2 0 0) [.ref r, .int x1, .int x2] D k sz ([(r, .inr (2, [.int r_told, .int r_strands, .int r_chairs, .int r_sitters, .ref r_atoldCane, .ref r_aheight, .ref r_astrandOf, .ref r_achairOf, .ref r_aweight, .ref r_acane, .int r_sits, .int r_dropped, .int r_minute, .ref r_aload, .ref r_aheads, .int r_held, .int r_heldDown])), (r_astrandOf, hcI k 8 r_rstrandOf), (r_achairOf, hcI k 8 r_rchairOf), (r_aweight, hcI k 8 r_rweight), (r_aload, hcI k 4 r_rload), (r_aheads, hcI k 4 r_rheads)]) (fun u : (Int32) × (Nat → Int32) × (Nat → Int32) => True) (fun u : (Int32) × (Nat → Int32) × (Nat → Int32) => [(r, .inr (2, [.int r_told, .int r_strands, .int r_chairs, .int r_sitters, .ref r_atoldCane, .ref r_aheight, .ref r_astrandOf, .ref r_achairOf, .ref r_aweight, .ref r_acane, .int (u.1), .int r_dropped, .int r_minute, .ref r_aload, .ref r_aheads, .int r_held, .int r_heldDown])), (r_astrandOf, hcI k 8 r_rstrandOf), (r_achairOf, hcI k 8 r_rchairOf), (r_aweight, hcI k 8 r_rweight), (r_aload, hcI k 4 (u.2.1)), (r_aheads, hcI k 4 (u.2.2))]) 0 0 := by
  have h_x2_l := h_x2.1
  have h_x2_u := h_x2.2
  have h_r_told_l := h_r_told.1
  have h_r_told_u := h_r_told.2
  have h_r_strands_l := h_r_strands.1
  have h_r_strands_u := h_r_strands.2
  have h_r_chairs_l := h_r_chairs.1
  have h_r_chairs_u := h_r_chairs.2
  have h_r_sitters_l := h_r_sitters.1
  have h_r_sitters_u := h_r_sitters.2
  refine CtV.mk (cc := cX3_seat) (maxL := 4) (ret := none) (by decide) rfl (Nat.le_of_ble_eq_true rfl) ?_
  intro p e s m below meth c A ls E hP hD hS hl
  obtain ⟨hx, hb, hr, hml, hown, hts, hlocks, hin, hG, hA⟩ := E
  have hown : s.vm.findClass RX3 = some m.cls := hown
  have in3 : ∀ w ∈ u_ws RX3 TX3 17, w ∈ wsX3_seat := fun _ h => List.mem_cons_of_mem _ (List.mem_append_right _ h)
  have hl : lv_has ls 4 [(0, .ref r), (1, .int x1), (2, .int x2)] := hl
  refine lv_aload_n hx hb dX3_seat_0 rfl (lv_at hl 0 rfl) ?_
  refine lv_iload_n hx hb dX3_seat_1 rfl (lv_at hl 1 rfl) ?_
  refine hc_Vi (As := [.int x1]) (rest := []) (n := 1) (wr := [(r_astrandOf, hcI k 8 r_rstrandOf), (r_achairOf, hcI k 8 r_rchairOf), (r_aweight, hcI k 8 r_rweight), (r_aload, hcI k 4 r_rload), (r_aheads, hcI k 4 r_rheads)]) hx hb hml hown hts hG hA hP hD hS hl.1 [0] [1, 2, 3, 4, 5] (i_X3_isUp l D k _ x1 r r_told r_strands r_chairs r_sitters r_atoldCane r_aheight r_astrandOf r_achairOf r_aweight r_acane r_sits r_dropped r_minute r_aload r_aheads r_held r_heldDown ⟨by omega, by omega⟩ ⟨by omega, by omega⟩ ⟨by omega, by omega⟩ ⟨by omega, by omega⟩) (ci := 2) (q0 := 0) rfl rfl gX3_seat_X3_isUp rfl ⟨rfl, rfl, Nat.le_of_ble_eq_true rfl, Nat.le_of_ble_eq_true rfl⟩ (by decide +kernel) rfl rfl ⟨by decide, by decide, by decide⟩ ⟨rfl, rfl, Nat.le_of_ble_eq_true rfl, Nat.le_of_ble_eq_true rfl, Nat.le_of_ble_eq_true rfl⟩ dX3_seat_2 (fun r2 u1 H locs hw hP hD hS => ?_)
  have hP : va_P D vwCl ([(r_astrandOf, hcI k 8 r_rstrandOf), (r_achairOf, hcI k 8 r_rchairOf), (r_aweight, hcI k 8 r_rweight), (r_aload, hcI k 4 r_rload), (r_aheads, hcI k 4 r_rheads), (r, .inr (2, [.int r_told, .int r_strands, .int r_chairs, .int r_sitters, .ref r_atoldCane, .ref r_aheight, .ref r_astrandOf, .ref r_achairOf, .ref r_aweight, .ref r_acane, .int r_sits, .int r_dropped, .int r_minute, .ref r_aload, .ref r_aheads, .int r_held, .int r_heldDown]))]) H := hP
  have hD : va_D A ([(r_astrandOf, hcI k 8 r_rstrandOf), (r_achairOf, hcI k 8 r_rchairOf), (r_aweight, hcI k 8 r_rweight), (r_aload, hcI k 4 r_rload), (r_aheads, hcI k 4 r_rheads), (r, .inr (2, [.int r_told, .int r_strands, .int r_chairs, .int r_sitters, .ref r_atoldCane, .ref r_aheight, .ref r_astrandOf, .ref r_achairOf, .ref r_aweight, .ref r_acane, .int r_sits, .int r_dropped, .int r_minute, .ref r_aload, .ref r_aheads, .int r_held, .int r_heldDown]))]) := hD
  obtain ⟨br2, rel3⟩ := hw
  have br2 : iv (0) (1) r2 := br2
  have br2_l := br2.1
  have br2_u := br2.2
  refine lv_if_eq (tgt := 17) hx hb dX3_seat_5 (by decide) (fun c4 => ?_) (fun c4 => ?_)
  · have fc4 := cx_eq_t (a := r2.toInt) (b := 0) rfl (by decide) c4
    exact hc_endV hx hb hr hlocks (r_sits, r_rload, r_rheads) trivial (hP.sub [5, 0, 1, 2, 3, 4] rfl) (hD.sub [5, 0, 1, 2, 3, 4] (by decide) rfl) hS dX3_seat_17
  · have fc4 := cx_eq_f (a := r2.toInt) (b := 0) rfl (by decide) c4
    refine lv_aload_n hx hb dX3_seat_8 rfl (lv_at hl 0 rfl) ?_
    refine lv_iload_n hx hb dX3_seat_9 rfl (lv_at hl 1 rfl) ?_
    refine hc_Vi (As := [.int x1]) (rest := []) (n := 1) (wr := [(r_astrandOf, hcI k 8 r_rstrandOf), (r_achairOf, hcI k 8 r_rchairOf), (r_aweight, hcI k 8 r_rweight), (r_aload, hcI k 4 r_rload), (r_aheads, hcI k 4 r_rheads)]) hx hb hml hown hts hG hA hP hD hS hl.1 [5] [0, 1, 2, 3, 4] (i_X3_isDown l D k _ x1 r r_told r_strands r_chairs r_sitters r_atoldCane r_aheight r_astrandOf r_achairOf r_aweight r_acane r_sits r_dropped r_minute r_aload r_aheads r_held r_heldDown ⟨by omega, by omega⟩ ⟨by omega, by omega⟩ ⟨by omega, by omega⟩ ⟨by omega, by omega⟩) (ci := 2) (q0 := 5) rfl rfl gX3_seat_X3_isDown rfl ⟨rfl, rfl, Nat.le_of_ble_eq_true rfl, Nat.le_of_ble_eq_true rfl⟩ (by decide +kernel) rfl rfl ⟨by decide, by decide, by decide⟩ ⟨rfl, rfl, Nat.le_of_ble_eq_true rfl, Nat.le_of_ble_eq_true rfl, Nat.le_of_ble_eq_true rfl⟩ dX3_seat_10 (fun r6 u5 H locs hw hP hD hS => ?_)
    have hP : va_P D vwCl ([(r_astrandOf, hcI k 8 r_rstrandOf), (r_achairOf, hcI k 8 r_rchairOf), (r_aweight, hcI k 8 r_rweight), (r_aload, hcI k 4 r_rload), (r_aheads, hcI k 4 r_rheads), (r, .inr (2, [.int r_told, .int r_strands, .int r_chairs, .int r_sitters, .ref r_atoldCane, .ref r_aheight, .ref r_astrandOf, .ref r_achairOf, .ref r_aweight, .ref r_acane, .int r_sits, .int r_dropped, .int r_minute, .ref r_aload, .ref r_aheads, .int r_held, .int r_heldDown]))]) H := hP
    have hD : va_D A ([(r_astrandOf, hcI k 8 r_rstrandOf), (r_achairOf, hcI k 8 r_rchairOf), (r_aweight, hcI k 8 r_rweight), (r_aload, hcI k 4 r_rload), (r_aheads, hcI k 4 r_rheads), (r, .inr (2, [.int r_told, .int r_strands, .int r_chairs, .int r_sitters, .ref r_atoldCane, .ref r_aheight, .ref r_astrandOf, .ref r_achairOf, .ref r_aweight, .ref r_acane, .int r_sits, .int r_dropped, .int r_minute, .ref r_aload, .ref r_aheads, .int r_held, .int r_heldDown]))]) := hD
    obtain ⟨br6, rel7⟩ := hw
    have br6 : iv (0) (1) r6 := br6
    have br6_l := br6.1
    have br6_u := br6.2
    refine lv_iload_n hx hb dX3_seat_13 rfl (lv_at hl 2 rfl) ?_
    refine lv_icmp_ne (tgt := 18) hx hb dX3_seat_14 (by decide) (fun c8 => ?_) (fun c8 => ?_)
    · have fc8 := cx_ne_t (a := r6.toInt) (b := x2.toInt) rfl rfl c8
      refine lv_aload_n hx hb dX3_seat_18 rfl (lv_at hl 0 rfl) ?_
      refine va_get (D := D) (ci := 2) (v := .ref r_astrandOf) (C := RX3) (T := TX3) (N := 17) hx hb hts in3 hown hG.1 hP 5 rfl rfl 6 (by decide) (hts (.fieldLink RX3 32 "ChairCane$Room" "strandOf" "[I") (by decide +kernel)) (fun _ h9 => h9) rfl dX3_seat_19 ?_
      refine lv_aload_n hx hb dX3_seat_22 rfl (lv_at hl 0 rfl) ?_
      refine va_get (D := D) (ci := 2) (v := .ref r_achairOf) (C := RX3) (T := TX3) (N := 17) hx hb hts in3 hown hG.1 hP 5 rfl rfl 7 (by decide) (hts (.fieldLink RX3 35 "ChairCane$Room" "chairOf" "[I") (by decide +kernel)) (fun _ h9 => h9) rfl dX3_seat_23 ?_
      refine lv_iload_n hx hb dX3_seat_26 rfl (lv_at hl 1 rfl) ?_
      refine va_iald hx hb hG.1 hP 1 0 rfl rfl (vp_in_iff.mpr ⟨by omega, by omega⟩) dX3_seat_27 ?_
      refine lv_topi (fun z9 ez9 => ?_)
      have bz9 : iv (0) (7) z9 := by rw [ez9]; exact h_r_rchairOf _
      have bz9_l := bz9.1
      have bz9_u := bz9.2
      refine va_iald hx hb hG.1 hP 0 0 rfl rfl (vp_in_iff.mpr ⟨by omega, by omega⟩) dX3_seat_28 ?_
      refine lv_topi (fun z10 ez10 => ?_)
      have bz10 : iv (0) (3) z10 := by rw [ez10]; exact h_r_rstrandOf _
      have bz10_l := bz10.1
      have bz10_u := bz10.2
      refine lv_istore_n (lv' := [(3, .int z10), (0, .ref r), (1, .int x1), (2, .int x2)]) hx hb dX3_seat_29 rfl hl (by decide) rfl (fun ls hl => ?_)
      refine lv_aload_n hx hb dX3_seat_30 rfl (lv_at hl 1 rfl) ?_
      refine lv_dup hx hb dX3_seat_31 rfl ?_
      refine va_get (D := D) (ci := 2) (v := .int r_sits) (C := RX3) (T := TX3) (N := 17) hx hb hts in3 hown hG.1 hP 5 rfl rfl 10 (by decide) (hts (.fieldLink RX3 44 "ChairCane$Room" "sits" "I") (by decide +kernel)) (fun _ h9 => h9) rfl dX3_seat_32 ?_
      refine lv_iconst (v := 1) hx hb dX3_seat_35 (by decide) ?_
      refine lv_iload_n hx hb dX3_seat_36 rfl (lv_at hl 2 rfl) ?_
      refine lv_ishl hx hb dX3_seat_37 ?_
      refine lv_topi (fun z11 ez11 => ?_)
      refine lv_ixor hx hb dX3_seat_38 ?_
      refine lv_topi (fun z12 ez12 => ?_)
      refine va_put (D := D) (ci := 2) (v := .int z12) (C := RX3) (T := TX3) (N := 17) hx hb hts in3 tyX3 tyX3_ok nmX3 hown hG.1 hP hD hS 5 rfl rfl 10 (by decide) (hts (.fieldLink RX3 44 "ChairCane$Room" "sits" "I") (by decide +kernel)) (fun _ h9 => h9) rfl (tyX3_ok 10 (by decide)) rfl rfl (Nat.le_of_ble_eq_true rfl) dX3_seat_39 (fun H locs hP hD hS => ?_)
      have hP : va_P D vwCl ([(r_astrandOf, hcI k 8 r_rstrandOf), (r_achairOf, hcI k 8 r_rchairOf), (r_aweight, hcI k 8 r_rweight), (r_aload, hcI k 4 r_rload), (r_aheads, hcI k 4 r_rheads), (r, .inr (2, [.int r_told, .int r_strands, .int r_chairs, .int r_sitters, .ref r_atoldCane, .ref r_aheight, .ref r_astrandOf, .ref r_achairOf, .ref r_aweight, .ref r_acane, .int z12, .int r_dropped, .int r_minute, .ref r_aload, .ref r_aheads, .int r_held, .int r_heldDown]))]) H := hP
      have hD : va_D A ([(r_astrandOf, hcI k 8 r_rstrandOf), (r_achairOf, hcI k 8 r_rchairOf), (r_aweight, hcI k 8 r_rweight), (r_aload, hcI k 4 r_rload), (r_aheads, hcI k 4 r_rheads), (r, .inr (2, [.int r_told, .int r_strands, .int r_chairs, .int r_sitters, .ref r_atoldCane, .ref r_aheight, .ref r_astrandOf, .ref r_achairOf, .ref r_aweight, .ref r_acane, .int z12, .int r_dropped, .int r_minute, .ref r_aload, .ref r_aheads, .int r_held, .int r_heldDown]))]) := hD
      refine lv_aload_n hx hb dX3_seat_42 rfl (lv_at hl 1 rfl) ?_
      refine va_get (D := D) (ci := 2) (v := .ref r_aload) (C := RX3) (T := TX3) (N := 17) hx hb hts in3 hown hG.1 hP 5 rfl rfl 13 (by decide) (hts (.fieldLink RX3 53 "ChairCane$Room" "load" "[I") (by decide +kernel)) (fun _ h9 => h9) rfl dX3_seat_43 ?_
      refine lv_iload_n hx hb dX3_seat_46 rfl (lv_at hl 0 rfl) ?_
      refine lv_dup2_11 hx hb dX3_seat_47 rfl rfl ?_
      refine va_iald hx hb hG.1 hP 3 0 rfl rfl (vp_in_iff.mpr ⟨by omega, by omega⟩) dX3_seat_48 ?_
      refine lv_topi (fun z13 ez13 => ?_)
      refine lv_iload_n hx hb dX3_seat_49 rfl (lv_at hl 3 rfl) ?_
      refine lv_if_eq (tgt := 62) hx hb dX3_seat_50 (by decide) (fun c14 => ?_) (fun c14 => ?_)
      · have fc14 := cx_eq_t (a := x2.toInt) (b := 0) rfl (by decide) c14
        refine lv_aload_n hx hb dX3_seat_62 rfl (lv_at hl 1 rfl) ?_
        refine va_get (D := D) (ci := 2) (v := .ref r_aweight) (C := RX3) (T := TX3) (N := 17) hx hb hts in3 hown hG.1 hP 5 rfl rfl 8 (by decide) (hts (.fieldLink RX3 38 "ChairCane$Room" "weight" "[I") (by decide +kernel)) (fun _ h9 => h9) rfl dX3_seat_63 ?_
        refine lv_iload_n hx hb dX3_seat_66 rfl (lv_at hl 2 rfl) ?_
        refine va_iald hx hb hG.1 hP 2 0 rfl rfl (vp_in_iff.mpr ⟨by omega, by omega⟩) dX3_seat_67 ?_
        refine lv_topi (fun z15 ez15 => ?_)
        refine lv_ineg hx hb dX3_seat_68 ?_
        refine lv_topi (fun z16 ez16 => ?_)
        refine lv_iadd hx hb dX3_seat_69 ?_
        refine lv_topi (fun z17 ez17 => ?_)
        refine va_iast hx hb hG.1 hP hD hS 3 0 rfl rfl (vp_in_iff.mpr ⟨by omega, by omega⟩) dX3_seat_70 (fun H locs hP hD hS => ?_)
        obtain ⟨f18, ef18⟩ : ∃ f, f = upd r_rload (Int32.toNatClampNeg z10) (z17) := ⟨_, rfl⟩
        rw [← ef18] at hP hD
        have hP : va_P D vwCl ([(r_astrandOf, hcI k 8 r_rstrandOf), (r_achairOf, hcI k 8 r_rchairOf), (r_aweight, hcI k 8 r_rweight), (r_aload, hcI k 4 f18), (r_aheads, hcI k 4 r_rheads), (r, .inr (2, [.int r_told, .int r_strands, .int r_chairs, .int r_sitters, .ref r_atoldCane, .ref r_aheight, .ref r_astrandOf, .ref r_achairOf, .ref r_aweight, .ref r_acane, .int z12, .int r_dropped, .int r_minute, .ref r_aload, .ref r_aheads, .int r_held, .int r_heldDown]))]) H := hP
        have hD : va_D A ([(r_astrandOf, hcI k 8 r_rstrandOf), (r_achairOf, hcI k 8 r_rchairOf), (r_aweight, hcI k 8 r_rweight), (r_aload, hcI k 4 f18), (r_aheads, hcI k 4 r_rheads), (r, .inr (2, [.int r_told, .int r_strands, .int r_chairs, .int r_sitters, .ref r_atoldCane, .ref r_aheight, .ref r_astrandOf, .ref r_achairOf, .ref r_aweight, .ref r_acane, .int z12, .int r_dropped, .int r_minute, .ref r_aload, .ref r_aheads, .int r_held, .int r_heldDown]))]) := hD
        refine lv_aload_n hx hb dX3_seat_71 rfl (lv_at hl 1 rfl) ?_
        refine va_get (D := D) (ci := 2) (v := .ref r_aheads) (C := RX3) (T := TX3) (N := 17) hx hb hts in3 hown hG.1 hP 5 rfl rfl 14 (by decide) (hts (.fieldLink RX3 56 "ChairCane$Room" "heads" "[I") (by decide +kernel)) (fun _ h9 => h9) rfl dX3_seat_72 ?_
        refine lv_iload_n hx hb dX3_seat_75 rfl (lv_at hl 0 rfl) ?_
        refine lv_dup2_11 hx hb dX3_seat_76 rfl rfl ?_
        refine va_iald hx hb hG.1 hP 4 0 rfl rfl (vp_in_iff.mpr ⟨by omega, by omega⟩) dX3_seat_77 ?_
        refine lv_topi (fun z19 ez19 => ?_)
        refine lv_iload_n hx hb dX3_seat_78 rfl (lv_at hl 3 rfl) ?_
        refine lv_if_eq (tgt := 86) hx hb dX3_seat_79 (by decide) (fun c20 => ?_) (fun c20 => ?_)
        · have fc20 := cx_eq_t (a := x2.toInt) (b := 0) rfl (by decide) c20
          refine lv_iconst (v := (-1)) hx hb dX3_seat_86 (by decide) ?_
          refine lv_iadd hx hb dX3_seat_87 ?_
          refine lv_topi (fun z21 ez21 => ?_)
          refine va_iast hx hb hG.1 hP hD hS 4 0 rfl rfl (vp_in_iff.mpr ⟨by omega, by omega⟩) dX3_seat_88 (fun H locs hP hD hS => ?_)
          obtain ⟨f22, ef22⟩ : ∃ f, f = upd r_rheads (Int32.toNatClampNeg z10) (z21) := ⟨_, rfl⟩
          rw [← ef22] at hP hD
          have hP : va_P D vwCl ([(r_astrandOf, hcI k 8 r_rstrandOf), (r_achairOf, hcI k 8 r_rchairOf), (r_aweight, hcI k 8 r_rweight), (r_aload, hcI k 4 f18), (r_aheads, hcI k 4 f22), (r, .inr (2, [.int r_told, .int r_strands, .int r_chairs, .int r_sitters, .ref r_atoldCane, .ref r_aheight, .ref r_astrandOf, .ref r_achairOf, .ref r_aweight, .ref r_acane, .int z12, .int r_dropped, .int r_minute, .ref r_aload, .ref r_aheads, .int r_held, .int r_heldDown]))]) H := hP
          have hD : va_D A ([(r_astrandOf, hcI k 8 r_rstrandOf), (r_achairOf, hcI k 8 r_rchairOf), (r_aweight, hcI k 8 r_rweight), (r_aload, hcI k 4 f18), (r_aheads, hcI k 4 f22), (r, .inr (2, [.int r_told, .int r_strands, .int r_chairs, .int r_sitters, .ref r_atoldCane, .ref r_aheight, .ref r_astrandOf, .ref r_achairOf, .ref r_aweight, .ref r_acane, .int z12, .int r_dropped, .int r_minute, .ref r_aload, .ref r_aheads, .int r_held, .int r_heldDown]))]) := hD
          exact hc_endV hx hb hr hlocks (z12, f18, f22) trivial (hP.sub [5, 0, 1, 2, 3, 4] rfl) (hD.sub [5, 0, 1, 2, 3, 4] (by decide) rfl) hS dX3_seat_89
        · have fc20 := cx_eq_f (a := x2.toInt) (b := 0) rfl (by decide) c20
          refine lv_iconst (v := 1) hx hb dX3_seat_82 (by decide) ?_
          refine lv_goto (tgt := 87) hx hb dX3_seat_83 (by decide) ?_
          refine lv_iadd hx hb dX3_seat_87 ?_
          refine lv_topi (fun z23 ez23 => ?_)
          refine va_iast hx hb hG.1 hP hD hS 4 0 rfl rfl (vp_in_iff.mpr ⟨by omega, by omega⟩) dX3_seat_88 (fun H locs hP hD hS => ?_)
          obtain ⟨f24, ef24⟩ : ∃ f, f = upd r_rheads (Int32.toNatClampNeg z10) (z23) := ⟨_, rfl⟩
          rw [← ef24] at hP hD
          have hP : va_P D vwCl ([(r_astrandOf, hcI k 8 r_rstrandOf), (r_achairOf, hcI k 8 r_rchairOf), (r_aweight, hcI k 8 r_rweight), (r_aload, hcI k 4 f18), (r_aheads, hcI k 4 f24), (r, .inr (2, [.int r_told, .int r_strands, .int r_chairs, .int r_sitters, .ref r_atoldCane, .ref r_aheight, .ref r_astrandOf, .ref r_achairOf, .ref r_aweight, .ref r_acane, .int z12, .int r_dropped, .int r_minute, .ref r_aload, .ref r_aheads, .int r_held, .int r_heldDown]))]) H := hP
          have hD : va_D A ([(r_astrandOf, hcI k 8 r_rstrandOf), (r_achairOf, hcI k 8 r_rchairOf), (r_aweight, hcI k 8 r_rweight), (r_aload, hcI k 4 f18), (r_aheads, hcI k 4 f24), (r, .inr (2, [.int r_told, .int r_strands, .int r_chairs, .int r_sitters, .ref r_atoldCane, .ref r_aheight, .ref r_astrandOf, .ref r_achairOf, .ref r_aweight, .ref r_acane, .int z12, .int r_dropped, .int r_minute, .ref r_aload, .ref r_aheads, .int r_held, .int r_heldDown]))]) := hD
          exact hc_endV hx hb hr hlocks (z12, f18, f24) trivial (hP.sub [5, 0, 1, 2, 3, 4] rfl) (hD.sub [5, 0, 1, 2, 3, 4] (by decide) rfl) hS dX3_seat_89
      · have fc14 := cx_eq_f (a := x2.toInt) (b := 0) rfl (by decide) c14
        refine lv_aload_n hx hb dX3_seat_53 rfl (lv_at hl 1 rfl) ?_
        refine va_get (D := D) (ci := 2) (v := .ref r_aweight) (C := RX3) (T := TX3) (N := 17) hx hb hts in3 hown hG.1 hP 5 rfl rfl 8 (by decide) (hts (.fieldLink RX3 38 "ChairCane$Room" "weight" "[I") (by decide +kernel)) (fun _ h9 => h9) rfl dX3_seat_54 ?_
        refine lv_iload_n hx hb dX3_seat_57 rfl (lv_at hl 2 rfl) ?_
        refine va_iald hx hb hG.1 hP 2 0 rfl rfl (vp_in_iff.mpr ⟨by omega, by omega⟩) dX3_seat_58 ?_
        refine lv_topi (fun z25 ez25 => ?_)
        refine lv_goto (tgt := 69) hx hb dX3_seat_59 (by decide) ?_
        refine lv_iadd hx hb dX3_seat_69 ?_
        refine lv_topi (fun z26 ez26 => ?_)
        refine va_iast hx hb hG.1 hP hD hS 3 0 rfl rfl (vp_in_iff.mpr ⟨by omega, by omega⟩) dX3_seat_70 (fun H locs hP hD hS => ?_)
        obtain ⟨f27, ef27⟩ : ∃ f, f = upd r_rload (Int32.toNatClampNeg z10) (z26) := ⟨_, rfl⟩
        rw [← ef27] at hP hD
        have hP : va_P D vwCl ([(r_astrandOf, hcI k 8 r_rstrandOf), (r_achairOf, hcI k 8 r_rchairOf), (r_aweight, hcI k 8 r_rweight), (r_aload, hcI k 4 f27), (r_aheads, hcI k 4 r_rheads), (r, .inr (2, [.int r_told, .int r_strands, .int r_chairs, .int r_sitters, .ref r_atoldCane, .ref r_aheight, .ref r_astrandOf, .ref r_achairOf, .ref r_aweight, .ref r_acane, .int z12, .int r_dropped, .int r_minute, .ref r_aload, .ref r_aheads, .int r_held, .int r_heldDown]))]) H := hP
        have hD : va_D A ([(r_astrandOf, hcI k 8 r_rstrandOf), (r_achairOf, hcI k 8 r_rchairOf), (r_aweight, hcI k 8 r_rweight), (r_aload, hcI k 4 f27), (r_aheads, hcI k 4 r_rheads), (r, .inr (2, [.int r_told, .int r_strands, .int r_chairs, .int r_sitters, .ref r_atoldCane, .ref r_aheight, .ref r_astrandOf, .ref r_achairOf, .ref r_aweight, .ref r_acane, .int z12, .int r_dropped, .int r_minute, .ref r_aload, .ref r_aheads, .int r_held, .int r_heldDown]))]) := hD
        refine lv_aload_n hx hb dX3_seat_71 rfl (lv_at hl 1 rfl) ?_
        refine va_get (D := D) (ci := 2) (v := .ref r_aheads) (C := RX3) (T := TX3) (N := 17) hx hb hts in3 hown hG.1 hP 5 rfl rfl 14 (by decide) (hts (.fieldLink RX3 56 "ChairCane$Room" "heads" "[I") (by decide +kernel)) (fun _ h9 => h9) rfl dX3_seat_72 ?_
        refine lv_iload_n hx hb dX3_seat_75 rfl (lv_at hl 0 rfl) ?_
        refine lv_dup2_11 hx hb dX3_seat_76 rfl rfl ?_
        refine va_iald hx hb hG.1 hP 4 0 rfl rfl (vp_in_iff.mpr ⟨by omega, by omega⟩) dX3_seat_77 ?_
        refine lv_topi (fun z28 ez28 => ?_)
        refine lv_iload_n hx hb dX3_seat_78 rfl (lv_at hl 3 rfl) ?_
        refine lv_if_eq (tgt := 86) hx hb dX3_seat_79 (by decide) (fun c29 => ?_) (fun c29 => ?_)
        · have fc29 := cx_eq_t (a := x2.toInt) (b := 0) rfl (by decide) c29
          refine lv_iconst (v := (-1)) hx hb dX3_seat_86 (by decide) ?_
          refine lv_iadd hx hb dX3_seat_87 ?_
          refine lv_topi (fun z30 ez30 => ?_)
          refine va_iast hx hb hG.1 hP hD hS 4 0 rfl rfl (vp_in_iff.mpr ⟨by omega, by omega⟩) dX3_seat_88 (fun H locs hP hD hS => ?_)
          obtain ⟨f31, ef31⟩ : ∃ f, f = upd r_rheads (Int32.toNatClampNeg z10) (z30) := ⟨_, rfl⟩
          rw [← ef31] at hP hD
          have hP : va_P D vwCl ([(r_astrandOf, hcI k 8 r_rstrandOf), (r_achairOf, hcI k 8 r_rchairOf), (r_aweight, hcI k 8 r_rweight), (r_aload, hcI k 4 f27), (r_aheads, hcI k 4 f31), (r, .inr (2, [.int r_told, .int r_strands, .int r_chairs, .int r_sitters, .ref r_atoldCane, .ref r_aheight, .ref r_astrandOf, .ref r_achairOf, .ref r_aweight, .ref r_acane, .int z12, .int r_dropped, .int r_minute, .ref r_aload, .ref r_aheads, .int r_held, .int r_heldDown]))]) H := hP
          have hD : va_D A ([(r_astrandOf, hcI k 8 r_rstrandOf), (r_achairOf, hcI k 8 r_rchairOf), (r_aweight, hcI k 8 r_rweight), (r_aload, hcI k 4 f27), (r_aheads, hcI k 4 f31), (r, .inr (2, [.int r_told, .int r_strands, .int r_chairs, .int r_sitters, .ref r_atoldCane, .ref r_aheight, .ref r_astrandOf, .ref r_achairOf, .ref r_aweight, .ref r_acane, .int z12, .int r_dropped, .int r_minute, .ref r_aload, .ref r_aheads, .int r_held, .int r_heldDown]))]) := hD
          exact hc_endV hx hb hr hlocks (z12, f27, f31) trivial (hP.sub [5, 0, 1, 2, 3, 4] rfl) (hD.sub [5, 0, 1, 2, 3, 4] (by decide) rfl) hS dX3_seat_89
        · have fc29 := cx_eq_f (a := x2.toInt) (b := 0) rfl (by decide) c29
          refine lv_iconst (v := 1) hx hb dX3_seat_82 (by decide) ?_
          refine lv_goto (tgt := 87) hx hb dX3_seat_83 (by decide) ?_
          refine lv_iadd hx hb dX3_seat_87 ?_
          refine lv_topi (fun z32 ez32 => ?_)
          refine va_iast hx hb hG.1 hP hD hS 4 0 rfl rfl (vp_in_iff.mpr ⟨by omega, by omega⟩) dX3_seat_88 (fun H locs hP hD hS => ?_)
          obtain ⟨f33, ef33⟩ : ∃ f, f = upd r_rheads (Int32.toNatClampNeg z10) (z32) := ⟨_, rfl⟩
          rw [← ef33] at hP hD
          have hP : va_P D vwCl ([(r_astrandOf, hcI k 8 r_rstrandOf), (r_achairOf, hcI k 8 r_rchairOf), (r_aweight, hcI k 8 r_rweight), (r_aload, hcI k 4 f27), (r_aheads, hcI k 4 f33), (r, .inr (2, [.int r_told, .int r_strands, .int r_chairs, .int r_sitters, .ref r_atoldCane, .ref r_aheight, .ref r_astrandOf, .ref r_achairOf, .ref r_aweight, .ref r_acane, .int z12, .int r_dropped, .int r_minute, .ref r_aload, .ref r_aheads, .int r_held, .int r_heldDown]))]) H := hP
          have hD : va_D A ([(r_astrandOf, hcI k 8 r_rstrandOf), (r_achairOf, hcI k 8 r_rchairOf), (r_aweight, hcI k 8 r_rweight), (r_aload, hcI k 4 f27), (r_aheads, hcI k 4 f33), (r, .inr (2, [.int r_told, .int r_strands, .int r_chairs, .int r_sitters, .ref r_atoldCane, .ref r_aheight, .ref r_astrandOf, .ref r_achairOf, .ref r_aweight, .ref r_acane, .int z12, .int r_dropped, .int r_minute, .ref r_aload, .ref r_aheads, .int r_held, .int r_heldDown]))]) := hD
          exact hc_endV hx hb hr hlocks (z12, f27, f33) trivial (hP.sub [5, 0, 1, 2, 3, 4] rfl) (hD.sub [5, 0, 1, 2, 3, 4] (by decide) rfl) hS dX3_seat_89
    · have fc8 := cx_ne_f (a := r6.toInt) (b := x2.toInt) rfl rfl c8
      exact hc_endV hx hb hr hlocks (r_sits, r_rload, r_rheads) trivial (hP.sub [5, 0, 1, 2, 3, 4] rfl) (hD.sub [5, 0, 1, 2, 3, 4] (by decide) rfl) hS dX3_seat_17
set_option maxHeartbeats 4000000 in
set_option maxRecDepth 100000 in
theorem i_J7_fill_53178 (l : Launch) (D : va_G) (k : Nat → ClassId) (sz : Nat) (x1 : Int32) (a : Nat) (a_r : Nat → Int32)  : CtV l yJ7_fill_53178 wsJ7_fill_53178 (rmK 1 0 0) [.ref a, .int x1] D k sz ([(a, hcI k 4 a_r)]) (fun u : (Nat → Int32) => True) (fun u : (Nat → Int32) => [(a, hcI k 4 (u))]) 0 0 := by
  refine CtV.mk (cc := cJ7_fill_53178) (maxL := 4) (ret := none) (by decide) rfl (Nat.le_of_ble_eq_true rfl) ?_
  intro p e s m below meth c A ls E hP hD hS hl
  obtain ⟨hx, hb, hr, hml, hown, hts, hlocks, hin, hG, hA⟩ := E
  have hown : s.vm.findClass RJ7 = some m.cls := hown
  have hl : lv_has ls 4 [(0, .ref a), (1, .int x1)] := hl
  refine lv_iconst (v := 0) hx hb dJ7_fill_53178_0 (by decide) ?_
  refine lv_istore_n (lv' := [(2, .int 0), (0, .ref a), (1, .int x1)]) hx hb dJ7_fill_53178_1 rfl hl (by decide) rfl (fun ls hl => ?_)
  refine lv_aload_n hx hb dJ7_fill_53178_2 rfl (lv_at hl 1 rfl) ?_
  refine va_alen hx hb hG.1 hP 0 0 rfl rfl (v := 4) rfl dJ7_fill_53178_3 ?_
  refine lv_istore_n (lv' := [(3, .int 4), (2, .int 0), (0, .ref a), (1, .int x1)]) hx hb dJ7_fill_53178_4 rfl hl (by decide) rfl (fun ls hl => ?_)
  have loop1 : ∀ (fu : Nat) (L2_1 : Int32) (g_1a : Nat → Int32), iv (0) (4) L2_1 → 4 - L2_1.toInt < (fu : Int) → ∀ (H : Heap) (locs : List Loc) (ls : Array Slot), va_P D vwCl ([(a, hcI k 4 g_1a)]) H → va_D A ([(a, hcI k 4 g_1a)]) → va_S A s.heap H locs → lv_has ls 4 [(3, .int 4), (2, .int L2_1), (0, .ref a), (1, .int x1)] → W p l e (rmK 1 0 0) s m (List.toArray [.ref a, .int x1]) below meth c H locs 0 0 (MQ below (va_Qv (fun u : (Nat → Int32) => True) (hcB D (fun u : (Nat → Int32) => [(a, hcI k 4 (u))]) A) A) (List.toArray [.ref a, .int x1]) s 0 0 A) (F0 m 5 ls []) := by
    intro fu
    induction fu with
    | zero =>
      intro L2_1 g_1a bL2_1 hm
      have bL2_1_l := bL2_1.1
      have bL2_1_u := bL2_1.2
      exact absurd hm (by omega)
    | succ fu ih1 =>
      intro L2_1 g_1a bL2_1 hm H locs ls hP hD hS hl
      have bL2_1_l := bL2_1.1
      have bL2_1_u := bL2_1.2
      refine lv_iload_n hx hb dJ7_fill_53178_5 rfl (lv_at hl 1 rfl) ?_
      refine lv_iload_n hx hb dJ7_fill_53178_6 rfl (lv_at hl 0 rfl) ?_
      refine lv_icmp_ge (tgt := 20) hx hb dJ7_fill_53178_7 (by decide) (fun c2 => ?_) (fun c2 => ?_)
      · have fc2 := cx_ge_t (a := L2_1.toInt) (b := 4) rfl (by decide) c2
        exact hc_endV hx hb hr hlocks (g_1a) trivial hP hD hS dJ7_fill_53178_20
      · have fc2 := cx_ge_f (a := L2_1.toInt) (b := 4) rfl (by decide) c2
        refine lv_aload_n hx hb dJ7_fill_53178_10 rfl (lv_at hl 2 rfl) ?_
        refine lv_iload_n hx hb dJ7_fill_53178_11 rfl (lv_at hl 1 rfl) ?_
        refine lv_iload_n hx hb dJ7_fill_53178_12 rfl (lv_at hl 3 rfl) ?_
        refine va_iast hx hb hG.1 hP hD hS 0 0 rfl rfl (vp_in_iff.mpr ⟨by omega, by omega⟩) dJ7_fill_53178_13 (fun H locs hP hD hS => ?_)
        obtain ⟨f3, ef3⟩ : ∃ f, f = upd g_1a (Int32.toNatClampNeg L2_1) (x1) := ⟨_, rfl⟩
        rw [← ef3] at hP hD
        have hP : va_P D vwCl ([(a, hcI k 4 f3)]) H := hP
        have hD : va_D A ([(a, hcI k 4 f3)]) := hD
        obtain ⟨z4, ez4⟩ : ∃ z : Int32, z = L2_1 + 1 := ⟨_, rfl⟩
        have tz4 : z4.toInt = L2_1.toInt + (1) := ai_add rfl (by decide) ez4 (by omega) (by omega)
        refine lv_iinc (v := z4) (lv' := [(2, .int z4), (3, .int 4), (0, .ref a), (1, .int x1)]) hx hb dJ7_fill_53178_14 hl (k := 1) rfl (by rw [ez4]; rfl) (by decide) rfl (fun ls hl => ?_)
        refine lv_goto (tgt := 5) hx hb dJ7_fill_53178_17 (by decide) ?_
        exact ih1 z4 f3 ⟨by omega, by omega⟩ (by omega) _ _ _ hP hD hS (lv_sub hl [1, 0, 2, 3] rfl)
  exact loop1 100 0 a_r (iv_lit (by decide) (by decide)) (by have q0 : (0 : Int32).toInt = 0 := (by decide); omega) _ _ _ hP hD hS hl
set_option maxHeartbeats 4000000 in
set_option maxRecDepth 100000 in
theorem i_X3_weigh (l : Launch) (D : va_G) (k : Nat → ClassId) (sz : Nat) (r : Nat) (r_told : Int32) (r_strands : Int32) (r_chairs : Int32) (r_sitters : Int32) (r_atoldCane : Nat) (r_aheight : Nat) (r_astrandOf : Nat) (r_achairOf : Nat) (r_aweight : Nat) (r_acane : Nat) (r_sits : Int32) (r_dropped : Int32) (r_minute : Int32) (r_aload : Nat) (r_aheads : Nat) (r_held : Int32) (r_heldDown : Int32) (r_rstrandOf : Nat → Int32) (r_rchairOf : Nat → Int32) (r_rweight : Nat → Int32) (r_rload : Nat → Int32) (r_rheads : Nat → Int32) (h_r_told : iv (0) (1) r_told) (h_r_strands : iv (0) (4) r_strands) (h_r_chairs : iv (0) (8) r_chairs) (h_r_sitters : iv (0) (8) r_sitters) (h_r_rstrandOf : rowIn (0) (3) r_rstrandOf) (h_r_rchairOf : rowIn (0) (7) r_rchairOf) : CtV l yX3_weigh wsX3_weigh (rmK 2 0 0) [.ref r] D k sz ([(r, .inr (2, [.int r_told, .int r_strands, .int r_chairs, .int r_sitters, .ref r_atoldCane, .ref r_aheight, .ref r_astrandOf, .ref r_achairOf, .ref r_aweight, .ref r_acane, .int r_sits, .int r_dropped, .int r_minute, .ref r_aload, .ref r_aheads, .int r_held, .int r_heldDown])), (r_astrandOf, hcI k 8 r_rstrandOf), (r_achairOf, hcI k 8 r_rchairOf), (r_aweight, hcI k 8 r_rweight), (r_aload, hcI k 4 r_rload), (r_aheads, hcI k 4 r_rheads)]) (fun u : (Nat → Int32) × (Nat → Int32) => True) (fun u : (Nat → Int32) × (Nat → Int32) => [(r, .inr (2, [.int r_told, .int r_strands, .int r_chairs, .int r_sitters, .ref r_atoldCane, .ref r_aheight, .ref r_astrandOf, .ref r_achairOf, .ref r_aweight, .ref r_acane, .int r_sits, .int r_dropped, .int r_minute, .ref r_aload, .ref r_aheads, .int r_held, .int r_heldDown])), (r_astrandOf, hcI k 8 r_rstrandOf), (r_achairOf, hcI k 8 r_rchairOf), (r_aweight, hcI k 8 r_rweight), (r_aload, hcI k 4 (u.1)), (r_aheads, hcI k 4 (u.2))]) 0 0 := by
  have h_r_told_l := h_r_told.1
  have h_r_told_u := h_r_told.2
  have h_r_strands_l := h_r_strands.1
  have h_r_strands_u := h_r_strands.2
  have h_r_chairs_l := h_r_chairs.1
  have h_r_chairs_u := h_r_chairs.2
  have h_r_sitters_l := h_r_sitters.1
  have h_r_sitters_u := h_r_sitters.2
  refine CtV.mk (cc := cX3_weigh) (maxL := 3) (ret := none) (by decide) rfl (Nat.le_of_ble_eq_true rfl) ?_
  intro p e s m below meth c A ls E hP hD hS hl
  obtain ⟨hx, hb, hr, hml, hown, hts, hlocks, hin, hG, hA⟩ := E
  have hown : s.vm.findClass RX3 = some m.cls := hown
  have in3 : ∀ w ∈ u_ws RX3 TX3 17, w ∈ wsX3_weigh := fun _ h => List.mem_cons_of_mem _ (List.mem_append_right _ h)
  have hl : lv_has ls 3 [(0, .ref r)] := hl
  refine lv_aload_n hx hb dX3_weigh_0 rfl (lv_at hl 0 rfl) ?_
  refine va_get (D := D) (ci := 2) (v := .ref r_aload) (C := RX3) (T := TX3) (N := 17) hx hb hts in3 hown hG.1 hP 0 rfl rfl 13 (by decide) (hts (.fieldLink RX3 53 "ChairCane$Room" "load" "[I") (by decide +kernel)) (fun _ h9 => h9) rfl dX3_weigh_1 ?_
  refine lv_iconst (v := 0) hx hb dX3_weigh_4 (by decide) ?_
  refine hc_Sv (As := [.ref r_aload, .int 0]) (rest := []) (n := 2) (wr := [(r, .inr (2, [.int r_told, .int r_strands, .int r_chairs, .int r_sitters, .ref r_atoldCane, .ref r_aheight, .ref r_astrandOf, .ref r_achairOf, .ref r_aweight, .ref r_acane, .int r_sits, .int r_dropped, .int r_minute, .ref r_aload, .ref r_aheads, .int r_held, .int r_heldDown])), (r_astrandOf, hcI k 8 r_rstrandOf), (r_achairOf, hcI k 8 r_rchairOf), (r_aweight, hcI k 8 r_rweight), (r_aheads, hcI k 4 r_rheads)]) hx hb hml hown hts hG hA hP hD hS hl.1 [4] [0, 1, 2, 3, 5] (i_J7_fill_53178 l D k _ 0 r_aload r_rload ) gX3_weigh_J7_fill_53178 rfl ⟨rfl, rfl, Nat.le_of_ble_eq_true rfl, Nat.le_of_ble_eq_true rfl⟩ (by decide +kernel) rfl rfl ⟨by decide, by decide, by decide⟩ ⟨rfl, rfl, Nat.le_of_ble_eq_true rfl, Nat.le_of_ble_eq_true rfl, Nat.le_of_ble_eq_true rfl⟩ dX3_weigh_5 (fun u1 H locs hw hP hD hS => ?_)
  obtain ⟨w3, rfl⟩ : ∃ z, z = u1 := ⟨_, rfl⟩
  have hP : va_P D vwCl ([(r, .inr (2, [.int r_told, .int r_strands, .int r_chairs, .int r_sitters, .ref r_atoldCane, .ref r_aheight, .ref r_astrandOf, .ref r_achairOf, .ref r_aweight, .ref r_acane, .int r_sits, .int r_dropped, .int r_minute, .ref r_aload, .ref r_aheads, .int r_held, .int r_heldDown])), (r_astrandOf, hcI k 8 r_rstrandOf), (r_achairOf, hcI k 8 r_rchairOf), (r_aweight, hcI k 8 r_rweight), (r_aheads, hcI k 4 r_rheads), (r_aload, hcI k 4 w3)]) H := hP
  have hD : va_D A ([(r, .inr (2, [.int r_told, .int r_strands, .int r_chairs, .int r_sitters, .ref r_atoldCane, .ref r_aheight, .ref r_astrandOf, .ref r_achairOf, .ref r_aweight, .ref r_acane, .int r_sits, .int r_dropped, .int r_minute, .ref r_aload, .ref r_aheads, .int r_held, .int r_heldDown])), (r_astrandOf, hcI k 8 r_rstrandOf), (r_achairOf, hcI k 8 r_rchairOf), (r_aweight, hcI k 8 r_rweight), (r_aheads, hcI k 4 r_rheads), (r_aload, hcI k 4 w3)]) := hD
  refine lv_aload_n hx hb dX3_weigh_8 rfl (lv_at hl 0 rfl) ?_
  refine va_get (D := D) (ci := 2) (v := .ref r_aheads) (C := RX3) (T := TX3) (N := 17) hx hb hts in3 hown hG.1 hP 0 rfl rfl 14 (by decide) (hts (.fieldLink RX3 56 "ChairCane$Room" "heads" "[I") (by decide +kernel)) (fun _ h9 => h9) rfl dX3_weigh_9 ?_
  refine lv_iconst (v := 0) hx hb dX3_weigh_12 (by decide) ?_
  refine hc_Sv (As := [.ref r_aheads, .int 0]) (rest := []) (n := 2) (wr := [(r, .inr (2, [.int r_told, .int r_strands, .int r_chairs, .int r_sitters, .ref r_atoldCane, .ref r_aheight, .ref r_astrandOf, .ref r_achairOf, .ref r_aweight, .ref r_acane, .int r_sits, .int r_dropped, .int r_minute, .ref r_aload, .ref r_aheads, .int r_held, .int r_heldDown])), (r_astrandOf, hcI k 8 r_rstrandOf), (r_achairOf, hcI k 8 r_rchairOf), (r_aweight, hcI k 8 r_rweight), (r_aload, hcI k 4 w3)]) hx hb hml hown hts hG hA hP hD hS hl.1 [4] [0, 1, 2, 3, 5] (i_J7_fill_53178 l D k _ 0 r_aheads r_rheads ) gX3_weigh_J7_fill_53178 rfl ⟨rfl, rfl, Nat.le_of_ble_eq_true rfl, Nat.le_of_ble_eq_true rfl⟩ (by decide +kernel) rfl rfl ⟨by decide, by decide, by decide⟩ ⟨rfl, rfl, Nat.le_of_ble_eq_true rfl, Nat.le_of_ble_eq_true rfl, Nat.le_of_ble_eq_true rfl⟩ dX3_weigh_13 (fun u4 H locs hw hP hD hS => ?_)
  obtain ⟨w6, rfl⟩ : ∃ z, z = u4 := ⟨_, rfl⟩
  have hP : va_P D vwCl ([(r, .inr (2, [.int r_told, .int r_strands, .int r_chairs, .int r_sitters, .ref r_atoldCane, .ref r_aheight, .ref r_astrandOf, .ref r_achairOf, .ref r_aweight, .ref r_acane, .int r_sits, .int r_dropped, .int r_minute, .ref r_aload, .ref r_aheads, .int r_held, .int r_heldDown])), (r_astrandOf, hcI k 8 r_rstrandOf), (r_achairOf, hcI k 8 r_rchairOf), (r_aweight, hcI k 8 r_rweight), (r_aload, hcI k 4 w3), (r_aheads, hcI k 4 w6)]) H := hP
  have hD : va_D A ([(r, .inr (2, [.int r_told, .int r_strands, .int r_chairs, .int r_sitters, .ref r_atoldCane, .ref r_aheight, .ref r_astrandOf, .ref r_achairOf, .ref r_aweight, .ref r_acane, .int r_sits, .int r_dropped, .int r_minute, .ref r_aload, .ref r_aheads, .int r_held, .int r_heldDown])), (r_astrandOf, hcI k 8 r_rstrandOf), (r_achairOf, hcI k 8 r_rchairOf), (r_aweight, hcI k 8 r_rweight), (r_aload, hcI k 4 w3), (r_aheads, hcI k 4 w6)]) := hD
  refine lv_iconst (v := 0) hx hb dX3_weigh_16 (by decide) ?_
  refine lv_istore_n (lv' := [(1, .int 0), (0, .ref r)]) hx hb dX3_weigh_17 rfl hl (by decide) rfl (fun ls hl => ?_)
  have loop7 : ∀ (fu : Nat) (L1_7 : Int32) (g_7r_aload : Nat → Int32) (g_7r_aheads : Nat → Int32), iv (0) (8) L1_7 → 8 - L1_7.toInt < (fu : Int) → ∀ (H : Heap) (locs : List Loc) (ls : Array Slot), va_P D vwCl ([(r, .inr (2, [.int r_told, .int r_strands, .int r_chairs, .int r_sitters, .ref r_atoldCane, .ref r_aheight, .ref r_astrandOf, .ref r_achairOf, .ref r_aweight, .ref r_acane, .int r_sits, .int r_dropped, .int r_minute, .ref r_aload, .ref r_aheads, .int r_held, .int r_heldDown])), (r_astrandOf, hcI k 8 r_rstrandOf), (r_achairOf, hcI k 8 r_rchairOf), (r_aweight, hcI k 8 r_rweight), (r_aload, hcI k 4 g_7r_aload), (r_aheads, hcI k 4 g_7r_aheads)]) H → va_D A ([(r, .inr (2, [.int r_told, .int r_strands, .int r_chairs, .int r_sitters, .ref r_atoldCane, .ref r_aheight, .ref r_astrandOf, .ref r_achairOf, .ref r_aweight, .ref r_acane, .int r_sits, .int r_dropped, .int r_minute, .ref r_aload, .ref r_aheads, .int r_held, .int r_heldDown])), (r_astrandOf, hcI k 8 r_rstrandOf), (r_achairOf, hcI k 8 r_rchairOf), (r_aweight, hcI k 8 r_rweight), (r_aload, hcI k 4 g_7r_aload), (r_aheads, hcI k 4 g_7r_aheads)]) → va_S A s.heap H locs → lv_has ls 3 [(1, .int L1_7), (0, .ref r)] → W p l e (rmK 2 0 0) s m (List.toArray [.ref r]) below meth c H locs 0 0 (MQ below (va_Qv (fun u : (Nat → Int32) × (Nat → Int32) => True) (hcB D (fun u : (Nat → Int32) × (Nat → Int32) => [(r, .inr (2, [.int r_told, .int r_strands, .int r_chairs, .int r_sitters, .ref r_atoldCane, .ref r_aheight, .ref r_astrandOf, .ref r_achairOf, .ref r_aweight, .ref r_acane, .int r_sits, .int r_dropped, .int r_minute, .ref r_aload, .ref r_aheads, .int r_held, .int r_heldDown])), (r_astrandOf, hcI k 8 r_rstrandOf), (r_achairOf, hcI k 8 r_rchairOf), (r_aweight, hcI k 8 r_rweight), (r_aload, hcI k 4 (u.1)), (r_aheads, hcI k 4 (u.2))]) A) A) (List.toArray [.ref r]) s 0 0 A) (F0 m 18 ls []) := by
    intro fu
    induction fu with
    | zero =>
      intro L1_7 g_7r_aload g_7r_aheads bL1_7 hm
      have bL1_7_l := bL1_7.1
      have bL1_7_u := bL1_7.2
      exact absurd hm (by omega)
    | succ fu ih7 =>
      intro L1_7 g_7r_aload g_7r_aheads bL1_7 hm H locs ls hP hD hS hl
      have bL1_7_l := bL1_7.1
      have bL1_7_u := bL1_7.2
      refine lv_iload_n hx hb dX3_weigh_18 rfl (lv_at hl 0 rfl) ?_
      refine lv_aload_n hx hb dX3_weigh_19 rfl (lv_at hl 1 rfl) ?_
      refine va_get (D := D) (ci := 2) (v := .int r_sitters) (C := RX3) (T := TX3) (N := 17) hx hb hts in3 hown hG.1 hP 0 rfl rfl 3 (by decide) (hts (.fieldLink RX3 22 "ChairCane$Room" "sitters" "I") (by decide +kernel)) (fun _ h9 => h9) rfl dX3_weigh_20 ?_
      refine lv_icmp_ge (tgt := 77) hx hb dX3_weigh_23 (by decide) (fun c8 => ?_) (fun c8 => ?_)
      · have fc8 := cx_ge_t (a := L1_7.toInt) (b := r_sitters.toInt) rfl rfl c8
        exact hc_endV hx hb hr hlocks (g_7r_aload, g_7r_aheads) trivial hP hD hS dX3_weigh_77
      · have fc8 := cx_ge_f (a := L1_7.toInt) (b := r_sitters.toInt) rfl rfl c8
        refine lv_aload_n hx hb dX3_weigh_26 rfl (lv_at hl 1 rfl) ?_
        refine lv_iload_n hx hb dX3_weigh_27 rfl (lv_at hl 0 rfl) ?_
        refine hc_Vi (As := [.int L1_7]) (rest := []) (n := 1) (wr := [(r_astrandOf, hcI k 8 r_rstrandOf), (r_achairOf, hcI k 8 r_rchairOf), (r_aweight, hcI k 8 r_rweight), (r_aload, hcI k 4 g_7r_aload), (r_aheads, hcI k 4 g_7r_aheads)]) hx hb hml hown hts hG hA hP hD hS hl.1 [0] [1, 2, 3, 4, 5] (i_X3_isDown l D k _ L1_7 r r_told r_strands r_chairs r_sitters r_atoldCane r_aheight r_astrandOf r_achairOf r_aweight r_acane r_sits r_dropped r_minute r_aload r_aheads r_held r_heldDown ⟨by omega, by omega⟩ ⟨by omega, by omega⟩ ⟨by omega, by omega⟩ ⟨by omega, by omega⟩) (ci := 2) (q0 := 0) rfl rfl gX3_weigh_X3_isDown rfl ⟨rfl, rfl, Nat.le_of_ble_eq_true rfl, Nat.le_of_ble_eq_true rfl⟩ (by decide +kernel) rfl rfl ⟨by decide, by decide, by decide⟩ ⟨rfl, rfl, Nat.le_of_ble_eq_true rfl, Nat.le_of_ble_eq_true rfl, Nat.le_of_ble_eq_true rfl⟩ dX3_weigh_28 (fun r10 u9 H locs hw hP hD hS => ?_)
        have hP : va_P D vwCl ([(r_astrandOf, hcI k 8 r_rstrandOf), (r_achairOf, hcI k 8 r_rchairOf), (r_aweight, hcI k 8 r_rweight), (r_aload, hcI k 4 g_7r_aload), (r_aheads, hcI k 4 g_7r_aheads), (r, .inr (2, [.int r_told, .int r_strands, .int r_chairs, .int r_sitters, .ref r_atoldCane, .ref r_aheight, .ref r_astrandOf, .ref r_achairOf, .ref r_aweight, .ref r_acane, .int r_sits, .int r_dropped, .int r_minute, .ref r_aload, .ref r_aheads, .int r_held, .int r_heldDown]))]) H := hP
        have hD : va_D A ([(r_astrandOf, hcI k 8 r_rstrandOf), (r_achairOf, hcI k 8 r_rchairOf), (r_aweight, hcI k 8 r_rweight), (r_aload, hcI k 4 g_7r_aload), (r_aheads, hcI k 4 g_7r_aheads), (r, .inr (2, [.int r_told, .int r_strands, .int r_chairs, .int r_sitters, .ref r_atoldCane, .ref r_aheight, .ref r_astrandOf, .ref r_achairOf, .ref r_aweight, .ref r_acane, .int r_sits, .int r_dropped, .int r_minute, .ref r_aload, .ref r_aheads, .int r_held, .int r_heldDown]))]) := hD
        obtain ⟨br10, rel11⟩ := hw
        have br10 : iv (0) (1) r10 := br10
        have br10_l := br10.1
        have br10_u := br10.2
        refine lv_if_eq (tgt := 71) hx hb dX3_weigh_31 (by decide) (fun c12 => ?_) (fun c12 => ?_)
        · have fc12 := cx_eq_t (a := r10.toInt) (b := 0) rfl (by decide) c12
          obtain ⟨z13, ez13⟩ : ∃ z : Int32, z = L1_7 + 1 := ⟨_, rfl⟩
          have tz13 : z13.toInt = L1_7.toInt + (1) := ai_add rfl (by decide) ez13 (by omega) (by omega)
          refine lv_iinc (v := z13) (lv' := [(1, .int z13), (0, .ref r)]) hx hb dX3_weigh_71 hl (k := 0) rfl (by rw [ez13]; rfl) (by decide) rfl (fun ls hl => ?_)
          refine lv_goto (tgt := 18) hx hb dX3_weigh_74 (by decide) ?_
          exact ih7 z13 g_7r_aload g_7r_aheads ⟨by omega, by omega⟩ (by omega) _ _ _ (hP.sub [5, 0, 1, 2, 3, 4] rfl) (hD.sub [5, 0, 1, 2, 3, 4] (by decide) rfl) hS (lv_sub hl [0, 1] rfl)
        · have fc12 := cx_eq_f (a := r10.toInt) (b := 0) rfl (by decide) c12
          refine lv_aload_n hx hb dX3_weigh_34 rfl (lv_at hl 1 rfl) ?_
          refine va_get (D := D) (ci := 2) (v := .ref r_astrandOf) (C := RX3) (T := TX3) (N := 17) hx hb hts in3 hown hG.1 hP 5 rfl rfl 6 (by decide) (hts (.fieldLink RX3 32 "ChairCane$Room" "strandOf" "[I") (by decide +kernel)) (fun _ h9 => h9) rfl dX3_weigh_35 ?_
          refine lv_aload_n hx hb dX3_weigh_38 rfl (lv_at hl 1 rfl) ?_
          refine va_get (D := D) (ci := 2) (v := .ref r_achairOf) (C := RX3) (T := TX3) (N := 17) hx hb hts in3 hown hG.1 hP 5 rfl rfl 7 (by decide) (hts (.fieldLink RX3 35 "ChairCane$Room" "chairOf" "[I") (by decide +kernel)) (fun _ h9 => h9) rfl dX3_weigh_39 ?_
          refine lv_iload_n hx hb dX3_weigh_42 rfl (lv_at hl 0 rfl) ?_
          refine va_iald hx hb hG.1 hP 1 0 rfl rfl (vp_in_iff.mpr ⟨by omega, by omega⟩) dX3_weigh_43 ?_
          refine lv_topi (fun z14 ez14 => ?_)
          have bz14 : iv (0) (7) z14 := by rw [ez14]; exact h_r_rchairOf _
          have bz14_l := bz14.1
          have bz14_u := bz14.2
          refine va_iald hx hb hG.1 hP 0 0 rfl rfl (vp_in_iff.mpr ⟨by omega, by omega⟩) dX3_weigh_44 ?_
          refine lv_topi (fun z15 ez15 => ?_)
          have bz15 : iv (0) (3) z15 := by rw [ez15]; exact h_r_rstrandOf _
          have bz15_l := bz15.1
          have bz15_u := bz15.2
          refine lv_istore_n (lv' := [(2, .int z15), (1, .int L1_7), (0, .ref r)]) hx hb dX3_weigh_45 rfl hl (by decide) rfl (fun ls hl => ?_)
          refine lv_aload_n hx hb dX3_weigh_46 rfl (lv_at hl 2 rfl) ?_
          refine va_get (D := D) (ci := 2) (v := .ref r_aload) (C := RX3) (T := TX3) (N := 17) hx hb hts in3 hown hG.1 hP 5 rfl rfl 13 (by decide) (hts (.fieldLink RX3 53 "ChairCane$Room" "load" "[I") (by decide +kernel)) (fun _ h9 => h9) rfl dX3_weigh_47 ?_
          refine lv_iload_n hx hb dX3_weigh_50 rfl (lv_at hl 0 rfl) ?_
          refine lv_dup2_11 hx hb dX3_weigh_51 rfl rfl ?_
          refine va_iald hx hb hG.1 hP 3 0 rfl rfl (vp_in_iff.mpr ⟨by omega, by omega⟩) dX3_weigh_52 ?_
          refine lv_topi (fun z16 ez16 => ?_)
          refine lv_aload_n hx hb dX3_weigh_53 rfl (lv_at hl 2 rfl) ?_
          refine va_get (D := D) (ci := 2) (v := .ref r_aweight) (C := RX3) (T := TX3) (N := 17) hx hb hts in3 hown hG.1 hP 5 rfl rfl 8 (by decide) (hts (.fieldLink RX3 38 "ChairCane$Room" "weight" "[I") (by decide +kernel)) (fun _ h9 => h9) rfl dX3_weigh_54 ?_
          refine lv_iload_n hx hb dX3_weigh_57 rfl (lv_at hl 1 rfl) ?_
          refine va_iald hx hb hG.1 hP 2 0 rfl rfl (vp_in_iff.mpr ⟨by omega, by omega⟩) dX3_weigh_58 ?_
          refine lv_topi (fun z17 ez17 => ?_)
          refine lv_iadd hx hb dX3_weigh_59 ?_
          refine lv_topi (fun z18 ez18 => ?_)
          refine va_iast hx hb hG.1 hP hD hS 3 0 rfl rfl (vp_in_iff.mpr ⟨by omega, by omega⟩) dX3_weigh_60 (fun H locs hP hD hS => ?_)
          obtain ⟨f19, ef19⟩ : ∃ f, f = upd g_7r_aload (Int32.toNatClampNeg z15) (z18) := ⟨_, rfl⟩
          rw [← ef19] at hP hD
          have hP : va_P D vwCl ([(r_astrandOf, hcI k 8 r_rstrandOf), (r_achairOf, hcI k 8 r_rchairOf), (r_aweight, hcI k 8 r_rweight), (r_aload, hcI k 4 f19), (r_aheads, hcI k 4 g_7r_aheads), (r, .inr (2, [.int r_told, .int r_strands, .int r_chairs, .int r_sitters, .ref r_atoldCane, .ref r_aheight, .ref r_astrandOf, .ref r_achairOf, .ref r_aweight, .ref r_acane, .int r_sits, .int r_dropped, .int r_minute, .ref r_aload, .ref r_aheads, .int r_held, .int r_heldDown]))]) H := hP
          have hD : va_D A ([(r_astrandOf, hcI k 8 r_rstrandOf), (r_achairOf, hcI k 8 r_rchairOf), (r_aweight, hcI k 8 r_rweight), (r_aload, hcI k 4 f19), (r_aheads, hcI k 4 g_7r_aheads), (r, .inr (2, [.int r_told, .int r_strands, .int r_chairs, .int r_sitters, .ref r_atoldCane, .ref r_aheight, .ref r_astrandOf, .ref r_achairOf, .ref r_aweight, .ref r_acane, .int r_sits, .int r_dropped, .int r_minute, .ref r_aload, .ref r_aheads, .int r_held, .int r_heldDown]))]) := hD
          refine lv_aload_n hx hb dX3_weigh_61 rfl (lv_at hl 2 rfl) ?_
          refine va_get (D := D) (ci := 2) (v := .ref r_aheads) (C := RX3) (T := TX3) (N := 17) hx hb hts in3 hown hG.1 hP 5 rfl rfl 14 (by decide) (hts (.fieldLink RX3 56 "ChairCane$Room" "heads" "[I") (by decide +kernel)) (fun _ h9 => h9) rfl dX3_weigh_62 ?_
          refine lv_iload_n hx hb dX3_weigh_65 rfl (lv_at hl 0 rfl) ?_
          refine lv_dup2_11 hx hb dX3_weigh_66 rfl rfl ?_
          refine va_iald hx hb hG.1 hP 4 0 rfl rfl (vp_in_iff.mpr ⟨by omega, by omega⟩) dX3_weigh_67 ?_
          refine lv_topi (fun z20 ez20 => ?_)
          refine lv_iconst (v := 1) hx hb dX3_weigh_68 (by decide) ?_
          refine lv_iadd hx hb dX3_weigh_69 ?_
          refine lv_topi (fun z21 ez21 => ?_)
          refine va_iast hx hb hG.1 hP hD hS 4 0 rfl rfl (vp_in_iff.mpr ⟨by omega, by omega⟩) dX3_weigh_70 (fun H locs hP hD hS => ?_)
          obtain ⟨f22, ef22⟩ : ∃ f, f = upd g_7r_aheads (Int32.toNatClampNeg z15) (z21) := ⟨_, rfl⟩
          rw [← ef22] at hP hD
          have hP : va_P D vwCl ([(r_astrandOf, hcI k 8 r_rstrandOf), (r_achairOf, hcI k 8 r_rchairOf), (r_aweight, hcI k 8 r_rweight), (r_aload, hcI k 4 f19), (r_aheads, hcI k 4 f22), (r, .inr (2, [.int r_told, .int r_strands, .int r_chairs, .int r_sitters, .ref r_atoldCane, .ref r_aheight, .ref r_astrandOf, .ref r_achairOf, .ref r_aweight, .ref r_acane, .int r_sits, .int r_dropped, .int r_minute, .ref r_aload, .ref r_aheads, .int r_held, .int r_heldDown]))]) H := hP
          have hD : va_D A ([(r_astrandOf, hcI k 8 r_rstrandOf), (r_achairOf, hcI k 8 r_rchairOf), (r_aweight, hcI k 8 r_rweight), (r_aload, hcI k 4 f19), (r_aheads, hcI k 4 f22), (r, .inr (2, [.int r_told, .int r_strands, .int r_chairs, .int r_sitters, .ref r_atoldCane, .ref r_aheight, .ref r_astrandOf, .ref r_achairOf, .ref r_aweight, .ref r_acane, .int r_sits, .int r_dropped, .int r_minute, .ref r_aload, .ref r_aheads, .int r_held, .int r_heldDown]))]) := hD
          obtain ⟨z23, ez23⟩ : ∃ z : Int32, z = L1_7 + 1 := ⟨_, rfl⟩
          have tz23 : z23.toInt = L1_7.toInt + (1) := ai_add rfl (by decide) ez23 (by omega) (by omega)
          refine lv_iinc (v := z23) (lv' := [(1, .int z23), (2, .int z15), (0, .ref r)]) hx hb dX3_weigh_71 hl (k := 1) rfl (by rw [ez23]; rfl) (by decide) rfl (fun ls hl => ?_)
          refine lv_goto (tgt := 18) hx hb dX3_weigh_74 (by decide) ?_
          exact ih7 z23 f19 f22 ⟨by omega, by omega⟩ (by omega) _ _ _ (hP.sub [5, 0, 1, 2, 3, 4] rfl) (hD.sub [5, 0, 1, 2, 3, 4] (by decide) rfl) hS (lv_sub hl [0, 2] rfl)
  exact loop7 100 0 w3 w6 (iv_lit (by decide) (by decide)) (by have q0 : (0 : Int32).toInt = 0 := (by decide); omega) _ _ _ hP hD hS hl
set_option maxHeartbeats 4000000 in
set_option maxRecDepth 100000 in
theorem i_X3_givenOut (l : Launch) (D : va_G) (k : Nat → ClassId) (sz : Nat) (r : Nat) (r_told : Int32) (r_strands : Int32) (r_chairs : Int32) (r_sitters : Int32) (r_atoldCane : Nat) (r_aheight : Nat) (r_astrandOf : Nat) (r_achairOf : Nat) (r_aweight : Nat) (r_acane : Nat) (r_sits : Int32) (r_dropped : Int32) (r_minute : Int32) (r_aload : Nat) (r_aheads : Nat) (r_held : Int32) (r_heldDown : Int32) (r_rheight : Nat → Int32) (r_rstrandOf : Nat → Int32) (r_rchairOf : Nat → Int32) (r_rweight : Nat → Int32) (r_rcane : Nat → Int32) (r_rload : Nat → Int32) (h_r_told : iv (0) (1) r_told) (h_r_strands : iv (0) (4) r_strands) (h_r_chairs : iv (0) (8) r_chairs) (h_r_sitters : iv (0) (8) r_sitters) (h_r_rstrandOf : rowIn (0) (3) r_rstrandOf) (h_r_rchairOf : rowIn (0) (7) r_rchairOf) : CtI l yX3_givenOut wsX3_givenOut (rmK 2 0 0) [.ref r] D k sz ([(r, .inr (2, [.int r_told, .int r_strands, .int r_chairs, .int r_sitters, .ref r_atoldCane, .ref r_aheight, .ref r_astrandOf, .ref r_achairOf, .ref r_aweight, .ref r_acane, .int r_sits, .int r_dropped, .int r_minute, .ref r_aload, .ref r_aheads, .int r_held, .int r_heldDown])), (r_aheight, hcI k 8 r_rheight), (r_astrandOf, hcI k 8 r_rstrandOf), (r_achairOf, hcI k 8 r_rchairOf), (r_aweight, hcI k 8 r_rweight), (r_acane, hcI k 4 r_rcane), (r_aload, hcI k 4 r_rload)]) (fun (r : Int32) (u : Unit) => True) (fun u : Unit => [(r, .inr (2, [.int r_told, .int r_strands, .int r_chairs, .int r_sitters, .ref r_atoldCane, .ref r_aheight, .ref r_astrandOf, .ref r_achairOf, .ref r_aweight, .ref r_acane, .int r_sits, .int r_dropped, .int r_minute, .ref r_aload, .ref r_aheads, .int r_held, .int r_heldDown])), (r_aheight, hcI k 8 r_rheight), (r_astrandOf, hcI k 8 r_rstrandOf), (r_achairOf, hcI k 8 r_rchairOf), (r_aweight, hcI k 8 r_rweight), (r_acane, hcI k 4 r_rcane), (r_aload, hcI k 4 r_rload)]) 0 0 := by
  have h_r_told_l := h_r_told.1
  have h_r_told_u := h_r_told.2
  have h_r_strands_l := h_r_strands.1
  have h_r_strands_u := h_r_strands.2
  have h_r_chairs_l := h_r_chairs.1
  have h_r_chairs_u := h_r_chairs.2
  have h_r_sitters_l := h_r_sitters.1
  have h_r_sitters_u := h_r_sitters.2
  refine CtI.mk (cc := cX3_givenOut) (maxL := 3) (ret := (some .int)) (by decide) rfl (Nat.le_of_ble_eq_true rfl) ?_
  intro p e s m below meth c A ls E hP hD hS hl
  obtain ⟨hx, hb, hr, hml, hown, hts, hlocks, hin, hG, hA⟩ := E
  have hown : s.vm.findClass RX3 = some m.cls := hown
  have in3 : ∀ w ∈ u_ws RX3 TX3 17, w ∈ wsX3_givenOut := fun _ h => List.mem_cons_of_mem _ (List.mem_append_right _ h)
  have hl : lv_has ls 3 [(0, .ref r)] := hl
  refine lv_iconst (v := 0) hx hb dX3_givenOut_0 (by decide) ?_
  refine lv_istore_n (lv' := [(1, .int 0), (0, .ref r)]) hx hb dX3_givenOut_1 rfl hl (by decide) rfl (fun ls hl => ?_)
  refine lv_iconst (v := 0) hx hb dX3_givenOut_2 (by decide) ?_
  refine lv_istore_n (lv' := [(2, .int 0), (1, .int 0), (0, .ref r)]) hx hb dX3_givenOut_3 rfl hl (by decide) rfl (fun ls hl => ?_)
  have loop1 : ∀ (fu : Nat) (L1_1 : Int32) (L2_1 : Int32), iv (0) (8) L2_1 → 8 - L2_1.toInt < (fu : Int) → ∀ (H : Heap) (locs : List Loc) (ls : Array Slot), va_P D vwCl ([(r, .inr (2, [.int r_told, .int r_strands, .int r_chairs, .int r_sitters, .ref r_atoldCane, .ref r_aheight, .ref r_astrandOf, .ref r_achairOf, .ref r_aweight, .ref r_acane, .int r_sits, .int r_dropped, .int r_minute, .ref r_aload, .ref r_aheads, .int r_held, .int r_heldDown])), (r_aheight, hcI k 8 r_rheight), (r_astrandOf, hcI k 8 r_rstrandOf), (r_achairOf, hcI k 8 r_rchairOf), (r_aweight, hcI k 8 r_rweight), (r_acane, hcI k 4 r_rcane), (r_aload, hcI k 4 r_rload)]) H → va_D A ([(r, .inr (2, [.int r_told, .int r_strands, .int r_chairs, .int r_sitters, .ref r_atoldCane, .ref r_aheight, .ref r_astrandOf, .ref r_achairOf, .ref r_aweight, .ref r_acane, .int r_sits, .int r_dropped, .int r_minute, .ref r_aload, .ref r_aheads, .int r_held, .int r_heldDown])), (r_aheight, hcI k 8 r_rheight), (r_astrandOf, hcI k 8 r_rstrandOf), (r_achairOf, hcI k 8 r_rchairOf), (r_aweight, hcI k 8 r_rweight), (r_acane, hcI k 4 r_rcane), (r_aload, hcI k 4 r_rload)]) → va_S A s.heap H locs → lv_has ls 3 [(2, .int L2_1), (1, .int L1_1), (0, .ref r)] → W p l e (rmK 2 0 0) s m (List.toArray [.ref r]) below meth c H locs 0 0 (MQ below (va_Qi (fun (r : Int32) (u : Unit) => True) (hcB D (fun u : Unit => [(r, .inr (2, [.int r_told, .int r_strands, .int r_chairs, .int r_sitters, .ref r_atoldCane, .ref r_aheight, .ref r_astrandOf, .ref r_achairOf, .ref r_aweight, .ref r_acane, .int r_sits, .int r_dropped, .int r_minute, .ref r_aload, .ref r_aheads, .int r_held, .int r_heldDown])), (r_aheight, hcI k 8 r_rheight), (r_astrandOf, hcI k 8 r_rstrandOf), (r_achairOf, hcI k 8 r_rchairOf), (r_aweight, hcI k 8 r_rweight), (r_acane, hcI k 4 r_rcane), (r_aload, hcI k 4 r_rload)]) A) A) (List.toArray [.ref r]) s 0 0 A) (F0 m 4 ls []) := by
    intro fu
    induction fu with
    | zero =>
      intro L1_1 L2_1 bL2_1 hm
      have bL2_1_l := bL2_1.1
      have bL2_1_u := bL2_1.2
      exact absurd hm (by omega)
    | succ fu ih1 =>
      intro L1_1 L2_1 bL2_1 hm H locs ls hP hD hS hl
      have bL2_1_l := bL2_1.1
      have bL2_1_u := bL2_1.2
      refine lv_iload_n hx hb dX3_givenOut_4 rfl (lv_at hl 0 rfl) ?_
      refine lv_aload_n hx hb dX3_givenOut_5 rfl (lv_at hl 2 rfl) ?_
      refine va_get (D := D) (ci := 2) (v := .int r_sitters) (C := RX3) (T := TX3) (N := 17) hx hb hts in3 hown hG.1 hP 0 rfl rfl 3 (by decide) (hts (.fieldLink RX3 22 "ChairCane$Room" "sitters" "I") (by decide +kernel)) (fun _ h9 => h9) rfl dX3_givenOut_6 ?_
      refine lv_icmp_ge (tgt := 43) hx hb dX3_givenOut_9 (by decide) (fun c2 => ?_) (fun c2 => ?_)
      · have fc2 := cx_ge_t (a := L2_1.toInt) (b := r_sitters.toInt) rfl rfl c2
        refine lv_iload_n hx hb dX3_givenOut_43 rfl (lv_at hl 1 rfl) ?_
        exact hc_end hx hb hr hlocks () trivial hP hD hS dX3_givenOut_44
      · have fc2 := cx_ge_f (a := L2_1.toInt) (b := r_sitters.toInt) rfl rfl c2
        refine lv_aload_n hx hb dX3_givenOut_12 rfl (lv_at hl 2 rfl) ?_
        refine lv_iload_n hx hb dX3_givenOut_13 rfl (lv_at hl 0 rfl) ?_
        refine hc_Vi (As := [.int L2_1]) (rest := []) (n := 1) (wr := [(r_aheight, hcI k 8 r_rheight)]) hx hb hml hown hts hG hA hP hD hS hl.1 [0, 2, 3, 4, 5, 6] [1] (i_X3_givesUnder l D k _ L2_1 r r_told r_strands r_chairs r_sitters r_atoldCane r_aheight r_astrandOf r_achairOf r_aweight r_acane r_sits r_dropped r_minute r_aload r_aheads r_held r_heldDown r_rstrandOf r_rchairOf r_rweight r_rcane r_rload ⟨by omega, by omega⟩ ⟨by omega, by omega⟩ ⟨by omega, by omega⟩ ⟨by omega, by omega⟩ h_r_rstrandOf h_r_rchairOf) (ci := 2) (q0 := 0) rfl rfl gX3_givenOut_X3_givesUnder rfl ⟨rfl, rfl, Nat.le_of_ble_eq_true rfl, Nat.le_of_ble_eq_true rfl⟩ (by decide +kernel) rfl rfl ⟨by decide, by decide, by decide⟩ ⟨rfl, rfl, Nat.le_of_ble_eq_true rfl, Nat.le_of_ble_eq_true rfl, Nat.le_of_ble_eq_true rfl⟩ dX3_givenOut_14 (fun r4 u3 H locs hw hP hD hS => ?_)
        have hP : va_P D vwCl ([(r_aheight, hcI k 8 r_rheight), (r, .inr (2, [.int r_told, .int r_strands, .int r_chairs, .int r_sitters, .ref r_atoldCane, .ref r_aheight, .ref r_astrandOf, .ref r_achairOf, .ref r_aweight, .ref r_acane, .int r_sits, .int r_dropped, .int r_minute, .ref r_aload, .ref r_aheads, .int r_held, .int r_heldDown])), (r_astrandOf, hcI k 8 r_rstrandOf), (r_achairOf, hcI k 8 r_rchairOf), (r_aweight, hcI k 8 r_rweight), (r_acane, hcI k 4 r_rcane), (r_aload, hcI k 4 r_rload)]) H := hP
        have hD : va_D A ([(r_aheight, hcI k 8 r_rheight), (r, .inr (2, [.int r_told, .int r_strands, .int r_chairs, .int r_sitters, .ref r_atoldCane, .ref r_aheight, .ref r_astrandOf, .ref r_achairOf, .ref r_aweight, .ref r_acane, .int r_sits, .int r_dropped, .int r_minute, .ref r_aload, .ref r_aheads, .int r_held, .int r_heldDown])), (r_astrandOf, hcI k 8 r_rstrandOf), (r_achairOf, hcI k 8 r_rchairOf), (r_aweight, hcI k 8 r_rweight), (r_acane, hcI k 4 r_rcane), (r_aload, hcI k 4 r_rload)]) := hD
        refine lv_aload_n hx hb dX3_givenOut_17 rfl (lv_at hl 2 rfl) ?_
        refine va_get (D := D) (ci := 2) (v := .ref r_aheight) (C := RX3) (T := TX3) (N := 17) hx hb hts in3 hown hG.1 hP 1 rfl rfl 5 (by decide) (hts (.fieldLink RX3 29 "ChairCane$Room" "height" "[I") (by decide +kernel)) (fun _ h9 => h9) rfl dX3_givenOut_18 ?_
        refine lv_aload_n hx hb dX3_givenOut_21 rfl (lv_at hl 2 rfl) ?_
        refine va_get (D := D) (ci := 2) (v := .ref r_achairOf) (C := RX3) (T := TX3) (N := 17) hx hb hts in3 hown hG.1 hP 1 rfl rfl 7 (by decide) (hts (.fieldLink RX3 35 "ChairCane$Room" "chairOf" "[I") (by decide +kernel)) (fun _ h9 => h9) rfl dX3_givenOut_22 ?_
        refine lv_iload_n hx hb dX3_givenOut_25 rfl (lv_at hl 0 rfl) ?_
        refine va_iald hx hb hG.1 hP 3 0 rfl rfl (vp_in_iff.mpr ⟨by omega, by omega⟩) dX3_givenOut_26 ?_
        refine lv_topi (fun z5 ez5 => ?_)
        have bz5 : iv (0) (7) z5 := by rw [ez5]; exact h_r_rchairOf _
        have bz5_l := bz5.1
        have bz5_u := bz5.2
        refine va_iald hx hb hG.1 hP 0 0 rfl rfl (vp_in_iff.mpr ⟨by omega, by omega⟩) dX3_givenOut_27 ?_
        refine lv_topi (fun z6 ez6 => ?_)
        refine lv_icmp_lt (tgt := 37) hx hb dX3_givenOut_28 (by decide) (fun c7 => ?_) (fun c7 => ?_)
        · have fc7 := cx_lt_t (a := r4.toInt) (b := z6.toInt) rfl rfl c7
          obtain ⟨z8, ez8⟩ : ∃ z : Int32, z = L2_1 + 1 := ⟨_, rfl⟩
          have tz8 : z8.toInt = L2_1.toInt + (1) := ai_add rfl (by decide) ez8 (by omega) (by omega)
          refine lv_iinc (v := z8) (lv' := [(2, .int z8), (1, .int L1_1), (0, .ref r)]) hx hb dX3_givenOut_37 hl (k := 0) rfl (by rw [ez8]; rfl) (by decide) rfl (fun ls hl => ?_)
          refine lv_goto (tgt := 4) hx hb dX3_givenOut_40 (by decide) ?_
          exact ih1 L1_1 z8 ⟨by omega, by omega⟩ (by omega) _ _ _ (hP.sub [1, 0, 2, 3, 4, 5, 6] rfl) (hD.sub [1, 0, 2, 3, 4, 5, 6] (by decide) rfl) hS (lv_sub hl [0, 1, 2] rfl)
        · have fc7 := cx_lt_f (a := r4.toInt) (b := z6.toInt) rfl rfl c7
          refine lv_iload_n hx hb dX3_givenOut_31 rfl (lv_at hl 1 rfl) ?_
          refine lv_iconst (v := 1) hx hb dX3_givenOut_32 (by decide) ?_
          refine lv_iload_n hx hb dX3_givenOut_33 rfl (lv_at hl 0 rfl) ?_
          refine lv_ishl hx hb dX3_givenOut_34 ?_
          refine lv_topi (fun z9 ez9 => ?_)
          refine lv_ior hx hb dX3_givenOut_35 ?_
          refine lv_topi (fun z10 ez10 => ?_)
          refine lv_istore_n (lv' := [(1, .int z10), (2, .int L2_1), (0, .ref r)]) hx hb dX3_givenOut_36 rfl hl (by decide) rfl (fun ls hl => ?_)
          obtain ⟨z11, ez11⟩ : ∃ z : Int32, z = L2_1 + 1 := ⟨_, rfl⟩
          have tz11 : z11.toInt = L2_1.toInt + (1) := ai_add rfl (by decide) ez11 (by omega) (by omega)
          refine lv_iinc (v := z11) (lv' := [(2, .int z11), (1, .int z10), (0, .ref r)]) hx hb dX3_givenOut_37 hl (k := 1) rfl (by rw [ez11]; rfl) (by decide) rfl (fun ls hl => ?_)
          refine lv_goto (tgt := 4) hx hb dX3_givenOut_40 (by decide) ?_
          exact ih1 z10 z11 ⟨by omega, by omega⟩ (by omega) _ _ _ (hP.sub [1, 0, 2, 3, 4, 5, 6] rfl) (hD.sub [1, 0, 2, 3, 4, 5, 6] (by decide) rfl) hS (lv_sub hl [0, 1, 2] rfl)
  exact loop1 100 0 0 (iv_lit (by decide) (by decide)) (by have q0 : (0 : Int32).toInt = 0 := (by decide); have q1 : (0 : Int32).toInt = 0 := (by decide); omega) _ _ _ hP hD hS hl
set_option maxHeartbeats 4000000 in
set_option maxRecDepth 100000 in
theorem i_X3_bears (l : Launch) (D : va_G) (k : Nat → ClassId) (sz : Nat) (x1 : Int32) (r : Nat) (r_told : Int32) (r_strands : Int32) (r_chairs : Int32) (r_sitters : Int32) (r_atoldCane : Nat) (r_aheight : Nat) (r_astrandOf : Nat) (r_achairOf : Nat) (r_aweight : Nat) (r_acane : Nat) (r_sits : Int32) (r_dropped : Int32) (r_minute : Int32) (r_aload : Nat) (r_aheads : Nat) (r_held : Int32) (r_heldDown : Int32) (r_rheight : Nat → Int32) (r_rstrandOf : Nat → Int32) (r_rchairOf : Nat → Int32) (r_rweight : Nat → Int32) (r_rcane : Nat → Int32) (r_rload : Nat → Int32) (r_rheads : Nat → Int32) (h_r_told : iv (0) (1) r_told) (h_r_strands : iv (0) (4) r_strands) (h_r_chairs : iv (0) (8) r_chairs) (h_r_sitters : iv (0) (8) r_sitters) (h_r_rstrandOf : rowIn (0) (3) r_rstrandOf) (h_r_rchairOf : rowIn (0) (7) r_rchairOf) : CtI l yX3_bears wsX3_bears (rmK 3 0 0) [.ref r, .int x1] D k sz ([(r, .inr (2, [.int r_told, .int r_strands, .int r_chairs, .int r_sitters, .ref r_atoldCane, .ref r_aheight, .ref r_astrandOf, .ref r_achairOf, .ref r_aweight, .ref r_acane, .int r_sits, .int r_dropped, .int r_minute, .ref r_aload, .ref r_aheads, .int r_held, .int r_heldDown])), (r_aheight, hcI k 8 r_rheight), (r_astrandOf, hcI k 8 r_rstrandOf), (r_achairOf, hcI k 8 r_rchairOf), (r_aweight, hcI k 8 r_rweight), (r_acane, hcI k 4 r_rcane), (r_aload, hcI k 4 r_rload), (r_aheads, hcI k 4 r_rheads)]) (fun (r : Int32) (u : (Int32) × (Nat → Int32) × (Nat → Int32)) => iv (0) (1) r) (fun u : (Int32) × (Nat → Int32) × (Nat → Int32) => [(r, .inr (2, [.int r_told, .int r_strands, .int r_chairs, .int r_sitters, .ref r_atoldCane, .ref r_aheight, .ref r_astrandOf, .ref r_achairOf, .ref r_aweight, .ref r_acane, .int (u.1), .int r_dropped, .int r_minute, .ref r_aload, .ref r_aheads, .int r_held, .int r_heldDown])), (r_aheight, hcI k 8 r_rheight), (r_astrandOf, hcI k 8 r_rstrandOf), (r_achairOf, hcI k 8 r_rchairOf), (r_aweight, hcI k 8 r_rweight), (r_acane, hcI k 4 r_rcane), (r_aload, hcI k 4 (u.2.1)), (r_aheads, hcI k 4 (u.2.2))]) 0 0 := by
  have h_r_told_l := h_r_told.1
  have h_r_told_u := h_r_told.2
  have h_r_strands_l := h_r_strands.1
  have h_r_strands_u := h_r_strands.2
  have h_r_chairs_l := h_r_chairs.1
  have h_r_chairs_u := h_r_chairs.2
  have h_r_sitters_l := h_r_sitters.1
  have h_r_sitters_u := h_r_sitters.2
  refine CtI.mk (cc := cX3_bears) (maxL := 2) (ret := (some .boolean)) (by decide) rfl (Nat.le_of_ble_eq_true rfl) ?_
  intro p e s m below meth c A ls E hP hD hS hl
  obtain ⟨hx, hb, hr, hml, hown, hts, hlocks, hin, hG, hA⟩ := E
  have hown : s.vm.findClass RX3 = some m.cls := hown
  have in3 : ∀ w ∈ u_ws RX3 TX3 17, w ∈ wsX3_bears := fun _ h => List.mem_cons_of_mem _ (List.mem_append_right _ h)
  have hl : lv_has ls 2 [(0, .ref r), (1, .int x1)] := hl
  refine lv_aload_n hx hb dX3_bears_0 rfl (lv_at hl 0 rfl) ?_
  refine lv_iload_n hx hb dX3_bears_1 rfl (lv_at hl 1 rfl) ?_
  refine va_put (D := D) (ci := 2) (v := .int x1) (C := RX3) (T := TX3) (N := 17) hx hb hts in3 tyX3 tyX3_ok nmX3 hown hG.1 hP hD hS 0 rfl rfl 10 (by decide) (hts (.fieldLink RX3 44 "ChairCane$Room" "sits" "I") (by decide +kernel)) (fun _ h9 => h9) rfl (tyX3_ok 10 (by decide)) rfl rfl (Nat.le_of_ble_eq_true rfl) dX3_bears_2 (fun H locs hP hD hS => ?_)
  have hP : va_P D vwCl ([(r, .inr (2, [.int r_told, .int r_strands, .int r_chairs, .int r_sitters, .ref r_atoldCane, .ref r_aheight, .ref r_astrandOf, .ref r_achairOf, .ref r_aweight, .ref r_acane, .int x1, .int r_dropped, .int r_minute, .ref r_aload, .ref r_aheads, .int r_held, .int r_heldDown])), (r_aheight, hcI k 8 r_rheight), (r_astrandOf, hcI k 8 r_rstrandOf), (r_achairOf, hcI k 8 r_rchairOf), (r_aweight, hcI k 8 r_rweight), (r_acane, hcI k 4 r_rcane), (r_aload, hcI k 4 r_rload), (r_aheads, hcI k 4 r_rheads)]) H := hP
  have hD : va_D A ([(r, .inr (2, [.int r_told, .int r_strands, .int r_chairs, .int r_sitters, .ref r_atoldCane, .ref r_aheight, .ref r_astrandOf, .ref r_achairOf, .ref r_aweight, .ref r_acane, .int x1, .int r_dropped, .int r_minute, .ref r_aload, .ref r_aheads, .int r_held, .int r_heldDown])), (r_aheight, hcI k 8 r_rheight), (r_astrandOf, hcI k 8 r_rstrandOf), (r_achairOf, hcI k 8 r_rchairOf), (r_aweight, hcI k 8 r_rweight), (r_acane, hcI k 4 r_rcane), (r_aload, hcI k 4 r_rload), (r_aheads, hcI k 4 r_rheads)]) := hD
  refine lv_aload_n hx hb dX3_bears_5 rfl (lv_at hl 0 rfl) ?_
  refine hc_Vv (As := []) (rest := []) (n := 0) (wr := [(r_aheight, hcI k 8 r_rheight), (r_acane, hcI k 4 r_rcane)]) hx hb hml hown hts hG hA hP hD hS hl.1 [0, 2, 3, 4, 6, 7] [1, 5] (i_X3_weigh l D k _ r r_told r_strands r_chairs r_sitters r_atoldCane r_aheight r_astrandOf r_achairOf r_aweight r_acane x1 r_dropped r_minute r_aload r_aheads r_held r_heldDown r_rstrandOf r_rchairOf r_rweight r_rload r_rheads ⟨by omega, by omega⟩ ⟨by omega, by omega⟩ ⟨by omega, by omega⟩ ⟨by omega, by omega⟩ h_r_rstrandOf h_r_rchairOf) (ci := 2) (q0 := 0) rfl rfl gX3_bears_X3_weigh rfl ⟨rfl, rfl, Nat.le_of_ble_eq_true rfl, Nat.le_of_ble_eq_true rfl⟩ (by decide +kernel) rfl rfl ⟨by decide, by decide, by decide⟩ ⟨rfl, rfl, Nat.le_of_ble_eq_true rfl, Nat.le_of_ble_eq_true rfl, Nat.le_of_ble_eq_true rfl⟩ dX3_bears_6 (fun u1 H locs hw hP hD hS => ?_)
  obtain ⟨w3, w4⟩ := u1
  have hP : va_P D vwCl ([(r_aheight, hcI k 8 r_rheight), (r_acane, hcI k 4 r_rcane), (r, .inr (2, [.int r_told, .int r_strands, .int r_chairs, .int r_sitters, .ref r_atoldCane, .ref r_aheight, .ref r_astrandOf, .ref r_achairOf, .ref r_aweight, .ref r_acane, .int x1, .int r_dropped, .int r_minute, .ref r_aload, .ref r_aheads, .int r_held, .int r_heldDown])), (r_astrandOf, hcI k 8 r_rstrandOf), (r_achairOf, hcI k 8 r_rchairOf), (r_aweight, hcI k 8 r_rweight), (r_aload, hcI k 4 w3), (r_aheads, hcI k 4 w4)]) H := hP
  have hD : va_D A ([(r_aheight, hcI k 8 r_rheight), (r_acane, hcI k 4 r_rcane), (r, .inr (2, [.int r_told, .int r_strands, .int r_chairs, .int r_sitters, .ref r_atoldCane, .ref r_aheight, .ref r_astrandOf, .ref r_achairOf, .ref r_aweight, .ref r_acane, .int x1, .int r_dropped, .int r_minute, .ref r_aload, .ref r_aheads, .int r_held, .int r_heldDown])), (r_astrandOf, hcI k 8 r_rstrandOf), (r_achairOf, hcI k 8 r_rchairOf), (r_aweight, hcI k 8 r_rweight), (r_aload, hcI k 4 w3), (r_aheads, hcI k 4 w4)]) := hD
  refine lv_aload_n hx hb dX3_bears_9 rfl (lv_at hl 0 rfl) ?_
  refine hc_Vi (As := []) (rest := []) (n := 0) (wr := [(r_aheads, hcI k 4 w4)]) hx hb hml hown hts hG hA hP hD hS hl.1 [2, 0, 3, 4, 5, 1, 6] [7] (i_X3_givenOut l D k _ r r_told r_strands r_chairs r_sitters r_atoldCane r_aheight r_astrandOf r_achairOf r_aweight r_acane x1 r_dropped r_minute r_aload r_aheads r_held r_heldDown r_rheight r_rstrandOf r_rchairOf r_rweight r_rcane w3 ⟨by omega, by omega⟩ ⟨by omega, by omega⟩ ⟨by omega, by omega⟩ ⟨by omega, by omega⟩ h_r_rstrandOf h_r_rchairOf) (ci := 2) (q0 := 2) rfl rfl gX3_bears_X3_givenOut rfl ⟨rfl, rfl, Nat.le_of_ble_eq_true rfl, Nat.le_of_ble_eq_true rfl⟩ (by decide +kernel) rfl rfl ⟨by decide, by decide, by decide⟩ ⟨rfl, rfl, Nat.le_of_ble_eq_true rfl, Nat.le_of_ble_eq_true rfl, Nat.le_of_ble_eq_true rfl⟩ dX3_bears_10 (fun r6 u5 H locs hw hP hD hS => ?_)
  have hP : va_P D vwCl ([(r_aheads, hcI k 4 w4), (r, .inr (2, [.int r_told, .int r_strands, .int r_chairs, .int r_sitters, .ref r_atoldCane, .ref r_aheight, .ref r_astrandOf, .ref r_achairOf, .ref r_aweight, .ref r_acane, .int x1, .int r_dropped, .int r_minute, .ref r_aload, .ref r_aheads, .int r_held, .int r_heldDown])), (r_aheight, hcI k 8 r_rheight), (r_astrandOf, hcI k 8 r_rstrandOf), (r_achairOf, hcI k 8 r_rchairOf), (r_aweight, hcI k 8 r_rweight), (r_acane, hcI k 4 r_rcane), (r_aload, hcI k 4 w3)]) H := hP
  have hD : va_D A ([(r_aheads, hcI k 4 w4), (r, .inr (2, [.int r_told, .int r_strands, .int r_chairs, .int r_sitters, .ref r_atoldCane, .ref r_aheight, .ref r_astrandOf, .ref r_achairOf, .ref r_aweight, .ref r_acane, .int x1, .int r_dropped, .int r_minute, .ref r_aload, .ref r_aheads, .int r_held, .int r_heldDown])), (r_aheight, hcI k 8 r_rheight), (r_astrandOf, hcI k 8 r_rstrandOf), (r_achairOf, hcI k 8 r_rchairOf), (r_aweight, hcI k 8 r_rweight), (r_acane, hcI k 4 r_rcane), (r_aload, hcI k 4 w3)]) := hD
  refine lv_if_ne (tgt := 20) hx hb dX3_bears_13 (by decide) (fun c7 => ?_) (fun c7 => ?_)
  · have fc7 := cx_ne_t (a := r6.toInt) (b := 0) rfl (by decide) c7
    refine lv_iconst (v := 0) hx hb dX3_bears_20 (by decide) ?_
    exact hc_endZ hx hb hr hlocks rfl (x1, w3, w4) (iv_lit (by decide) (by decide)) (hP.sub [1, 2, 3, 4, 5, 6, 7, 0] rfl) (hD.sub [1, 2, 3, 4, 5, 6, 7, 0] (by decide) rfl) hS dX3_bears_21
  · have fc7 := cx_ne_f (a := r6.toInt) (b := 0) rfl (by decide) c7
    refine lv_iconst (v := 1) hx hb dX3_bears_16 (by decide) ?_
    refine lv_goto (tgt := 21) hx hb dX3_bears_17 (by decide) ?_
    exact hc_endZ hx hb hr hlocks rfl (x1, w3, w4) (iv_lit (by decide) (by decide)) (hP.sub [1, 2, 3, 4, 5, 6, 7, 0] rfl) (hD.sub [1, 2, 3, 4, 5, 6, 7, 0] (by decide) rfl) hS dX3_bears_21
set_option maxHeartbeats 4000000 in
set_option maxRecDepth 100000 in
theorem i_X3_settle (l : Launch) (D : va_G) (k : Nat → ClassId) (sz : Nat) (r : Nat) (r_told : Int32) (r_strands : Int32) (r_chairs : Int32) (r_sitters : Int32) (r_atoldCane : Nat) (r_aheight : Nat) (r_astrandOf : Nat) (r_achairOf : Nat) (r_aweight : Nat) (r_acane : Nat) (r_sits : Int32) (r_dropped : Int32) (r_minute : Int32) (r_aload : Nat) (r_aheads : Nat) (r_held : Int32) (r_heldDown : Int32) (r_rheight : Nat → Int32) (r_rstrandOf : Nat → Int32) (r_rchairOf : Nat → Int32) (r_rweight : Nat → Int32) (r_rcane : Nat → Int32) (r_rload : Nat → Int32) (r_rheads : Nat → Int32) (h_r_told : iv (0) (1) r_told) (h_r_strands : iv (0) (4) r_strands) (h_r_chairs : iv (0) (8) r_chairs) (h_r_sitters : iv (0) (8) r_sitters) (h_r_rstrandOf : rowIn (0) (3) r_rstrandOf) (h_r_rchairOf : rowIn (0) (7) r_rchairOf) : CtI l yX3_settle wsX3_settle (rmK 3 0 0) [.ref r] D k sz ([(r, .inr (2, [.int r_told, .int r_strands, .int r_chairs, .int r_sitters, .ref r_atoldCane, .ref r_aheight, .ref r_astrandOf, .ref r_achairOf, .ref r_aweight, .ref r_acane, .int r_sits, .int r_dropped, .int r_minute, .ref r_aload, .ref r_aheads, .int r_held, .int r_heldDown])), (r_aheight, hcI k 8 r_rheight), (r_astrandOf, hcI k 8 r_rstrandOf), (r_achairOf, hcI k 8 r_rchairOf), (r_aweight, hcI k 8 r_rweight), (r_acane, hcI k 4 r_rcane), (r_aload, hcI k 4 r_rload), (r_aheads, hcI k 4 r_rheads)]) (fun (r : Int32) (u : (Int32) × (Int32) × (Nat → Int32) × (Nat → Int32)) => True) (fun u : (Int32) × (Int32) × (Nat → Int32) × (Nat → Int32) => [(r, .inr (2, [.int r_told, .int r_strands, .int r_chairs, .int r_sitters, .ref r_atoldCane, .ref r_aheight, .ref r_astrandOf, .ref r_achairOf, .ref r_aweight, .ref r_acane, .int (u.1), .int (u.2.1), .int r_minute, .ref r_aload, .ref r_aheads, .int r_held, .int r_heldDown])), (r_aheight, hcI k 8 r_rheight), (r_astrandOf, hcI k 8 r_rstrandOf), (r_achairOf, hcI k 8 r_rchairOf), (r_aweight, hcI k 8 r_rweight), (r_acane, hcI k 4 r_rcane), (r_aload, hcI k 4 (u.2.2.1)), (r_aheads, hcI k 4 (u.2.2.2))]) 0 0 := by
  have h_r_told_l := h_r_told.1
  have h_r_told_u := h_r_told.2
  have h_r_strands_l := h_r_strands.1
  have h_r_strands_u := h_r_strands.2
  have h_r_chairs_l := h_r_chairs.1
  have h_r_chairs_u := h_r_chairs.2
  have h_r_sitters_l := h_r_sitters.1
  have h_r_sitters_u := h_r_sitters.2
  refine CtI.mk (cc := cX3_settle) (maxL := 4) (ret := (some .int)) (by decide) rfl (Nat.le_of_ble_eq_true rfl) ?_
  intro p e s m below meth c A ls E hP hD hS hl
  obtain ⟨hx, hb, hr, hml, hown, hts, hlocks, hin, hG, hA⟩ := E
  have hown : s.vm.findClass RX3 = some m.cls := hown
  have in3 : ∀ w ∈ u_ws RX3 TX3 17, w ∈ wsX3_settle := fun _ h => List.mem_cons_of_mem _ (List.mem_append_right _ h)
  have hl : lv_has ls 4 [(0, .ref r)] := hl
  refine lv_iconst (v := 0) hx hb dX3_settle_0 (by decide) ?_
  refine lv_istore_n (lv' := [(1, .int 0), (0, .ref r)]) hx hb dX3_settle_1 rfl hl (by decide) rfl (fun ls hl => ?_)
  refine lv_iconst (v := 0) hx hb dX3_settle_2 (by decide) ?_
  refine lv_istore_n (lv' := [(2, .int 0), (1, .int 0), (0, .ref r)]) hx hb dX3_settle_3 rfl hl (by decide) rfl (fun ls hl => ?_)
  have loop1 : ∀ (fu : Nat) (L1_1 : Int32) (L2_1 : Int32) (K10_1r : Int32) (K11_1r : Int32) (g_1r_aload : Nat → Int32) (g_1r_aheads : Nat → Int32), iv (0) (9) L2_1 → 9 - L2_1.toInt < (fu : Int) → ∀ (H : Heap) (locs : List Loc) (ls : Array Slot), va_P D vwCl ([(r, .inr (2, [.int r_told, .int r_strands, .int r_chairs, .int r_sitters, .ref r_atoldCane, .ref r_aheight, .ref r_astrandOf, .ref r_achairOf, .ref r_aweight, .ref r_acane, .int K10_1r, .int K11_1r, .int r_minute, .ref r_aload, .ref r_aheads, .int r_held, .int r_heldDown])), (r_aheight, hcI k 8 r_rheight), (r_astrandOf, hcI k 8 r_rstrandOf), (r_achairOf, hcI k 8 r_rchairOf), (r_aweight, hcI k 8 r_rweight), (r_acane, hcI k 4 r_rcane), (r_aload, hcI k 4 g_1r_aload), (r_aheads, hcI k 4 g_1r_aheads)]) H → va_D A ([(r, .inr (2, [.int r_told, .int r_strands, .int r_chairs, .int r_sitters, .ref r_atoldCane, .ref r_aheight, .ref r_astrandOf, .ref r_achairOf, .ref r_aweight, .ref r_acane, .int K10_1r, .int K11_1r, .int r_minute, .ref r_aload, .ref r_aheads, .int r_held, .int r_heldDown])), (r_aheight, hcI k 8 r_rheight), (r_astrandOf, hcI k 8 r_rstrandOf), (r_achairOf, hcI k 8 r_rchairOf), (r_aweight, hcI k 8 r_rweight), (r_acane, hcI k 4 r_rcane), (r_aload, hcI k 4 g_1r_aload), (r_aheads, hcI k 4 g_1r_aheads)]) → va_S A s.heap H locs → lv_has ls 4 [(2, .int L2_1), (1, .int L1_1), (0, .ref r)] → W p l e (rmK 3 0 0) s m (List.toArray [.ref r]) below meth c H locs 0 0 (MQ below (va_Qi (fun (r : Int32) (u : (Int32) × (Int32) × (Nat → Int32) × (Nat → Int32)) => True) (hcB D (fun u : (Int32) × (Int32) × (Nat → Int32) × (Nat → Int32) => [(r, .inr (2, [.int r_told, .int r_strands, .int r_chairs, .int r_sitters, .ref r_atoldCane, .ref r_aheight, .ref r_astrandOf, .ref r_achairOf, .ref r_aweight, .ref r_acane, .int (u.1), .int (u.2.1), .int r_minute, .ref r_aload, .ref r_aheads, .int r_held, .int r_heldDown])), (r_aheight, hcI k 8 r_rheight), (r_astrandOf, hcI k 8 r_rstrandOf), (r_achairOf, hcI k 8 r_rchairOf), (r_aweight, hcI k 8 r_rweight), (r_acane, hcI k 4 r_rcane), (r_aload, hcI k 4 (u.2.2.1)), (r_aheads, hcI k 4 (u.2.2.2))]) A) A) (List.toArray [.ref r]) s 0 0 A) (F0 m 4 ls []) := by
    intro fu
    induction fu with
    | zero =>
      intro L1_1 L2_1 K10_1r K11_1r g_1r_aload g_1r_aheads bL2_1 hm
      have bL2_1_l := bL2_1.1
      have bL2_1_u := bL2_1.2
      exact absurd hm (by omega)
    | succ fu ih1 =>
      intro L1_1 L2_1 K10_1r K11_1r g_1r_aload g_1r_aheads bL2_1 hm H locs ls hP hD hS hl
      have bL2_1_l := bL2_1.1
      have bL2_1_u := bL2_1.2
      refine lv_iload_n hx hb dX3_settle_4 rfl (lv_at hl 0 rfl) ?_
      refine lv_bipush (v := 8) hx hb dX3_settle_5 (by decide) ?_
      refine lv_icmp_gt (tgt := 57) hx hb dX3_settle_7 (by decide) (fun c2 => ?_) (fun c2 => ?_)
      · have fc2 := cx_gt_t (a := L2_1.toInt) (b := 8) rfl (by decide) c2
        refine lv_iload_n hx hb dX3_settle_57 rfl (lv_at hl 1 rfl) ?_
        exact hc_end hx hb hr hlocks (K10_1r, K11_1r, g_1r_aload, g_1r_aheads) trivial hP hD hS dX3_settle_58
      · have fc2 := cx_gt_f (a := L2_1.toInt) (b := 8) rfl (by decide) c2
        refine lv_aload_n hx hb dX3_settle_10 rfl (lv_at hl 2 rfl) ?_
        refine hc_Vi (As := []) (rest := []) (n := 0) (wr := [(r_aheads, hcI k 4 g_1r_aheads)]) hx hb hml hown hts hG hA hP hD hS hl.1 [0, 1, 2, 3, 4, 5, 6] [7] (i_X3_givenOut l D k _ r r_told r_strands r_chairs r_sitters r_atoldCane r_aheight r_astrandOf r_achairOf r_aweight r_acane K10_1r K11_1r r_minute r_aload r_aheads r_held r_heldDown r_rheight r_rstrandOf r_rchairOf r_rweight r_rcane g_1r_aload ⟨by omega, by omega⟩ ⟨by omega, by omega⟩ ⟨by omega, by omega⟩ ⟨by omega, by omega⟩ h_r_rstrandOf h_r_rchairOf) (ci := 2) (q0 := 0) rfl rfl gX3_settle_X3_givenOut rfl ⟨rfl, rfl, Nat.le_of_ble_eq_true rfl, Nat.le_of_ble_eq_true rfl⟩ (by decide +kernel) rfl rfl ⟨by decide, by decide, by decide⟩ ⟨rfl, rfl, Nat.le_of_ble_eq_true rfl, Nat.le_of_ble_eq_true rfl, Nat.le_of_ble_eq_true rfl⟩ dX3_settle_11 (fun r4 u3 H locs hw hP hD hS => ?_)
        have hP : va_P D vwCl ([(r_aheads, hcI k 4 g_1r_aheads), (r, .inr (2, [.int r_told, .int r_strands, .int r_chairs, .int r_sitters, .ref r_atoldCane, .ref r_aheight, .ref r_astrandOf, .ref r_achairOf, .ref r_aweight, .ref r_acane, .int K10_1r, .int K11_1r, .int r_minute, .ref r_aload, .ref r_aheads, .int r_held, .int r_heldDown])), (r_aheight, hcI k 8 r_rheight), (r_astrandOf, hcI k 8 r_rstrandOf), (r_achairOf, hcI k 8 r_rchairOf), (r_aweight, hcI k 8 r_rweight), (r_acane, hcI k 4 r_rcane), (r_aload, hcI k 4 g_1r_aload)]) H := hP
        have hD : va_D A ([(r_aheads, hcI k 4 g_1r_aheads), (r, .inr (2, [.int r_told, .int r_strands, .int r_chairs, .int r_sitters, .ref r_atoldCane, .ref r_aheight, .ref r_astrandOf, .ref r_achairOf, .ref r_aweight, .ref r_acane, .int K10_1r, .int K11_1r, .int r_minute, .ref r_aload, .ref r_aheads, .int r_held, .int r_heldDown])), (r_aheight, hcI k 8 r_rheight), (r_astrandOf, hcI k 8 r_rstrandOf), (r_achairOf, hcI k 8 r_rchairOf), (r_aweight, hcI k 8 r_rweight), (r_acane, hcI k 4 r_rcane), (r_aload, hcI k 4 g_1r_aload)]) := hD
        refine lv_istore_n (lv' := [(3, .int r4), (2, .int L2_1), (1, .int L1_1), (0, .ref r)]) hx hb dX3_settle_14 rfl hl (by decide) rfl (fun ls hl => ?_)
        refine lv_iload_n hx hb dX3_settle_15 rfl (lv_at hl 0 rfl) ?_
        refine lv_if_ne (tgt := 21) hx hb dX3_settle_16 (by decide) (fun c5 => ?_) (fun c5 => ?_)
        · have fc5 := cx_ne_t (a := r4.toInt) (b := 0) rfl (by decide) c5
          refine lv_aload_n hx hb dX3_settle_21 rfl (lv_at hl 3 rfl) ?_
          refine lv_dup hx hb dX3_settle_22 rfl ?_
          refine va_get (D := D) (ci := 2) (v := .int K10_1r) (C := RX3) (T := TX3) (N := 17) hx hb hts in3 hown hG.1 hP 1 rfl rfl 10 (by decide) (hts (.fieldLink RX3 44 "ChairCane$Room" "sits" "I") (by decide +kernel)) (fun _ h9 => h9) rfl dX3_settle_23 ?_
          refine lv_iload_n hx hb dX3_settle_26 rfl (lv_at hl 0 rfl) ?_
          refine lv_iconst (v := (-1)) hx hb dX3_settle_27 (by decide) ?_
          refine lv_ixor hx hb dX3_settle_28 ?_
          refine lv_topi (fun z6 ez6 => ?_)
          refine lv_iand hx hb dX3_settle_29 ?_
          refine lv_topi (fun z7 ez7 => ?_)
          refine va_put (D := D) (ci := 2) (v := .int z7) (C := RX3) (T := TX3) (N := 17) hx hb hts in3 tyX3 tyX3_ok nmX3 hown hG.1 hP hD hS 1 rfl rfl 10 (by decide) (hts (.fieldLink RX3 44 "ChairCane$Room" "sits" "I") (by decide +kernel)) (fun _ h9 => h9) rfl (tyX3_ok 10 (by decide)) rfl rfl (Nat.le_of_ble_eq_true rfl) dX3_settle_30 (fun H locs hP hD hS => ?_)
          have hP : va_P D vwCl ([(r_aheads, hcI k 4 g_1r_aheads), (r, .inr (2, [.int r_told, .int r_strands, .int r_chairs, .int r_sitters, .ref r_atoldCane, .ref r_aheight, .ref r_astrandOf, .ref r_achairOf, .ref r_aweight, .ref r_acane, .int z7, .int K11_1r, .int r_minute, .ref r_aload, .ref r_aheads, .int r_held, .int r_heldDown])), (r_aheight, hcI k 8 r_rheight), (r_astrandOf, hcI k 8 r_rstrandOf), (r_achairOf, hcI k 8 r_rchairOf), (r_aweight, hcI k 8 r_rweight), (r_acane, hcI k 4 r_rcane), (r_aload, hcI k 4 g_1r_aload)]) H := hP
          have hD : va_D A ([(r_aheads, hcI k 4 g_1r_aheads), (r, .inr (2, [.int r_told, .int r_strands, .int r_chairs, .int r_sitters, .ref r_atoldCane, .ref r_aheight, .ref r_astrandOf, .ref r_achairOf, .ref r_aweight, .ref r_acane, .int z7, .int K11_1r, .int r_minute, .ref r_aload, .ref r_aheads, .int r_held, .int r_heldDown])), (r_aheight, hcI k 8 r_rheight), (r_astrandOf, hcI k 8 r_rstrandOf), (r_achairOf, hcI k 8 r_rchairOf), (r_aweight, hcI k 8 r_rweight), (r_acane, hcI k 4 r_rcane), (r_aload, hcI k 4 g_1r_aload)]) := hD
          refine lv_aload_n hx hb dX3_settle_33 rfl (lv_at hl 3 rfl) ?_
          refine lv_dup hx hb dX3_settle_34 rfl ?_
          refine va_get (D := D) (ci := 2) (v := .int K11_1r) (C := RX3) (T := TX3) (N := 17) hx hb hts in3 hown hG.1 hP 1 rfl rfl 11 (by decide) (hts (.fieldLink RX3 47 "ChairCane$Room" "dropped" "I") (by decide +kernel)) (fun _ h9 => h9) rfl dX3_settle_35 ?_
          refine lv_iload_n hx hb dX3_settle_38 rfl (lv_at hl 0 rfl) ?_
          refine lv_ior hx hb dX3_settle_39 ?_
          refine lv_topi (fun z8 ez8 => ?_)
          refine va_put (D := D) (ci := 2) (v := .int z8) (C := RX3) (T := TX3) (N := 17) hx hb hts in3 tyX3 tyX3_ok nmX3 hown hG.1 hP hD hS 1 rfl rfl 11 (by decide) (hts (.fieldLink RX3 47 "ChairCane$Room" "dropped" "I") (by decide +kernel)) (fun _ h9 => h9) rfl (tyX3_ok 11 (by decide)) rfl rfl (Nat.le_of_ble_eq_true rfl) dX3_settle_40 (fun H locs hP hD hS => ?_)
          have hP : va_P D vwCl ([(r_aheads, hcI k 4 g_1r_aheads), (r, .inr (2, [.int r_told, .int r_strands, .int r_chairs, .int r_sitters, .ref r_atoldCane, .ref r_aheight, .ref r_astrandOf, .ref r_achairOf, .ref r_aweight, .ref r_acane, .int z7, .int z8, .int r_minute, .ref r_aload, .ref r_aheads, .int r_held, .int r_heldDown])), (r_aheight, hcI k 8 r_rheight), (r_astrandOf, hcI k 8 r_rstrandOf), (r_achairOf, hcI k 8 r_rchairOf), (r_aweight, hcI k 8 r_rweight), (r_acane, hcI k 4 r_rcane), (r_aload, hcI k 4 g_1r_aload)]) H := hP
          have hD : va_D A ([(r_aheads, hcI k 4 g_1r_aheads), (r, .inr (2, [.int r_told, .int r_strands, .int r_chairs, .int r_sitters, .ref r_atoldCane, .ref r_aheight, .ref r_astrandOf, .ref r_achairOf, .ref r_aweight, .ref r_acane, .int z7, .int z8, .int r_minute, .ref r_aload, .ref r_aheads, .int r_held, .int r_heldDown])), (r_aheight, hcI k 8 r_rheight), (r_astrandOf, hcI k 8 r_rstrandOf), (r_achairOf, hcI k 8 r_rchairOf), (r_aweight, hcI k 8 r_rweight), (r_acane, hcI k 4 r_rcane), (r_aload, hcI k 4 g_1r_aload)]) := hD
          refine lv_iload_n hx hb dX3_settle_43 rfl (lv_at hl 2 rfl) ?_
          refine lv_iload_n hx hb dX3_settle_44 rfl (lv_at hl 0 rfl) ?_
          refine lv_ior hx hb dX3_settle_45 ?_
          refine lv_topi (fun z9 ez9 => ?_)
          refine lv_istore_n (lv' := [(1, .int z9), (3, .int r4), (2, .int L2_1), (0, .ref r)]) hx hb dX3_settle_46 rfl hl (by decide) rfl (fun ls hl => ?_)
          refine lv_aload_n hx hb dX3_settle_47 rfl (lv_at hl 3 rfl) ?_
          refine hc_Vv (As := []) (rest := []) (n := 0) (wr := [(r_aheight, hcI k 8 r_rheight), (r_acane, hcI k 4 r_rcane)]) hx hb hml hown hts hG hA hP hD hS hl.1 [1, 3, 4, 5, 7, 0] [2, 6] (i_X3_weigh l D k _ r r_told r_strands r_chairs r_sitters r_atoldCane r_aheight r_astrandOf r_achairOf r_aweight r_acane z7 z8 r_minute r_aload r_aheads r_held r_heldDown r_rstrandOf r_rchairOf r_rweight g_1r_aload g_1r_aheads ⟨by omega, by omega⟩ ⟨by omega, by omega⟩ ⟨by omega, by omega⟩ ⟨by omega, by omega⟩ h_r_rstrandOf h_r_rchairOf) (ci := 2) (q0 := 1) rfl rfl gX3_settle_X3_weigh rfl ⟨rfl, rfl, Nat.le_of_ble_eq_true rfl, Nat.le_of_ble_eq_true rfl⟩ (by decide +kernel) rfl rfl ⟨by decide, by decide, by decide⟩ ⟨rfl, rfl, Nat.le_of_ble_eq_true rfl, Nat.le_of_ble_eq_true rfl, Nat.le_of_ble_eq_true rfl⟩ dX3_settle_48 (fun u10 H locs hw hP hD hS => ?_)
          obtain ⟨w12, w13⟩ := u10
          have hP : va_P D vwCl ([(r_aheight, hcI k 8 r_rheight), (r_acane, hcI k 4 r_rcane), (r, .inr (2, [.int r_told, .int r_strands, .int r_chairs, .int r_sitters, .ref r_atoldCane, .ref r_aheight, .ref r_astrandOf, .ref r_achairOf, .ref r_aweight, .ref r_acane, .int z7, .int z8, .int r_minute, .ref r_aload, .ref r_aheads, .int r_held, .int r_heldDown])), (r_astrandOf, hcI k 8 r_rstrandOf), (r_achairOf, hcI k 8 r_rchairOf), (r_aweight, hcI k 8 r_rweight), (r_aload, hcI k 4 w12), (r_aheads, hcI k 4 w13)]) H := hP
          have hD : va_D A ([(r_aheight, hcI k 8 r_rheight), (r_acane, hcI k 4 r_rcane), (r, .inr (2, [.int r_told, .int r_strands, .int r_chairs, .int r_sitters, .ref r_atoldCane, .ref r_aheight, .ref r_astrandOf, .ref r_achairOf, .ref r_aweight, .ref r_acane, .int z7, .int z8, .int r_minute, .ref r_aload, .ref r_aheads, .int r_held, .int r_heldDown])), (r_astrandOf, hcI k 8 r_rstrandOf), (r_achairOf, hcI k 8 r_rchairOf), (r_aweight, hcI k 8 r_rweight), (r_aload, hcI k 4 w12), (r_aheads, hcI k 4 w13)]) := hD
          obtain ⟨z14, ez14⟩ : ∃ z : Int32, z = L2_1 + 1 := ⟨_, rfl⟩
          have tz14 : z14.toInt = L2_1.toInt + (1) := ai_add rfl (by decide) ez14 (by omega) (by omega)
          refine lv_iinc (v := z14) (lv' := [(2, .int z14), (1, .int z9), (3, .int r4), (0, .ref r)]) hx hb dX3_settle_51 hl (k := 2) rfl (by rw [ez14]; rfl) (by decide) rfl (fun ls hl => ?_)
          refine lv_goto (tgt := 4) hx hb dX3_settle_54 (by decide) ?_
          exact ih1 z9 z14 z7 z8 w12 w13 ⟨by omega, by omega⟩ (by omega) _ _ _ (hP.sub [2, 0, 3, 4, 5, 1, 6, 7] rfl) (hD.sub [2, 0, 3, 4, 5, 1, 6, 7] (by decide) rfl) hS (lv_sub hl [0, 1, 3] rfl)
        · have fc5 := cx_ne_f (a := r4.toInt) (b := 0) rfl (by decide) c5
          refine lv_iload_n hx hb dX3_settle_19 rfl (lv_at hl 2 rfl) ?_
          exact hc_end hx hb hr hlocks (K10_1r, K11_1r, g_1r_aload, g_1r_aheads) trivial (hP.sub [1, 2, 3, 4, 5, 6, 7, 0] rfl) (hD.sub [1, 2, 3, 4, 5, 6, 7, 0] (by decide) rfl) hS dX3_settle_20
  exact loop1 100 0 0 r_sits r_dropped r_rload r_rheads (iv_lit (by decide) (by decide)) (by have q0 : (0 : Int32).toInt = 0 := (by decide); have q1 : (0 : Int32).toInt = 0 := (by decide); omega) _ _ _ hP hD hS hl
set_option maxHeartbeats 4000000 in
set_option maxRecDepth 100000 in
theorem i_X3_turn (l : Launch) (D : va_G) (k : Nat → ClassId) (sz : Nat) (x1 : Int32) (r : Nat) (r_told : Int32) (r_strands : Int32) (r_chairs : Int32) (r_sitters : Int32) (r_atoldCane : Nat) (r_aheight : Nat) (r_astrandOf : Nat) (r_achairOf : Nat) (r_aweight : Nat) (r_acane : Nat) (r_sits : Int32) (r_dropped : Int32) (r_minute : Int32) (r_aload : Nat) (r_aheads : Nat) (r_held : Int32) (r_heldDown : Int32) (r_rheight : Nat → Int32) (r_rstrandOf : Nat → Int32) (r_rchairOf : Nat → Int32) (r_rweight : Nat → Int32) (r_rcane : Nat → Int32) (r_rload : Nat → Int32) (r_rheads : Nat → Int32) (h_r_told : iv (0) (1) r_told) (h_r_strands : iv (0) (4) r_strands) (h_r_chairs : iv (0) (8) r_chairs) (h_r_sitters : iv (0) (8) r_sitters) (h_r_rstrandOf : rowIn (0) (3) r_rstrandOf) (h_r_rchairOf : rowIn (0) (7) r_rchairOf) : CtV l yX3_turn wsX3_turn (rmK 4 0 0) [.ref r, .int x1] D k sz ([(r, .inr (2, [.int r_told, .int r_strands, .int r_chairs, .int r_sitters, .ref r_atoldCane, .ref r_aheight, .ref r_astrandOf, .ref r_achairOf, .ref r_aweight, .ref r_acane, .int r_sits, .int r_dropped, .int r_minute, .ref r_aload, .ref r_aheads, .int r_held, .int r_heldDown])), (r_aheight, hcI k 8 r_rheight), (r_astrandOf, hcI k 8 r_rstrandOf), (r_achairOf, hcI k 8 r_rchairOf), (r_aweight, hcI k 8 r_rweight), (r_acane, hcI k 4 r_rcane), (r_aload, hcI k 4 r_rload), (r_aheads, hcI k 4 r_rheads)]) (fun u : (Int32) × (Int32) × (Nat → Int32) × (Nat → Int32) => True) (fun u : (Int32) × (Int32) × (Nat → Int32) × (Nat → Int32) => [(r, .inr (2, [.int r_told, .int r_strands, .int r_chairs, .int r_sitters, .ref r_atoldCane, .ref r_aheight, .ref r_astrandOf, .ref r_achairOf, .ref r_aweight, .ref r_acane, .int (u.1), .int (u.2.1), .int r_minute, .ref r_aload, .ref r_aheads, .int r_held, .int r_heldDown])), (r_aheight, hcI k 8 r_rheight), (r_astrandOf, hcI k 8 r_rstrandOf), (r_achairOf, hcI k 8 r_rchairOf), (r_aweight, hcI k 8 r_rweight), (r_acane, hcI k 4 r_rcane), (r_aload, hcI k 4 (u.2.2.1)), (r_aheads, hcI k 4 (u.2.2.2))]) 0 0 := by
  have h_r_told_l := h_r_told.1
  have h_r_told_u := h_r_told.2
  have h_r_strands_l := h_r_strands.1
  have h_r_strands_u := h_r_strands.2
  have h_r_chairs_l := h_r_chairs.1
  have h_r_chairs_u := h_r_chairs.2
  have h_r_sitters_l := h_r_sitters.1
  have h_r_sitters_u := h_r_sitters.2
  refine CtV.mk (cc := cX3_turn) (maxL := 2) (ret := none) (by decide) rfl (Nat.le_of_ble_eq_true rfl) ?_
  intro p e s m below meth c A ls E hP hD hS hl
  obtain ⟨hx, hb, hr, hml, hown, hts, hlocks, hin, hG, hA⟩ := E
  have hown : s.vm.findClass RX3 = some m.cls := hown
  have in3 : ∀ w ∈ u_ws RX3 TX3 17, w ∈ wsX3_turn := fun _ h => List.mem_cons_of_mem _ (List.mem_append_right _ h)
  have hl : lv_has ls 2 [(0, .ref r), (1, .int x1)] := hl
  refine lv_aload_n hx hb dX3_turn_0 rfl (lv_at hl 0 rfl) ?_
  refine lv_iload_n hx hb dX3_turn_1 rfl (lv_at hl 1 rfl) ?_
  refine lv_aload_n hx hb dX3_turn_2 rfl (lv_at hl 0 rfl) ?_
  refine lv_iload_n hx hb dX3_turn_3 rfl (lv_at hl 1 rfl) ?_
  refine hc_Vi (As := [.int x1]) (rest := [.int x1, .ref r]) (n := 1) (wr := [(r_aheight, hcI k 8 r_rheight), (r_astrandOf, hcI k 8 r_rstrandOf), (r_achairOf, hcI k 8 r_rchairOf), (r_aweight, hcI k 8 r_rweight), (r_acane, hcI k 4 r_rcane), (r_aload, hcI k 4 r_rload), (r_aheads, hcI k 4 r_rheads)]) hx hb hml hown hts hG hA hP hD hS hl.1 [0] [1, 2, 3, 4, 5, 6, 7] (i_X3_isDown l D k _ x1 r r_told r_strands r_chairs r_sitters r_atoldCane r_aheight r_astrandOf r_achairOf r_aweight r_acane r_sits r_dropped r_minute r_aload r_aheads r_held r_heldDown ⟨by omega, by omega⟩ ⟨by omega, by omega⟩ ⟨by omega, by omega⟩ ⟨by omega, by omega⟩) (ci := 2) (q0 := 0) rfl rfl gX3_turn_X3_isDown rfl ⟨rfl, rfl, Nat.le_of_ble_eq_true rfl, Nat.le_of_ble_eq_true rfl⟩ (by decide +kernel) rfl rfl ⟨by decide, by decide, by decide⟩ ⟨rfl, rfl, Nat.le_of_ble_eq_true rfl, Nat.le_of_ble_eq_true rfl, Nat.le_of_ble_eq_true rfl⟩ dX3_turn_4 (fun r2 u1 H locs hw hP hD hS => ?_)
  have hP : va_P D vwCl ([(r_aheight, hcI k 8 r_rheight), (r_astrandOf, hcI k 8 r_rstrandOf), (r_achairOf, hcI k 8 r_rchairOf), (r_aweight, hcI k 8 r_rweight), (r_acane, hcI k 4 r_rcane), (r_aload, hcI k 4 r_rload), (r_aheads, hcI k 4 r_rheads), (r, .inr (2, [.int r_told, .int r_strands, .int r_chairs, .int r_sitters, .ref r_atoldCane, .ref r_aheight, .ref r_astrandOf, .ref r_achairOf, .ref r_aweight, .ref r_acane, .int r_sits, .int r_dropped, .int r_minute, .ref r_aload, .ref r_aheads, .int r_held, .int r_heldDown]))]) H := hP
  have hD : va_D A ([(r_aheight, hcI k 8 r_rheight), (r_astrandOf, hcI k 8 r_rstrandOf), (r_achairOf, hcI k 8 r_rchairOf), (r_aweight, hcI k 8 r_rweight), (r_acane, hcI k 4 r_rcane), (r_aload, hcI k 4 r_rload), (r_aheads, hcI k 4 r_rheads), (r, .inr (2, [.int r_told, .int r_strands, .int r_chairs, .int r_sitters, .ref r_atoldCane, .ref r_aheight, .ref r_astrandOf, .ref r_achairOf, .ref r_aweight, .ref r_acane, .int r_sits, .int r_dropped, .int r_minute, .ref r_aload, .ref r_aheads, .int r_held, .int r_heldDown]))]) := hD
  obtain ⟨br2, rel3⟩ := hw
  have br2 : iv (0) (1) r2 := br2
  have br2_l := br2.1
  have br2_u := br2.2
  refine lv_if_ne (tgt := 14) hx hb dX3_turn_7 (by decide) (fun c4 => ?_) (fun c4 => ?_)
  · have fc4 := cx_ne_t (a := r2.toInt) (b := 0) rfl (by decide) c4
    refine lv_iconst (v := 0) hx hb dX3_turn_14 (by decide) ?_
    refine hc_Vv (As := [.int x1, .int 0]) (rest := []) (n := 2) (wr := [(r_aheight, hcI k 8 r_rheight), (r_acane, hcI k 4 r_rcane)]) hx hb hml hown hts hG hA hP hD hS hl.1 [7, 1, 2, 3, 5, 6] [0, 4] (i_X3_seat l D k _ x1 0 r r_told r_strands r_chairs r_sitters r_atoldCane r_aheight r_astrandOf r_achairOf r_aweight r_acane r_sits r_dropped r_minute r_aload r_aheads r_held r_heldDown r_rstrandOf r_rchairOf r_rweight r_rload r_rheads (iv_lit (by decide) (by decide)) ⟨by omega, by omega⟩ ⟨by omega, by omega⟩ ⟨by omega, by omega⟩ ⟨by omega, by omega⟩ h_r_rstrandOf h_r_rchairOf) (ci := 2) (q0 := 7) rfl rfl gX3_turn_X3_seat rfl ⟨rfl, rfl, Nat.le_of_ble_eq_true rfl, Nat.le_of_ble_eq_true rfl⟩ (by decide +kernel) rfl rfl ⟨by decide, by decide, by decide⟩ ⟨rfl, rfl, Nat.le_of_ble_eq_true rfl, Nat.le_of_ble_eq_true rfl, Nat.le_of_ble_eq_true rfl⟩ dX3_turn_15 (fun u5 H locs hw hP hD hS => ?_)
    obtain ⟨w7, w8, w9⟩ := u5
    have hP : va_P D vwCl ([(r_aheight, hcI k 8 r_rheight), (r_acane, hcI k 4 r_rcane), (r, .inr (2, [.int r_told, .int r_strands, .int r_chairs, .int r_sitters, .ref r_atoldCane, .ref r_aheight, .ref r_astrandOf, .ref r_achairOf, .ref r_aweight, .ref r_acane, .int w7, .int r_dropped, .int r_minute, .ref r_aload, .ref r_aheads, .int r_held, .int r_heldDown])), (r_astrandOf, hcI k 8 r_rstrandOf), (r_achairOf, hcI k 8 r_rchairOf), (r_aweight, hcI k 8 r_rweight), (r_aload, hcI k 4 w8), (r_aheads, hcI k 4 w9)]) H := hP
    have hD : va_D A ([(r_aheight, hcI k 8 r_rheight), (r_acane, hcI k 4 r_rcane), (r, .inr (2, [.int r_told, .int r_strands, .int r_chairs, .int r_sitters, .ref r_atoldCane, .ref r_aheight, .ref r_astrandOf, .ref r_achairOf, .ref r_aweight, .ref r_acane, .int w7, .int r_dropped, .int r_minute, .ref r_aload, .ref r_aheads, .int r_held, .int r_heldDown])), (r_astrandOf, hcI k 8 r_rstrandOf), (r_achairOf, hcI k 8 r_rchairOf), (r_aweight, hcI k 8 r_rweight), (r_aload, hcI k 4 w8), (r_aheads, hcI k 4 w9)]) := hD
    refine lv_aload_n hx hb dX3_turn_18 rfl (lv_at hl 0 rfl) ?_
    refine hc_Vi (As := []) (rest := []) (n := 0) (wr := []) hx hb hml hown hts hG hA hP hD hS hl.1 [2, 0, 3, 4, 5, 1, 6, 7] [] (i_X3_settle l D k _ r r_told r_strands r_chairs r_sitters r_atoldCane r_aheight r_astrandOf r_achairOf r_aweight r_acane w7 r_dropped r_minute r_aload r_aheads r_held r_heldDown r_rheight r_rstrandOf r_rchairOf r_rweight r_rcane w8 w9 ⟨by omega, by omega⟩ ⟨by omega, by omega⟩ ⟨by omega, by omega⟩ ⟨by omega, by omega⟩ h_r_rstrandOf h_r_rchairOf) (ci := 2) (q0 := 2) rfl rfl gX3_turn_X3_settle rfl ⟨rfl, rfl, Nat.le_of_ble_eq_true rfl, Nat.le_of_ble_eq_true rfl⟩ (by decide +kernel) rfl rfl ⟨by decide, by decide, by decide⟩ ⟨rfl, rfl, Nat.le_of_ble_eq_true rfl, Nat.le_of_ble_eq_true rfl, Nat.le_of_ble_eq_true rfl⟩ dX3_turn_19 (fun r11 u10 H locs hw hP hD hS => ?_)
    obtain ⟨w12, w13, w14, w15⟩ := u10
    have hP : va_P D vwCl ([(r, .inr (2, [.int r_told, .int r_strands, .int r_chairs, .int r_sitters, .ref r_atoldCane, .ref r_aheight, .ref r_astrandOf, .ref r_achairOf, .ref r_aweight, .ref r_acane, .int w12, .int w13, .int r_minute, .ref r_aload, .ref r_aheads, .int r_held, .int r_heldDown])), (r_aheight, hcI k 8 r_rheight), (r_astrandOf, hcI k 8 r_rstrandOf), (r_achairOf, hcI k 8 r_rchairOf), (r_aweight, hcI k 8 r_rweight), (r_acane, hcI k 4 r_rcane), (r_aload, hcI k 4 w14), (r_aheads, hcI k 4 w15)]) H := hP
    have hD : va_D A ([(r, .inr (2, [.int r_told, .int r_strands, .int r_chairs, .int r_sitters, .ref r_atoldCane, .ref r_aheight, .ref r_astrandOf, .ref r_achairOf, .ref r_aweight, .ref r_acane, .int w12, .int w13, .int r_minute, .ref r_aload, .ref r_aheads, .int r_held, .int r_heldDown])), (r_aheight, hcI k 8 r_rheight), (r_astrandOf, hcI k 8 r_rstrandOf), (r_achairOf, hcI k 8 r_rchairOf), (r_aweight, hcI k 8 r_rweight), (r_acane, hcI k 4 r_rcane), (r_aload, hcI k 4 w14), (r_aheads, hcI k 4 w15)]) := hD
    refine lv_pop hx hb dX3_turn_22 rfl ?_
    exact hc_endV hx hb hr hlocks (w12, w13, w14, w15) trivial hP hD hS dX3_turn_23
  · have fc4 := cx_ne_f (a := r2.toInt) (b := 0) rfl (by decide) c4
    refine lv_iconst (v := 1) hx hb dX3_turn_10 (by decide) ?_
    refine lv_goto (tgt := 15) hx hb dX3_turn_11 (by decide) ?_
    refine hc_Vv (As := [.int x1, .int 1]) (rest := []) (n := 2) (wr := [(r_aheight, hcI k 8 r_rheight), (r_acane, hcI k 4 r_rcane)]) hx hb hml hown hts hG hA hP hD hS hl.1 [7, 1, 2, 3, 5, 6] [0, 4] (i_X3_seat l D k _ x1 1 r r_told r_strands r_chairs r_sitters r_atoldCane r_aheight r_astrandOf r_achairOf r_aweight r_acane r_sits r_dropped r_minute r_aload r_aheads r_held r_heldDown r_rstrandOf r_rchairOf r_rweight r_rload r_rheads (iv_lit (by decide) (by decide)) ⟨by omega, by omega⟩ ⟨by omega, by omega⟩ ⟨by omega, by omega⟩ ⟨by omega, by omega⟩ h_r_rstrandOf h_r_rchairOf) (ci := 2) (q0 := 7) rfl rfl gX3_turn_X3_seat rfl ⟨rfl, rfl, Nat.le_of_ble_eq_true rfl, Nat.le_of_ble_eq_true rfl⟩ (by decide +kernel) rfl rfl ⟨by decide, by decide, by decide⟩ ⟨rfl, rfl, Nat.le_of_ble_eq_true rfl, Nat.le_of_ble_eq_true rfl, Nat.le_of_ble_eq_true rfl⟩ dX3_turn_15 (fun u16 H locs hw hP hD hS => ?_)
    obtain ⟨w18, w19, w20⟩ := u16
    have hP : va_P D vwCl ([(r_aheight, hcI k 8 r_rheight), (r_acane, hcI k 4 r_rcane), (r, .inr (2, [.int r_told, .int r_strands, .int r_chairs, .int r_sitters, .ref r_atoldCane, .ref r_aheight, .ref r_astrandOf, .ref r_achairOf, .ref r_aweight, .ref r_acane, .int w18, .int r_dropped, .int r_minute, .ref r_aload, .ref r_aheads, .int r_held, .int r_heldDown])), (r_astrandOf, hcI k 8 r_rstrandOf), (r_achairOf, hcI k 8 r_rchairOf), (r_aweight, hcI k 8 r_rweight), (r_aload, hcI k 4 w19), (r_aheads, hcI k 4 w20)]) H := hP
    have hD : va_D A ([(r_aheight, hcI k 8 r_rheight), (r_acane, hcI k 4 r_rcane), (r, .inr (2, [.int r_told, .int r_strands, .int r_chairs, .int r_sitters, .ref r_atoldCane, .ref r_aheight, .ref r_astrandOf, .ref r_achairOf, .ref r_aweight, .ref r_acane, .int w18, .int r_dropped, .int r_minute, .ref r_aload, .ref r_aheads, .int r_held, .int r_heldDown])), (r_astrandOf, hcI k 8 r_rstrandOf), (r_achairOf, hcI k 8 r_rchairOf), (r_aweight, hcI k 8 r_rweight), (r_aload, hcI k 4 w19), (r_aheads, hcI k 4 w20)]) := hD
    refine lv_aload_n hx hb dX3_turn_18 rfl (lv_at hl 0 rfl) ?_
    refine hc_Vi (As := []) (rest := []) (n := 0) (wr := []) hx hb hml hown hts hG hA hP hD hS hl.1 [2, 0, 3, 4, 5, 1, 6, 7] [] (i_X3_settle l D k _ r r_told r_strands r_chairs r_sitters r_atoldCane r_aheight r_astrandOf r_achairOf r_aweight r_acane w18 r_dropped r_minute r_aload r_aheads r_held r_heldDown r_rheight r_rstrandOf r_rchairOf r_rweight r_rcane w19 w20 ⟨by omega, by omega⟩ ⟨by omega, by omega⟩ ⟨by omega, by omega⟩ ⟨by omega, by omega⟩ h_r_rstrandOf h_r_rchairOf) (ci := 2) (q0 := 2) rfl rfl gX3_turn_X3_settle rfl ⟨rfl, rfl, Nat.le_of_ble_eq_true rfl, Nat.le_of_ble_eq_true rfl⟩ (by decide +kernel) rfl rfl ⟨by decide, by decide, by decide⟩ ⟨rfl, rfl, Nat.le_of_ble_eq_true rfl, Nat.le_of_ble_eq_true rfl, Nat.le_of_ble_eq_true rfl⟩ dX3_turn_19 (fun r22 u21 H locs hw hP hD hS => ?_)
    obtain ⟨w23, w24, w25, w26⟩ := u21
    have hP : va_P D vwCl ([(r, .inr (2, [.int r_told, .int r_strands, .int r_chairs, .int r_sitters, .ref r_atoldCane, .ref r_aheight, .ref r_astrandOf, .ref r_achairOf, .ref r_aweight, .ref r_acane, .int w23, .int w24, .int r_minute, .ref r_aload, .ref r_aheads, .int r_held, .int r_heldDown])), (r_aheight, hcI k 8 r_rheight), (r_astrandOf, hcI k 8 r_rstrandOf), (r_achairOf, hcI k 8 r_rchairOf), (r_aweight, hcI k 8 r_rweight), (r_acane, hcI k 4 r_rcane), (r_aload, hcI k 4 w25), (r_aheads, hcI k 4 w26)]) H := hP
    have hD : va_D A ([(r, .inr (2, [.int r_told, .int r_strands, .int r_chairs, .int r_sitters, .ref r_atoldCane, .ref r_aheight, .ref r_astrandOf, .ref r_achairOf, .ref r_aweight, .ref r_acane, .int w23, .int w24, .int r_minute, .ref r_aload, .ref r_aheads, .int r_held, .int r_heldDown])), (r_aheight, hcI k 8 r_rheight), (r_astrandOf, hcI k 8 r_rstrandOf), (r_achairOf, hcI k 8 r_rchairOf), (r_aweight, hcI k 8 r_rweight), (r_acane, hcI k 4 r_rcane), (r_aload, hcI k 4 w25), (r_aheads, hcI k 4 w26)]) := hD
    refine lv_pop hx hb dX3_turn_22 rfl ?_
    exact hc_endV hx hb hr hlocks (w23, w24, w25, w26) trivial hP hD hS dX3_turn_23
set_option maxHeartbeats 4000000 in
set_option maxRecDepth 100000 in
theorem i_X3_restart (l : Launch) (D : va_G) (k : Nat → ClassId) (sz : Nat) (r : Nat) (r_told : Int32) (r_strands : Int32) (r_chairs : Int32) (r_sitters : Int32) (r_atoldCane : Nat) (r_aheight : Nat) (r_astrandOf : Nat) (r_achairOf : Nat) (r_aweight : Nat) (r_acane : Nat) (r_sits : Int32) (r_dropped : Int32) (r_minute : Int32) (r_aload : Nat) (r_aheads : Nat) (r_held : Int32) (r_heldDown : Int32) (r_rtoldCane : Nat → Int32) (r_rheight : Nat → Int32) (r_rstrandOf : Nat → Int32) (r_rchairOf : Nat → Int32) (r_rweight : Nat → Int32) (r_rcane : Nat → Int32) (r_rload : Nat → Int32) (r_rheads : Nat → Int32) (h_r_told : iv (0) (1) r_told) (h_r_strands : iv (0) (4) r_strands) (h_r_chairs : iv (0) (8) r_chairs) (h_r_sitters : iv (0) (8) r_sitters) (h_r_rstrandOf : rowIn (0) (3) r_rstrandOf) (h_r_rchairOf : rowIn (0) (7) r_rchairOf) : CtV l yX3_restart wsX3_restart (rmK 3 0 0) [.ref r] D k sz ([(r, .inr (2, [.int r_told, .int r_strands, .int r_chairs, .int r_sitters, .ref r_atoldCane, .ref r_aheight, .ref r_astrandOf, .ref r_achairOf, .ref r_aweight, .ref r_acane, .int r_sits, .int r_dropped, .int r_minute, .ref r_aload, .ref r_aheads, .int r_held, .int r_heldDown])), (r_atoldCane, hcI k 4 r_rtoldCane), (r_aheight, hcI k 8 r_rheight), (r_astrandOf, hcI k 8 r_rstrandOf), (r_achairOf, hcI k 8 r_rchairOf), (r_aweight, hcI k 8 r_rweight), (r_acane, hcI k 4 r_rcane), (r_aload, hcI k 4 r_rload), (r_aheads, hcI k 4 r_rheads)]) (fun u : (Int32) × (Int32) × (Int32) × (Int32) × (Nat → Int32) × (Nat → Int32) × (Nat → Int32) => True) (fun u : (Int32) × (Int32) × (Int32) × (Int32) × (Nat → Int32) × (Nat → Int32) × (Nat → Int32) => [(r, .inr (2, [.int r_told, .int r_strands, .int r_chairs, .int r_sitters, .ref r_atoldCane, .ref r_aheight, .ref r_astrandOf, .ref r_achairOf, .ref r_aweight, .ref r_acane, .int (u.1), .int (u.2.1), .int (u.2.2.1), .ref r_aload, .ref r_aheads, .int (u.2.2.2.1), .int r_heldDown])), (r_atoldCane, hcI k 4 r_rtoldCane), (r_aheight, hcI k 8 r_rheight), (r_astrandOf, hcI k 8 r_rstrandOf), (r_achairOf, hcI k 8 r_rchairOf), (r_aweight, hcI k 8 r_rweight), (r_acane, hcI k 4 (u.2.2.2.2.1)), (r_aload, hcI k 4 (u.2.2.2.2.2.1)), (r_aheads, hcI k 4 (u.2.2.2.2.2.2))]) 0 0 := by
  have h_r_told_l := h_r_told.1
  have h_r_told_u := h_r_told.2
  have h_r_strands_l := h_r_strands.1
  have h_r_strands_u := h_r_strands.2
  have h_r_chairs_l := h_r_chairs.1
  have h_r_chairs_u := h_r_chairs.2
  have h_r_sitters_l := h_r_sitters.1
  have h_r_sitters_u := h_r_sitters.2
  refine CtV.mk (cc := cX3_restart) (maxL := 1) (ret := none) (by decide) rfl (Nat.le_of_ble_eq_true rfl) ?_
  intro p e s m below meth c A ls E hP hD hS hl
  obtain ⟨hx, hb, hr, hml, hown, hts, hlocks, hin, hG, hA⟩ := E
  have hown : s.vm.findClass RX3 = some m.cls := hown
  have in3 : ∀ w ∈ u_ws RX3 TX3 17, w ∈ wsX3_restart := fun _ h => List.mem_cons_of_mem _ (List.mem_append_right _ h)
  have hl : lv_has ls 1 [(0, .ref r)] := hl
  refine lv_aload_n hx hb dX3_restart_0 rfl (lv_at hl 0 rfl) ?_
  refine va_get (D := D) (ci := 2) (v := .ref r_atoldCane) (C := RX3) (T := TX3) (N := 17) hx hb hts in3 hown hG.1 hP 0 rfl rfl 4 (by decide) (hts (.fieldLink RX3 25 "ChairCane$Room" "toldCane" "[I") (by decide +kernel)) (fun _ h9 => h9) rfl dX3_restart_1 ?_
  refine lv_iconst (v := 0) hx hb dX3_restart_4 (by decide) ?_
  refine lv_aload_n hx hb dX3_restart_5 rfl (lv_at hl 0 rfl) ?_
  refine va_get (D := D) (ci := 2) (v := .ref r_acane) (C := RX3) (T := TX3) (N := 17) hx hb hts in3 hown hG.1 hP 0 rfl rfl 9 (by decide) (hts (.fieldLink RX3 41 "ChairCane$Room" "cane" "[I") (by decide +kernel)) (fun _ h9 => h9) rfl dX3_restart_6 ?_
  refine lv_iconst (v := 0) hx hb dX3_restart_9 (by decide) ?_
  refine lv_iconst (v := 4) hx hb dX3_restart_10 (by decide) ?_
  refine va_copyi hx hb (by rw [hml]; exact hl.1.symm) hown (hts (.methodLink RX3 65 arraycopyName) (by decide +kernel)) (hts (.native arraycopyName) (by decide +kernel)) (hts (.static arraycopyName) (by decide +kernel)) (hts (.initialized "java/lang/System") (by decide +kernel)) hG.1 hP hD hS 1 6 0 0 rfl rfl rfl rfl rfl (by decide) (by decide) (by decide) (by decide) (by decide) (fun _ _ => rfl) (Nat.le_of_ble_eq_true rfl) (Nat.le_of_ble_eq_true rfl) dX3_restart_11 (fun H locs hP hD hS => ?_)
  obtain ⟨f1, ef1⟩ : ∃ f : Nat → Int32, f = va_cpy r_rtoldCane r_rcane (Int32.toNatClampNeg 0) (Int32.toNatClampNeg 0) (Int32.toNatClampNeg 4) := ⟨_, rfl⟩
  rw [← ef1] at hP hD
  have hP : va_P D vwCl ([(r, .inr (2, [.int r_told, .int r_strands, .int r_chairs, .int r_sitters, .ref r_atoldCane, .ref r_aheight, .ref r_astrandOf, .ref r_achairOf, .ref r_aweight, .ref r_acane, .int r_sits, .int r_dropped, .int r_minute, .ref r_aload, .ref r_aheads, .int r_held, .int r_heldDown])), (r_atoldCane, hcI k 4 r_rtoldCane), (r_aheight, hcI k 8 r_rheight), (r_astrandOf, hcI k 8 r_rstrandOf), (r_achairOf, hcI k 8 r_rchairOf), (r_aweight, hcI k 8 r_rweight), (r_acane, hcI k 4 f1), (r_aload, hcI k 4 r_rload), (r_aheads, hcI k 4 r_rheads)]) H := hP
  have hD : va_D A ([(r, .inr (2, [.int r_told, .int r_strands, .int r_chairs, .int r_sitters, .ref r_atoldCane, .ref r_aheight, .ref r_astrandOf, .ref r_achairOf, .ref r_aweight, .ref r_acane, .int r_sits, .int r_dropped, .int r_minute, .ref r_aload, .ref r_aheads, .int r_held, .int r_heldDown])), (r_atoldCane, hcI k 4 r_rtoldCane), (r_aheight, hcI k 8 r_rheight), (r_astrandOf, hcI k 8 r_rstrandOf), (r_achairOf, hcI k 8 r_rchairOf), (r_aweight, hcI k 8 r_rweight), (r_acane, hcI k 4 f1), (r_aload, hcI k 4 r_rload), (r_aheads, hcI k 4 r_rheads)]) := hD
  refine lv_aload_n hx hb dX3_restart_14 rfl (lv_at hl 0 rfl) ?_
  refine lv_iconst (v := 0) hx hb dX3_restart_15 (by decide) ?_
  refine va_put (D := D) (ci := 2) (v := .int 0) (C := RX3) (T := TX3) (N := 17) hx hb hts in3 tyX3 tyX3_ok nmX3 hown hG.1 hP hD hS 0 rfl rfl 10 (by decide) (hts (.fieldLink RX3 44 "ChairCane$Room" "sits" "I") (by decide +kernel)) (fun _ h9 => h9) rfl (tyX3_ok 10 (by decide)) rfl rfl (Nat.le_of_ble_eq_true rfl) dX3_restart_16 (fun H locs hP hD hS => ?_)
  have hP : va_P D vwCl ([(r, .inr (2, [.int r_told, .int r_strands, .int r_chairs, .int r_sitters, .ref r_atoldCane, .ref r_aheight, .ref r_astrandOf, .ref r_achairOf, .ref r_aweight, .ref r_acane, .int 0, .int r_dropped, .int r_minute, .ref r_aload, .ref r_aheads, .int r_held, .int r_heldDown])), (r_atoldCane, hcI k 4 r_rtoldCane), (r_aheight, hcI k 8 r_rheight), (r_astrandOf, hcI k 8 r_rstrandOf), (r_achairOf, hcI k 8 r_rchairOf), (r_aweight, hcI k 8 r_rweight), (r_acane, hcI k 4 f1), (r_aload, hcI k 4 r_rload), (r_aheads, hcI k 4 r_rheads)]) H := hP
  have hD : va_D A ([(r, .inr (2, [.int r_told, .int r_strands, .int r_chairs, .int r_sitters, .ref r_atoldCane, .ref r_aheight, .ref r_astrandOf, .ref r_achairOf, .ref r_aweight, .ref r_acane, .int 0, .int r_dropped, .int r_minute, .ref r_aload, .ref r_aheads, .int r_held, .int r_heldDown])), (r_atoldCane, hcI k 4 r_rtoldCane), (r_aheight, hcI k 8 r_rheight), (r_astrandOf, hcI k 8 r_rstrandOf), (r_achairOf, hcI k 8 r_rchairOf), (r_aweight, hcI k 8 r_rweight), (r_acane, hcI k 4 f1), (r_aload, hcI k 4 r_rload), (r_aheads, hcI k 4 r_rheads)]) := hD
  refine lv_aload_n hx hb dX3_restart_19 rfl (lv_at hl 0 rfl) ?_
  refine lv_iconst (v := 0) hx hb dX3_restart_20 (by decide) ?_
  refine va_put (D := D) (ci := 2) (v := .int 0) (C := RX3) (T := TX3) (N := 17) hx hb hts in3 tyX3 tyX3_ok nmX3 hown hG.1 hP hD hS 0 rfl rfl 11 (by decide) (hts (.fieldLink RX3 47 "ChairCane$Room" "dropped" "I") (by decide +kernel)) (fun _ h9 => h9) rfl (tyX3_ok 11 (by decide)) rfl rfl (Nat.le_of_ble_eq_true rfl) dX3_restart_21 (fun H locs hP hD hS => ?_)
  have hP : va_P D vwCl ([(r, .inr (2, [.int r_told, .int r_strands, .int r_chairs, .int r_sitters, .ref r_atoldCane, .ref r_aheight, .ref r_astrandOf, .ref r_achairOf, .ref r_aweight, .ref r_acane, .int 0, .int 0, .int r_minute, .ref r_aload, .ref r_aheads, .int r_held, .int r_heldDown])), (r_atoldCane, hcI k 4 r_rtoldCane), (r_aheight, hcI k 8 r_rheight), (r_astrandOf, hcI k 8 r_rstrandOf), (r_achairOf, hcI k 8 r_rchairOf), (r_aweight, hcI k 8 r_rweight), (r_acane, hcI k 4 f1), (r_aload, hcI k 4 r_rload), (r_aheads, hcI k 4 r_rheads)]) H := hP
  have hD : va_D A ([(r, .inr (2, [.int r_told, .int r_strands, .int r_chairs, .int r_sitters, .ref r_atoldCane, .ref r_aheight, .ref r_astrandOf, .ref r_achairOf, .ref r_aweight, .ref r_acane, .int 0, .int 0, .int r_minute, .ref r_aload, .ref r_aheads, .int r_held, .int r_heldDown])), (r_atoldCane, hcI k 4 r_rtoldCane), (r_aheight, hcI k 8 r_rheight), (r_astrandOf, hcI k 8 r_rstrandOf), (r_achairOf, hcI k 8 r_rchairOf), (r_aweight, hcI k 8 r_rweight), (r_acane, hcI k 4 f1), (r_aload, hcI k 4 r_rload), (r_aheads, hcI k 4 r_rheads)]) := hD
  refine lv_aload_n hx hb dX3_restart_24 rfl (lv_at hl 0 rfl) ?_
  refine lv_iconst (v := 0) hx hb dX3_restart_25 (by decide) ?_
  refine va_put (D := D) (ci := 2) (v := .int 0) (C := RX3) (T := TX3) (N := 17) hx hb hts in3 tyX3 tyX3_ok nmX3 hown hG.1 hP hD hS 0 rfl rfl 12 (by decide) (hts (.fieldLink RX3 50 "ChairCane$Room" "minute" "I") (by decide +kernel)) (fun _ h9 => h9) rfl (tyX3_ok 12 (by decide)) rfl rfl (Nat.le_of_ble_eq_true rfl) dX3_restart_26 (fun H locs hP hD hS => ?_)
  have hP : va_P D vwCl ([(r, .inr (2, [.int r_told, .int r_strands, .int r_chairs, .int r_sitters, .ref r_atoldCane, .ref r_aheight, .ref r_astrandOf, .ref r_achairOf, .ref r_aweight, .ref r_acane, .int 0, .int 0, .int 0, .ref r_aload, .ref r_aheads, .int r_held, .int r_heldDown])), (r_atoldCane, hcI k 4 r_rtoldCane), (r_aheight, hcI k 8 r_rheight), (r_astrandOf, hcI k 8 r_rstrandOf), (r_achairOf, hcI k 8 r_rchairOf), (r_aweight, hcI k 8 r_rweight), (r_acane, hcI k 4 f1), (r_aload, hcI k 4 r_rload), (r_aheads, hcI k 4 r_rheads)]) H := hP
  have hD : va_D A ([(r, .inr (2, [.int r_told, .int r_strands, .int r_chairs, .int r_sitters, .ref r_atoldCane, .ref r_aheight, .ref r_astrandOf, .ref r_achairOf, .ref r_aweight, .ref r_acane, .int 0, .int 0, .int 0, .ref r_aload, .ref r_aheads, .int r_held, .int r_heldDown])), (r_atoldCane, hcI k 4 r_rtoldCane), (r_aheight, hcI k 8 r_rheight), (r_astrandOf, hcI k 8 r_rstrandOf), (r_achairOf, hcI k 8 r_rchairOf), (r_aweight, hcI k 8 r_rweight), (r_acane, hcI k 4 f1), (r_aload, hcI k 4 r_rload), (r_aheads, hcI k 4 r_rheads)]) := hD
  refine lv_aload_n hx hb dX3_restart_29 rfl (lv_at hl 0 rfl) ?_
  refine lv_iconst (v := 0) hx hb dX3_restart_30 (by decide) ?_
  refine va_put (D := D) (ci := 2) (v := .int 0) (C := RX3) (T := TX3) (N := 17) hx hb hts in3 tyX3 tyX3_ok nmX3 hown hG.1 hP hD hS 0 rfl rfl 15 (by decide) (hts (.fieldLink RX3 59 "ChairCane$Room" "held" "I") (by decide +kernel)) (fun _ h9 => h9) rfl (tyX3_ok 15 (by decide)) rfl rfl (Nat.le_of_ble_eq_true rfl) dX3_restart_31 (fun H locs hP hD hS => ?_)
  have hP : va_P D vwCl ([(r, .inr (2, [.int r_told, .int r_strands, .int r_chairs, .int r_sitters, .ref r_atoldCane, .ref r_aheight, .ref r_astrandOf, .ref r_achairOf, .ref r_aweight, .ref r_acane, .int 0, .int 0, .int 0, .ref r_aload, .ref r_aheads, .int 0, .int r_heldDown])), (r_atoldCane, hcI k 4 r_rtoldCane), (r_aheight, hcI k 8 r_rheight), (r_astrandOf, hcI k 8 r_rstrandOf), (r_achairOf, hcI k 8 r_rchairOf), (r_aweight, hcI k 8 r_rweight), (r_acane, hcI k 4 f1), (r_aload, hcI k 4 r_rload), (r_aheads, hcI k 4 r_rheads)]) H := hP
  have hD : va_D A ([(r, .inr (2, [.int r_told, .int r_strands, .int r_chairs, .int r_sitters, .ref r_atoldCane, .ref r_aheight, .ref r_astrandOf, .ref r_achairOf, .ref r_aweight, .ref r_acane, .int 0, .int 0, .int 0, .ref r_aload, .ref r_aheads, .int 0, .int r_heldDown])), (r_atoldCane, hcI k 4 r_rtoldCane), (r_aheight, hcI k 8 r_rheight), (r_astrandOf, hcI k 8 r_rstrandOf), (r_achairOf, hcI k 8 r_rchairOf), (r_aweight, hcI k 8 r_rweight), (r_acane, hcI k 4 f1), (r_aload, hcI k 4 r_rload), (r_aheads, hcI k 4 r_rheads)]) := hD
  refine lv_aload_n hx hb dX3_restart_34 rfl (lv_at hl 0 rfl) ?_
  refine hc_Vv (As := []) (rest := []) (n := 0) (wr := [(r_atoldCane, hcI k 4 r_rtoldCane), (r_aheight, hcI k 8 r_rheight), (r_acane, hcI k 4 f1)]) hx hb hml hown hts hG hA hP hD hS hl.1 [0, 3, 4, 5, 7, 8] [1, 2, 6] (i_X3_weigh l D k _ r r_told r_strands r_chairs r_sitters r_atoldCane r_aheight r_astrandOf r_achairOf r_aweight r_acane 0 0 0 r_aload r_aheads 0 r_heldDown r_rstrandOf r_rchairOf r_rweight r_rload r_rheads ⟨by omega, by omega⟩ ⟨by omega, by omega⟩ ⟨by omega, by omega⟩ ⟨by omega, by omega⟩ h_r_rstrandOf h_r_rchairOf) (ci := 2) (q0 := 0) rfl rfl gX3_restart_X3_weigh rfl ⟨rfl, rfl, Nat.le_of_ble_eq_true rfl, Nat.le_of_ble_eq_true rfl⟩ (by decide +kernel) rfl rfl ⟨by decide, by decide, by decide⟩ ⟨rfl, rfl, Nat.le_of_ble_eq_true rfl, Nat.le_of_ble_eq_true rfl, Nat.le_of_ble_eq_true rfl⟩ dX3_restart_35 (fun u2 H locs hw hP hD hS => ?_)
  obtain ⟨w4, w5⟩ := u2
  have hP : va_P D vwCl ([(r_atoldCane, hcI k 4 r_rtoldCane), (r_aheight, hcI k 8 r_rheight), (r_acane, hcI k 4 f1), (r, .inr (2, [.int r_told, .int r_strands, .int r_chairs, .int r_sitters, .ref r_atoldCane, .ref r_aheight, .ref r_astrandOf, .ref r_achairOf, .ref r_aweight, .ref r_acane, .int 0, .int 0, .int 0, .ref r_aload, .ref r_aheads, .int 0, .int r_heldDown])), (r_astrandOf, hcI k 8 r_rstrandOf), (r_achairOf, hcI k 8 r_rchairOf), (r_aweight, hcI k 8 r_rweight), (r_aload, hcI k 4 w4), (r_aheads, hcI k 4 w5)]) H := hP
  have hD : va_D A ([(r_atoldCane, hcI k 4 r_rtoldCane), (r_aheight, hcI k 8 r_rheight), (r_acane, hcI k 4 f1), (r, .inr (2, [.int r_told, .int r_strands, .int r_chairs, .int r_sitters, .ref r_atoldCane, .ref r_aheight, .ref r_astrandOf, .ref r_achairOf, .ref r_aweight, .ref r_acane, .int 0, .int 0, .int 0, .ref r_aload, .ref r_aheads, .int 0, .int r_heldDown])), (r_astrandOf, hcI k 8 r_rstrandOf), (r_achairOf, hcI k 8 r_rchairOf), (r_aweight, hcI k 8 r_rweight), (r_aload, hcI k 4 w4), (r_aheads, hcI k 4 w5)]) := hD
  exact hc_endV hx hb hr hlocks (0, 0, 0, 0, f1, w4, w5) trivial (hP.sub [3, 0, 1, 4, 5, 6, 2, 7, 8] rfl) (hD.sub [3, 0, 1, 4, 5, 6, 2, 7, 8] (by decide) rfl) hS dX3_restart_38
