/-! 26, 4 -/
noncomputable def f_X9_keepsAll (F : Nat)   (mo : OB) : Option (OB) :=
  Option.bind (f_X9_carriesAll F 4 0 mo) (fun q1 => (some q1))
set_option maxHeartbeats 4000000 in
set_option maxRecDepth 100000 in
theorem c_X9_keepsAll (l : Launch) (D : va_G) (k : Nat → ClassId) (sz : Nat)  (va : Nat → Nat) (F : Nat)   (mo : OB)  {res : OB} (h : f_X9_keepsAll F mo = some res) : CtV l yX9_keepsAll wsX9_keepsAll (rmK 3 0 0) [.ref (va 0)] D k sz (moW k va mo) (fun (_ : Unit) => True) (fun _ : Unit => moW k va res) 0 0 := by
  refine CtV.mk (cc := cX9_keepsAll) (maxL := 1) (ret := none) (by decide) rfl (Nat.le_of_ble_eq_true rfl) ?_
  intro p e s m below meth c A ls E hP hD hS hl
  obtain ⟨hx, hb, hr, hml, hown, hts, hlocks, hin, hG, hA⟩ := E
  have hown : s.vm.findClass RX9 = some m.cls := hown
  have in9 : ∀ w ∈ u_ws RX9 TX9 53, w ∈ wsX9_keepsAll := fun _ h => List.mem_cons_of_mem _ (List.mem_append_right _ h)
  have hl : lv_has ls 1 [(0, .ref (va 0))] := hl
  refine lv_aload_n hx hb dX9_keepsAll_0 rfl (lv_at hl 0 rfl) ?_
  refine lv_iconst (v := 4) hx hb dX9_keepsAll_1 (by decide) ?_
  refine lv_iconst (v := 0) hx hb dX9_keepsAll_2 (by decide) ?_
  refine fw_Vv (As := [.int 4, .int 0]) (rest := []) (n := 2) (wr := []) (wp := fun b : OB => moW k va b) h hx hb hml hown hts hG hA hP hD hS hl.1 (List.range (moW k va mo).length) [] (fun q hq9 => c_X9_carriesAll l D k _  va F 4 0 mo  hq9) (ci := 7) (q0 := 0) rfl rfl gX9_keepsAll_X9_carriesAll rfl ⟨rfl, rfl, Nat.le_of_ble_eq_true rfl, Nat.le_of_ble_eq_true rfl⟩ (by decide +kernel) (al_C _) rfl (al_n _) ⟨rfl, rfl, Nat.le_of_ble_eq_true rfl, Nat.le_of_ble_eq_true rfl, Nat.le_of_ble_eq_true rfl⟩ dX9_keepsAll_3 (fun q1 H locs h hP hD hS => ?_)
  have hP : va_P D vwCl (moW k va q1) H := hP
  have hD : va_D A (moW k va q1) := hD
  exact fw_endV (wp := fun b : OB => moW k va b) hx hb hr hlocks h hP hD hS dX9_keepsAll_6
noncomputable def f_X9_laysBack (F : Nat)   (mo : OB) : Option (OB) :=
  Option.bind (f_X9_carriesAll F 4 1 mo) (fun q1 => (some q1))
set_option maxHeartbeats 4000000 in
set_option maxRecDepth 100000 in
theorem c_X9_laysBack (l : Launch) (D : va_G) (k : Nat → ClassId) (sz : Nat)  (va : Nat → Nat) (F : Nat)   (mo : OB)  {res : OB} (h : f_X9_laysBack F mo = some res) : CtV l yX9_laysBack wsX9_laysBack (rmK 3 0 0) [.ref (va 0)] D k sz (moW k va mo) (fun (_ : Unit) => True) (fun _ : Unit => moW k va res) 0 0 := by
  refine CtV.mk (cc := cX9_laysBack) (maxL := 1) (ret := none) (by decide) rfl (Nat.le_of_ble_eq_true rfl) ?_
  intro p e s m below meth c A ls E hP hD hS hl
  obtain ⟨hx, hb, hr, hml, hown, hts, hlocks, hin, hG, hA⟩ := E
  have hown : s.vm.findClass RX9 = some m.cls := hown
  have in9 : ∀ w ∈ u_ws RX9 TX9 53, w ∈ wsX9_laysBack := fun _ h => List.mem_cons_of_mem _ (List.mem_append_right _ h)
  have hl : lv_has ls 1 [(0, .ref (va 0))] := hl
  refine lv_aload_n hx hb dX9_laysBack_0 rfl (lv_at hl 0 rfl) ?_
  refine lv_iconst (v := 4) hx hb dX9_laysBack_1 (by decide) ?_
  refine lv_iconst (v := 1) hx hb dX9_laysBack_2 (by decide) ?_
  refine fw_Vv (As := [.int 4, .int 1]) (rest := []) (n := 2) (wr := []) (wp := fun b : OB => moW k va b) h hx hb hml hown hts hG hA hP hD hS hl.1 (List.range (moW k va mo).length) [] (fun q hq9 => c_X9_carriesAll l D k _  va F 4 1 mo  hq9) (ci := 7) (q0 := 0) rfl rfl gX9_laysBack_X9_carriesAll rfl ⟨rfl, rfl, Nat.le_of_ble_eq_true rfl, Nat.le_of_ble_eq_true rfl⟩ (by decide +kernel) (al_C _) rfl (al_n _) ⟨rfl, rfl, Nat.le_of_ble_eq_true rfl, Nat.le_of_ble_eq_true rfl, Nat.le_of_ble_eq_true rfl⟩ dX9_laysBack_3 (fun q1 H locs h hP hD hS => ?_)
  have hP : va_P D vwCl (moW k va q1) H := hP
  have hD : va_D A (moW k va q1) := hD
  exact fw_endV (wp := fun b : OB => moW k va b) hx hb hr hlocks h hP hD hS dX9_laysBack_6
noncomputable def b_X9_ahead_44 (F : Nat)    (mo : OB) : Option (Int32 × OB) :=
  some ((-1), mo)
noncomputable def b_X9_ahead_89 (F : Nat)    (y0 : Int32) (mo : OB) : Option (Int32 × OB) :=
  Option.bind (f_X9_laysBack F mo) (fun q1 => (some (y0, q1)))
noncomputable def b_X9_ahead_32 (F : Nat)    (v1 : Int32) (v2 : Int32) (v3 : Int32) (mo : OB) : Option (Int32 × OB) :=
  Option.bind (f_X9_in F (Int32.toInt64 v2) 0 100) (fun q2 => (if q2 = 0 then (b_X9_ahead_44 F mo) else (Option.bind (f_X9_keepsAll F mo) (fun q4 => (Option.bind (f_X9_goFor F v2 q4) (fun q5 => (if v3 = 0 then (if ib v1 8 then (b_X9_ahead_89 F ((q5.2.1 3) (Int32.toNatClampNeg v1)) q5) else none) else (if v3 = 1 then (Option.bind (f_X9_givesNow F v1 q5) (fun q10 => (b_X9_ahead_89 F q10 q5))) else (Option.bind (f_X9_those F 2 q5) (fun q8 => (Option.bind (f_X9_bits F q8) (fun q9 => (b_X9_ahead_89 F q9 q5)))))))))))))
noncomputable def f_X9_ahead (F : Nat)  (x1 : Int32) (x2 : Int32) (x3 : Int32) (mo : OB) : Option (Int32 × OB) :=
  Option.bind (f_X9_isHall F mo) (fun q12 => (if q12 = 0 then (b_X9_ahead_44 F mo) else (Option.bind (f_X9_in F (Int32.toInt64 x3) 0 2) (fun q14 => (if q14 = 0 then (b_X9_ahead_44 F mo) else (if 2 ≤ x3 then (b_X9_ahead_32 F x1 x2 x3 mo) else (Option.bind (f_X9_isSitter F x1 mo) (fun q17 => (if q17 = 0 then (b_X9_ahead_44 F mo) else (b_X9_ahead_32 F x1 x2 x3 mo))))))))))
set_option maxHeartbeats 4000000 in
set_option maxRecDepth 100000 in
theorem c_X9_ahead (l : Launch) (D : va_G) (k : Nat → ClassId) (sz : Nat)  (va : Nat → Nat) (F : Nat)  (x1 : Int32) (x2 : Int32) (x3 : Int32) (mo : OB)  {res : Int32 × OB} (h : f_X9_ahead F x1 x2 x3 mo = some res) : CtI l yX9_ahead wsX9_ahead (rmK 8 0 0) [.ref (va 0), .int x1, .int x2, .int x3] D k sz (moW k va mo) (fun r (_ : Unit) => r = res.1) (fun _ : Unit => moW k va res.2) 0 0 := by
  refine CtI.mk (cc := cX9_ahead) (maxL := 5) (ret := (some .int)) (by decide) rfl (Nat.le_of_ble_eq_true rfl) ?_
  intro p e s m below meth c A ls E hP hD hS hl
  obtain ⟨hx, hb, hr, hml, hown, hts, hlocks, hin, hG, hA⟩ := E
  have hown : s.vm.findClass RX9 = some m.cls := hown
  have in9 : ∀ w ∈ u_ws RX9 TX9 53, w ∈ wsX9_ahead := fun _ h => List.mem_cons_of_mem _ (List.mem_append_right _ h)
  have hl : lv_has ls 5 [(0, .ref (va 0)), (1, .int x1), (2, .int x2), (3, .int x3)] := hl
  have B44 : ∀ (mo : OB) (H : Heap) (locs : List Loc) (ls : Array Slot), b_X9_ahead_44 F mo = some res → va_P D vwCl (moW k va mo) H → va_D A (moW k va mo) → va_S A s.heap H locs → lv_has ls 5 [] → W p l e (rmK 8 0 0) s m (List.toArray [.ref (va 0), .int x1, .int x2, .int x3]) below meth c H locs 0 0 (MQ below (va_Qi (fun r (_ : Unit) => r = res.1) (hcB D (fun _ : Unit => moW k va res.2) A) A) (List.toArray [.ref (va 0), .int x1, .int x2, .int x3]) s 0 0 A) (F0 m 44 ls []) := by
    intro mo H locs ls h hP hD hS hl
    refine lv_iconst (v := (-1)) hx hb dX9_ahead_44 (by decide) ?_
    exact fw_endI (rv := fun b : Int32 × OB => b.1) (wp := fun b : Int32 × OB => moW k va b.2) hx hb hr hlocks h rfl hP hD hS dX9_ahead_45
  have B89 : ∀ (y0 : Int32) (mo : OB) (H : Heap) (locs : List Loc) (ls : Array Slot), b_X9_ahead_89 F y0 mo = some res → va_P D vwCl (moW k va mo) H → va_D A (moW k va mo) → va_S A s.heap H locs → lv_has ls 5 [(0, .ref (va 0))] → W p l e (rmK 8 0 0) s m (List.toArray [.ref (va 0), .int x1, .int x2, .int x3]) below meth c H locs 0 0 (MQ below (va_Qi (fun r (_ : Unit) => r = res.1) (hcB D (fun _ : Unit => moW k va res.2) A) A) (List.toArray [.ref (va 0), .int x1, .int x2, .int x3]) s 0 0 A) (F0 m 89 ls [.int y0]) := by
    intro y0 mo H locs ls h hP hD hS hl
    refine lv_istore (lv' := [(4, .int y0), (0, .ref (va 0))]) hx hb dX9_ahead_89 hl (by decide) rfl (fun ls hl => ?_)
    refine lv_aload_n hx hb dX9_ahead_91 rfl (lv_at hl 1 rfl) ?_
    refine fw_Vv (As := []) (rest := []) (n := 0) (wr := []) (wp := fun b : OB => moW k va b) h hx hb hml hown hts hG hA hP hD hS hl.1 (List.range (moW k va mo).length) [] (fun q hq9 => c_X9_laysBack l D k _  va F  mo  hq9) (ci := 7) (q0 := 0) rfl rfl gX9_ahead_X9_laysBack rfl ⟨rfl, rfl, Nat.le_of_ble_eq_true rfl, Nat.le_of_ble_eq_true rfl⟩ (by decide +kernel) (al_C _) rfl (al_n _) ⟨rfl, rfl, Nat.le_of_ble_eq_true rfl, Nat.le_of_ble_eq_true rfl, Nat.le_of_ble_eq_true rfl⟩ dX9_ahead_92 (fun q1 H locs h hP hD hS => ?_)
    have hP : va_P D vwCl (moW k va q1) H := hP
    have hD : va_D A (moW k va q1) := hD
    refine lv_iload hx hb dX9_ahead_95 (lv_at hl 0 rfl) ?_
    exact fw_endI (rv := fun b : Int32 × OB => b.1) (wp := fun b : Int32 × OB => moW k va b.2) hx hb hr hlocks h rfl hP hD hS dX9_ahead_97
  have B32 : ∀ (v1 : Int32) (v2 : Int32) (v3 : Int32) (mo : OB) (H : Heap) (locs : List Loc) (ls : Array Slot), b_X9_ahead_32 F v1 v2 v3 mo = some res → va_P D vwCl (moW k va mo) H → va_D A (moW k va mo) → va_S A s.heap H locs → lv_has ls 5 [(0, .ref (va 0)), (1, .int v1), (2, .int v2), (3, .int v3)] → W p l e (rmK 8 0 0) s m (List.toArray [.ref (va 0), .int x1, .int x2, .int x3]) below meth c H locs 0 0 (MQ below (va_Qi (fun r (_ : Unit) => r = res.1) (hcB D (fun _ : Unit => moW k va res.2) A) A) (List.toArray [.ref (va 0), .int x1, .int x2, .int x3]) s 0 0 A) (F0 m 32 ls []) := by
    intro v1 v2 v3 mo H locs ls h hP hD hS hl
    refine lv_iload_n hx hb dX9_ahead_32 rfl (lv_at hl 2 rfl) ?_
    refine lv_i2l hx hb dX9_ahead_33 rfl ?_
    refine lv_lconst (v := 0) hx hb dX9_ahead_34 (by decide) ?_
    refine lv_ldc2 (v := 100) hx hb hown (hts (.constantLong RX9 418 (100)) (mem_b bq_wsX9_ahead 0 1 rfl)) dX9_ahead_35 ?_
    refine fw_Si (As := [.long (Int32.toInt64 v2), .long 0, .long 100]) (rest := []) (n := 3) (wr := moW k va mo) (rv := fun b : Int32 => b) (wp := fun b : Int32 => []) h hx hb hml hown hts hG hA hP hD hS hl.1 [] (List.range (moW k va mo).length) (fun q hq9 => c_X9_in l D k _   F (Int32.toInt64 v2) 0 100   hq9) gX9_ahead_X9_in rfl ⟨rfl, rfl, Nat.le_of_ble_eq_true rfl, Nat.le_of_ble_eq_true rfl⟩ (by decide +kernel) rfl (al_C _) (al_m _) ⟨rfl, rfl, Nat.le_of_ble_eq_true rfl, Nat.le_of_ble_eq_true rfl, Nat.le_of_ble_eq_true rfl⟩ dX9_ahead_38 (fun q2 H locs h hP hD hS => ?_)
    have hP : va_P D vwCl ((moW k va mo) ++ []) H := hP
    have hD : va_D A ((moW k va mo) ++ []) := hD
    rw [List.append_nil] at hP hD
    refine hc_is (z := q2) rfl ?_
    refine lv_if_ne (tgt := 46) hx hb dX9_ahead_41 (by decide) (fun c3 => ?_) (fun c3 => ?_)
    · have h := fw_f c3 h
      refine lv_aload_n hx hb dX9_ahead_46 rfl (lv_at hl 0 rfl) ?_
      refine fw_Vv (As := []) (rest := []) (n := 0) (wr := []) (wp := fun b : OB => moW k va b) h hx hb hml hown hts hG hA hP hD hS hl.1 (List.range (moW k va mo).length) [] (fun q hq9 => c_X9_keepsAll l D k _  va F  mo  hq9) (ci := 7) (q0 := 0) rfl rfl gX9_ahead_X9_keepsAll rfl ⟨rfl, rfl, Nat.le_of_ble_eq_true rfl, Nat.le_of_ble_eq_true rfl⟩ (by decide +kernel) (al_C _) rfl (al_n _) ⟨rfl, rfl, Nat.le_of_ble_eq_true rfl, Nat.le_of_ble_eq_true rfl, Nat.le_of_ble_eq_true rfl⟩ dX9_ahead_47 (fun q4 H locs h hP hD hS => ?_)
      have hP : va_P D vwCl (moW k va q4) H := hP
      have hD : va_D A (moW k va q4) := hD
      refine lv_aload_n hx hb dX9_ahead_50 rfl (lv_at hl 0 rfl) ?_
      refine lv_iload_n hx hb dX9_ahead_51 rfl (lv_at hl 2 rfl) ?_
      refine fw_Vv (As := [.int v2]) (rest := []) (n := 1) (wr := []) (wp := fun b : OB => moW k va b) h hx hb hml hown hts hG hA hP hD hS hl.1 (List.range (moW k va q4).length) [] (fun q hq9 => c_X9_goFor l D k _  va F v2 q4  hq9) (ci := 7) (q0 := 0) rfl rfl gX9_ahead_X9_goFor rfl ⟨rfl, rfl, Nat.le_of_ble_eq_true rfl, Nat.le_of_ble_eq_true rfl⟩ (by decide +kernel) (al_C _) rfl (al_n _) ⟨rfl, rfl, Nat.le_of_ble_eq_true rfl, Nat.le_of_ble_eq_true rfl, Nat.le_of_ble_eq_true rfl⟩ dX9_ahead_52 (fun q5 H locs h hP hD hS => ?_)
      have hP : va_P D vwCl (moW k va q5) H := hP
      have hD : va_D A (moW k va q5) := hD
      refine lv_iload_n hx hb dX9_ahead_55 rfl (lv_at hl 3 rfl) ?_
      refine lv_if_ne (tgt := 68) hx hb dX9_ahead_56 (by decide) (fun c6 => ?_) (fun c6 => ?_)
      · have h := fw_f c6 h
        refine lv_iload_n hx hb dX9_ahead_68 rfl (lv_at hl 3 rfl) ?_
        refine lv_iconst (v := 1) hx hb dX9_ahead_69 (by decide) ?_
        refine lv_icmp_ne (tgt := 81) hx hb dX9_ahead_70 (by decide) (fun c7 => ?_) (fun c7 => ?_)
        · have h := fw_f c7 h
          refine lv_aload_n hx hb dX9_ahead_81 rfl (lv_at hl 0 rfl) ?_
          refine lv_iconst (v := 2) hx hb dX9_ahead_82 (by decide) ?_
          refine fw_Vi (As := [.int 2]) (rest := []) (n := 1) (wr := []) (rv := fun b : Int32 => b) (wp := fun b : Int32 => moW k va q5) h hx hb hml hown hts hG hA hP hD hS hl.1 (List.range (moW k va q5).length) [] (fun q hq9 => c_X9_those l D k _  va F 2 q5  hq9) (ci := 7) (q0 := 0) rfl rfl gX9_ahead_X9_those rfl ⟨rfl, rfl, Nat.le_of_ble_eq_true rfl, Nat.le_of_ble_eq_true rfl⟩ (by decide +kernel) (al_C _) rfl (al_n _) ⟨rfl, rfl, Nat.le_of_ble_eq_true rfl, Nat.le_of_ble_eq_true rfl, Nat.le_of_ble_eq_true rfl⟩ dX9_ahead_83 (fun q8 H locs h hP hD hS => ?_)
          have hP : va_P D vwCl (moW k va q5) H := hP
          have hD : va_D A (moW k va q5) := hD
          refine hc_is (z := q8) rfl ?_
          refine fw_Si (As := [.int q8]) (rest := []) (n := 1) (wr := moW k va q5) (rv := fun b : Int32 => b) (wp := fun b : Int32 => []) h hx hb hml hown hts hG hA hP hD hS hl.1 [] (List.range (moW k va q5).length) (fun q hq9 => c_X9_bits l D k _   F q8   hq9) gX9_ahead_X9_bits rfl ⟨rfl, rfl, Nat.le_of_ble_eq_true rfl, Nat.le_of_ble_eq_true rfl⟩ (by decide +kernel) rfl (al_C _) (al_m _) ⟨rfl, rfl, Nat.le_of_ble_eq_true rfl, Nat.le_of_ble_eq_true rfl, Nat.le_of_ble_eq_true rfl⟩ dX9_ahead_86 (fun q9 H locs h hP hD hS => ?_)
          have hP : va_P D vwCl ((moW k va q5) ++ []) H := hP
          have hD : va_D A ((moW k va q5) ++ []) := hD
          rw [List.append_nil] at hP hD
          refine hc_is (z := q9) rfl ?_
          exact B89 _ _ _ _ _ h hP hD hS (lv_sub hl [0] rfl)
        · have h := fw_t c7 h
          refine lv_aload_n hx hb dX9_ahead_73 rfl (lv_at hl 0 rfl) ?_
          refine lv_iload_n hx hb dX9_ahead_74 rfl (lv_at hl 1 rfl) ?_
          refine fw_Vi (As := [.int v1]) (rest := []) (n := 1) (wr := []) (rv := fun b : Int32 => b) (wp := fun b : Int32 => moW k va q5) h hx hb hml hown hts hG hA hP hD hS hl.1 (List.range (moW k va q5).length) [] (fun q hq9 => c_X9_givesNow l D k _  va F v1 q5  hq9) (ci := 7) (q0 := 0) rfl rfl gX9_ahead_X9_givesNow rfl ⟨rfl, rfl, Nat.le_of_ble_eq_true rfl, Nat.le_of_ble_eq_true rfl⟩ (by decide +kernel) (al_C _) rfl (al_n _) ⟨rfl, rfl, Nat.le_of_ble_eq_true rfl, Nat.le_of_ble_eq_true rfl, Nat.le_of_ble_eq_true rfl⟩ dX9_ahead_75 (fun q10 H locs h hP hD hS => ?_)
          have hP : va_P D vwCl (moW k va q5) H := hP
          have hD : va_D A (moW k va q5) := hD
          refine hc_is (z := q10) rfl ?_
          refine lv_goto (tgt := 89) hx hb dX9_ahead_78 (by decide) ?_
          exact B89 _ _ _ _ _ h hP hD hS (lv_sub hl [0] rfl)
      · have h := fw_t c6 h
        refine lv_aload_n hx hb dX9_ahead_59 rfl (lv_at hl 0 rfl) ?_
        refine va_get (D := D) (ci := 7) (v := .ref (va 3)) (C := RX9) (T := TX9) (N := 53) hx hb hts in9 hown hG.1 hP 0 rfl rfl 3 (by decide) (hts (.fieldLink RX9 16 "ChairCaneModel" "is" "[I") (mem_b bq_wsX9_ahead 0 2 rfl)) (fun _ h9 => h9) rfl dX9_ahead_60 ?_
        refine lv_iload_n hx hb dX9_ahead_63 rfl (lv_at hl 1 rfl) ?_
        obtain ⟨g11, h⟩ := fw_g h
        refine va_iald hx hb hG.1 hP 3 0 rfl rfl (ib_vp g11) dX9_ahead_64 ?_
        refine lv_goto (tgt := 89) hx hb dX9_ahead_65 (by decide) ?_
        exact B89 _ _ _ _ _ h hP hD hS (lv_sub hl [0] rfl)
    · have h := fw_t c3 h
      exact B44 _ _ _ _ h hP hD hS (lv_sub hl [] rfl)
  refine lv_aload_n hx hb dX9_ahead_0 rfl (lv_at hl 0 rfl) ?_
  refine fw_Vi (As := []) (rest := []) (n := 0) (wr := []) (rv := fun b : Int32 => b) (wp := fun b : Int32 => moW k va mo) h hx hb hml hown hts hG hA hP hD hS hl.1 (List.range (moW k va mo).length) [] (fun q hq9 => c_X9_isHall l D k _  va F  mo  hq9) (ci := 7) (q0 := 0) rfl rfl gX9_ahead_X9_isHall rfl ⟨rfl, rfl, Nat.le_of_ble_eq_true rfl, Nat.le_of_ble_eq_true rfl⟩ (by decide +kernel) (al_C _) rfl (al_n _) ⟨rfl, rfl, Nat.le_of_ble_eq_true rfl, Nat.le_of_ble_eq_true rfl, Nat.le_of_ble_eq_true rfl⟩ dX9_ahead_1 (fun q12 H locs h hP hD hS => ?_)
  have hP : va_P D vwCl (moW k va mo) H := hP
  have hD : va_D A (moW k va mo) := hD
  refine hc_is (z := q12) rfl ?_
  refine lv_if_eq (tgt := 44) hx hb dX9_ahead_4 (by decide) (fun c13 => ?_) (fun c13 => ?_)
  · have h := fw_t c13 h
    exact B44 _ _ _ _ h hP hD hS (lv_sub hl [] rfl)
  · have h := fw_f c13 h
    refine lv_iload_n hx hb dX9_ahead_7 rfl (lv_at hl 3 rfl) ?_
    refine lv_i2l hx hb dX9_ahead_8 rfl ?_
    refine lv_lconst (v := 0) hx hb dX9_ahead_9 (by decide) ?_
    refine lv_ldc2 (v := 2) hx hb hown (hts (.constantLong RX9 365 (2)) (mem_b bq_wsX9_ahead 0 0 rfl)) dX9_ahead_10 ?_
    refine fw_Si (As := [.long (Int32.toInt64 x3), .long 0, .long 2]) (rest := []) (n := 3) (wr := moW k va mo) (rv := fun b : Int32 => b) (wp := fun b : Int32 => []) h hx hb hml hown hts hG hA hP hD hS hl.1 [] (List.range (moW k va mo).length) (fun q hq9 => c_X9_in l D k _   F (Int32.toInt64 x3) 0 2   hq9) gX9_ahead_X9_in rfl ⟨rfl, rfl, Nat.le_of_ble_eq_true rfl, Nat.le_of_ble_eq_true rfl⟩ (by decide +kernel) rfl (al_C _) (al_m _) ⟨rfl, rfl, Nat.le_of_ble_eq_true rfl, Nat.le_of_ble_eq_true rfl, Nat.le_of_ble_eq_true rfl⟩ dX9_ahead_13 (fun q14 H locs h hP hD hS => ?_)
    have hP : va_P D vwCl ((moW k va mo) ++ []) H := hP
    have hD : va_D A ((moW k va mo) ++ []) := hD
    rw [List.append_nil] at hP hD
    refine hc_is (z := q14) rfl ?_
    refine lv_if_eq (tgt := 44) hx hb dX9_ahead_16 (by decide) (fun c15 => ?_) (fun c15 => ?_)
    · have h := fw_t c15 h
      exact B44 _ _ _ _ h hP hD hS (lv_sub hl [] rfl)
    · have h := fw_f c15 h
      refine lv_iload_n hx hb dX9_ahead_19 rfl (lv_at hl 3 rfl) ?_
      refine lv_iconst (v := 2) hx hb dX9_ahead_20 (by decide) ?_
      refine lv_icmp_ge (tgt := 32) hx hb dX9_ahead_21 (by decide) (fun c16 => ?_) (fun c16 => ?_)
      · have h := fw_t c16 h
        exact B32 _ _ _ _ _ _ _ h hP hD hS hl
      · have h := fw_f c16 h
        refine lv_aload_n hx hb dX9_ahead_24 rfl (lv_at hl 0 rfl) ?_
        refine lv_iload_n hx hb dX9_ahead_25 rfl (lv_at hl 1 rfl) ?_
        refine fw_Vi (As := [.int x1]) (rest := []) (n := 1) (wr := []) (rv := fun b : Int32 => b) (wp := fun b : Int32 => moW k va mo) h hx hb hml hown hts hG hA hP hD hS hl.1 (List.range (moW k va mo).length) [] (fun q hq9 => c_X9_isSitter l D k _  va F x1 mo  hq9) (ci := 7) (q0 := 0) rfl rfl gX9_ahead_X9_isSitter rfl ⟨rfl, rfl, Nat.le_of_ble_eq_true rfl, Nat.le_of_ble_eq_true rfl⟩ (by decide +kernel) (al_C _) rfl (al_n _) ⟨rfl, rfl, Nat.le_of_ble_eq_true rfl, Nat.le_of_ble_eq_true rfl, Nat.le_of_ble_eq_true rfl⟩ dX9_ahead_26 (fun q17 H locs h hP hD hS => ?_)
        have hP : va_P D vwCl (moW k va mo) H := hP
        have hD : va_D A (moW k va mo) := hD
        refine hc_is (z := q17) rfl ?_
        refine lv_if_eq (tgt := 44) hx hb dX9_ahead_29 (by decide) (fun c18 => ?_) (fun c18 => ?_)
        · have h := fw_t c18 h
          exact B44 _ _ _ _ h hP hD hS (lv_sub hl [] rfl)
        · have h := fw_f c18 h
          exact B32 _ _ _ _ _ _ _ h hP hD hS hl
noncomputable def b_X9_falls_17 (F : Nat)    (mo : OB) : Option (Int32 × OB) :=
  some ((-1), mo)
noncomputable def b_X9_falls_81 (F : Nat)    (v2 : Int32) (mo : OB) : Option (Int32 × OB) :=
  Option.bind (f_X9_laysBack F mo) (fun q1 => (some (v2, q1)))
noncomputable def b_X9_falls_74 (F : Nat)   (k28 : (Int32 × Int32 × Int32 × OB) → Option (Int32 × OB)) (v1 : Int32) (v3 : Int32) (y0 : Int32) (mo : OB) : Option (Int32 × OB) :=
  k28 (v1, y0, (v3 + 1), mo)
noncomputable def b_X9_falls_28 (F : Nat)    (k28 : (Int32 × Int32 × Int32 × OB) → Option (Int32 × OB)) (a28 : (Int32 × Int32 × Int32 × OB)) : Option (Int32 × OB) :=
  if 200 ≤ a28.2.2.1 then (b_X9_falls_81 F a28.2.1 a28.2.2.2) else (if a28.2.1 = (-2) then (Option.bind (f_X9_goes F a28.2.2.2) (fun q4 => (if q4.1 = 0 then (b_X9_falls_74 F k28 a28.1 a28.2.2.1 (-2) q4.2) else (if a28.1 = 0 then (b_X9_falls_74 F k28 a28.1 a28.2.2.1 (((q4.2.2.1 1) (Int32.toNatClampNeg 4)) - 1) q4.2) else (b_X9_falls_74 F k28 a28.1 a28.2.2.1 q4.1 q4.2))))) else (b_X9_falls_81 F a28.2.1 a28.2.2.2))
noncomputable def f_X9_falls (F : Nat)  (x1 : Int32) (mo : OB) : Option (Int32 × OB) :=
  Option.bind (f_X9_isHall F mo) (fun q7 => (if q7 = 0 then (b_X9_falls_17 F mo) else (Option.bind (f_X9_in F (Int32.toInt64 x1) 0 1) (fun q9 => (if q9 = 0 then (b_X9_falls_17 F mo) else (Option.bind (f_X9_keepsAll F mo) (fun q11 => (lp (b_X9_falls_28 F) F (x1, (-2), 0, q11)))))))))
set_option maxHeartbeats 4000000 in
set_option maxRecDepth 100000 in
theorem c_X9_falls (l : Launch) (D : va_G) (k : Nat → ClassId) (sz : Nat)  (va : Nat → Nat) (F : Nat)  (x1 : Int32) (mo : OB)  {res : Int32 × OB} (h : f_X9_falls F x1 mo = some res) : CtI l yX9_falls wsX9_falls (rmK 7 0 0) [.ref (va 0), .int x1] D k sz (moW k va mo) (fun r (_ : Unit) => r = res.1) (fun _ : Unit => moW k va res.2) 0 0 := by
  refine CtI.mk (cc := cX9_falls) (maxL := 5) (ret := (some .int)) (by decide) rfl (Nat.le_of_ble_eq_true rfl) ?_
  intro p e s m below meth c A ls E hP hD hS hl
  obtain ⟨hx, hb, hr, hml, hown, hts, hlocks, hin, hG, hA⟩ := E
  have hown : s.vm.findClass RX9 = some m.cls := hown
  have in9 : ∀ w ∈ u_ws RX9 TX9 53, w ∈ wsX9_falls := fun _ h => List.mem_cons_of_mem _ (List.mem_append_right _ h)
  have hl : lv_has ls 5 [(0, .ref (va 0)), (1, .int x1)] := hl
  have B17 : ∀ (mo : OB) (H : Heap) (locs : List Loc) (ls : Array Slot), b_X9_falls_17 F mo = some res → va_P D vwCl (moW k va mo) H → va_D A (moW k va mo) → va_S A s.heap H locs → lv_has ls 5 [] → W p l e (rmK 7 0 0) s m (List.toArray [.ref (va 0), .int x1]) below meth c H locs 0 0 (MQ below (va_Qi (fun r (_ : Unit) => r = res.1) (hcB D (fun _ : Unit => moW k va res.2) A) A) (List.toArray [.ref (va 0), .int x1]) s 0 0 A) (F0 m 17 ls []) := by
    intro mo H locs ls h hP hD hS hl
    refine lv_iconst (v := (-1)) hx hb dX9_falls_17 (by decide) ?_
    exact fw_endI (rv := fun b : Int32 × OB => b.1) (wp := fun b : Int32 × OB => moW k va b.2) hx hb hr hlocks h rfl hP hD hS dX9_falls_18
  have B81 : ∀ (v2 : Int32) (mo : OB) (H : Heap) (locs : List Loc) (ls : Array Slot), b_X9_falls_81 F v2 mo = some res → va_P D vwCl (moW k va mo) H → va_D A (moW k va mo) → va_S A s.heap H locs → lv_has ls 5 [(0, .ref (va 0)), (2, .int v2)] → W p l e (rmK 7 0 0) s m (List.toArray [.ref (va 0), .int x1]) below meth c H locs 0 0 (MQ below (va_Qi (fun r (_ : Unit) => r = res.1) (hcB D (fun _ : Unit => moW k va res.2) A) A) (List.toArray [.ref (va 0), .int x1]) s 0 0 A) (F0 m 81 ls []) := by
    intro v2 mo H locs ls h hP hD hS hl
    refine lv_aload_n hx hb dX9_falls_81 rfl (lv_at hl 0 rfl) ?_
    refine fw_Vv (As := []) (rest := []) (n := 0) (wr := []) (wp := fun b : OB => moW k va b) h hx hb hml hown hts hG hA hP hD hS hl.1 (List.range (moW k va mo).length) [] (fun q hq9 => c_X9_laysBack l D k _  va F  mo  hq9) (ci := 7) (q0 := 0) rfl rfl gX9_falls_X9_laysBack rfl ⟨rfl, rfl, Nat.le_of_ble_eq_true rfl, Nat.le_of_ble_eq_true rfl⟩ (by decide +kernel) (al_C _) rfl (al_n _) ⟨rfl, rfl, Nat.le_of_ble_eq_true rfl, Nat.le_of_ble_eq_true rfl, Nat.le_of_ble_eq_true rfl⟩ dX9_falls_82 (fun q1 H locs h hP hD hS => ?_)
    have hP : va_P D vwCl (moW k va q1) H := hP
    have hD : va_D A (moW k va q1) := hD
    refine lv_iload_n hx hb dX9_falls_85 rfl (lv_at hl 1 rfl) ?_
    exact fw_endI (rv := fun b : Int32 × OB => b.1) (wp := fun b : Int32 × OB => moW k va b.2) hx hb hr hlocks h rfl hP hD hS dX9_falls_86
  have B28 : ∀ a28 : (Int32 × Int32 × Int32 × OB), lp (b_X9_falls_28 F) F a28 = some res → ∀ (H : Heap) (locs : List Loc) (ls : Array Slot), va_P D vwCl (moW k va a28.2.2.2) H → va_D A (moW k va a28.2.2.2) → va_S A s.heap H locs → lv_has ls 5 [(0, .ref (va 0)), (1, .int a28.1), (2, .int a28.2.1), (3, .int a28.2.2.1)] → W p l e (rmK 7 0 0) s m (List.toArray [.ref (va 0), .int x1]) below meth c H locs 0 0 (MQ below (va_Qi (fun r (_ : Unit) => r = res.1) (hcB D (fun _ : Unit => moW k va res.2) A) A) (List.toArray [.ref (va 0), .int x1]) s 0 0 A) (F0 m 28 ls []) := by
    refine lp_W ?_ F
    intro k28 hk28 a28 h H locs ls hP hD hS hl
    have hc28 : ∀ (v1 : Int32) (v2 : Int32) (v3 : Int32) (mo : OB), k28 (v1, v2, v3, mo) = some res → ∀ (H : Heap) (locs : List Loc) (ls : Array Slot), va_P D vwCl (moW k va mo) H → va_D A (moW k va mo) → va_S A s.heap H locs → lv_has ls 5 [(0, .ref (va 0)), (1, .int v1), (2, .int v2), (3, .int v3)] → W p l e (rmK 7 0 0) s m (List.toArray [.ref (va 0), .int x1]) below meth c H locs 0 0 (MQ below (va_Qi (fun r (_ : Unit) => r = res.1) (hcB D (fun _ : Unit => moW k va res.2) A) A) (List.toArray [.ref (va 0), .int x1]) s 0 0 A) (F0 m 28 ls []) := fun v1 v2 v3 mo => hk28 (v1, v2, v3, mo)
    have B74 : ∀ (v1 : Int32) (v3 : Int32) (y0 : Int32) (mo : OB) (H : Heap) (locs : List Loc) (ls : Array Slot), b_X9_falls_74 F k28 v1 v3 y0 mo = some res → va_P D vwCl (moW k va mo) H → va_D A (moW k va mo) → va_S A s.heap H locs → lv_has ls 5 [(0, .ref (va 0)), (1, .int v1), (3, .int v3)] → W p l e (rmK 7 0 0) s m (List.toArray [.ref (va 0), .int x1]) below meth c H locs 0 0 (MQ below (va_Qi (fun r (_ : Unit) => r = res.1) (hcB D (fun _ : Unit => moW k va res.2) A) A) (List.toArray [.ref (va 0), .int x1]) s 0 0 A) (F0 m 74 ls [.int y0]) := by
      intro v1 v3 y0 mo H locs ls h hP hD hS hl
      refine lv_istore_n (lv' := [(2, .int y0), (0, .ref (va 0)), (1, .int v1), (3, .int v3)]) hx hb dX9_falls_74 rfl hl (by decide) rfl (fun ls hl => ?_)
      refine lv_iinc (v := (v3 + 1)) (lv' := [(3, .int (v3 + 1)), (2, .int y0), (0, .ref (va 0)), (1, .int v1)]) hx hb dX9_falls_75 hl (k := 3) rfl rfl (by decide) rfl (fun ls hl => ?_)
      refine lv_goto (tgt := 28) hx hb dX9_falls_78 (by decide) ?_
      exact hc28 _ _ _ _ h _ _ _ hP hD hS (lv_sub hl [2, 3, 1, 0] rfl)
    refine lv_iload_n hx hb dX9_falls_28 rfl (lv_at hl 3 rfl) ?_
    refine lv_sipush (v := 200) hx hb dX9_falls_29 (by decide) ?_
    refine lv_icmp_ge (tgt := 81) hx hb dX9_falls_32 (by decide) (fun c2 => ?_) (fun c2 => ?_)
    · have h := fw_t c2 h
      exact B81 _ _ _ _ _ h hP hD hS (lv_sub hl [0, 2] rfl)
    · have h := fw_f c2 h
      refine lv_iload_n hx hb dX9_falls_35 rfl (lv_at hl 2 rfl) ?_
      refine lv_bipush (v := (-2)) hx hb dX9_falls_36 (by decide) ?_
      refine lv_icmp_ne (tgt := 81) hx hb dX9_falls_38 (by decide) (fun c3 => ?_) (fun c3 => ?_)
      · have h := fw_f c3 h
        exact B81 _ _ _ _ _ h hP hD hS (lv_sub hl [0, 2] rfl)
      · have h := fw_t c3 h
        refine lv_aload_n hx hb dX9_falls_41 rfl (lv_at hl 0 rfl) ?_
        refine fw_Vi (As := []) (rest := []) (n := 0) (wr := []) (rv := fun b : Int32 × OB => b.1) (wp := fun b : Int32 × OB => moW k va b.2) h hx hb hml hown hts hG hA hP hD hS hl.1 (List.range (moW k va a28.2.2.2).length) [] (fun q hq9 => c_X9_goes l D k _  va F  a28.2.2.2  hq9) (ci := 7) (q0 := 0) rfl rfl gX9_falls_X9_goes rfl ⟨rfl, rfl, Nat.le_of_ble_eq_true rfl, Nat.le_of_ble_eq_true rfl⟩ (by decide +kernel) (al_C _) rfl (al_n _) ⟨rfl, rfl, Nat.le_of_ble_eq_true rfl, Nat.le_of_ble_eq_true rfl, Nat.le_of_ble_eq_true rfl⟩ dX9_falls_42 (fun q4 H locs h hP hD hS => ?_)
        have hP : va_P D vwCl (moW k va q4.2) H := hP
        have hD : va_D A (moW k va q4.2) := hD
        refine hc_is (z := q4.1) rfl ?_
        refine lv_istore (lv' := [(4, .int q4.1), (0, .ref (va 0)), (1, .int a28.1), (2, .int a28.2.1), (3, .int a28.2.2.1)]) hx hb dX9_falls_45 hl (by decide) rfl (fun ls hl => ?_)
        refine lv_iload hx hb dX9_falls_47 (lv_at hl 0 rfl) ?_
        refine lv_if_ne (tgt := 57) hx hb dX9_falls_49 (by decide) (fun c5 => ?_) (fun c5 => ?_)
        · have h := fw_f c5 h
          refine lv_iload_n hx hb dX9_falls_57 rfl (lv_at hl 2 rfl) ?_
          refine lv_if_ne (tgt := 72) hx hb dX9_falls_58 (by decide) (fun c6 => ?_) (fun c6 => ?_)
          · have h := fw_f c6 h
            refine lv_iload hx hb dX9_falls_72 (lv_at hl 0 rfl) ?_
            exact B74 _ _ _ _ _ _ _ h hP hD hS (lv_sub hl [1, 2, 4] rfl)
          · have h := fw_t c6 h
            refine lv_aload_n hx hb dX9_falls_61 rfl (lv_at hl 1 rfl) ?_
            refine va_get (D := D) (ci := 7) (v := .ref (va 1)) (C := RX9) (T := TX9) (N := 53) hx hb hts in9 hown hG.1 hP 0 rfl rfl 1 (by decide) (hts (.fieldLink RX9 9 "ChairCaneModel" "scalar" "[I") (mem_b bq_wsX9_falls 0 0 rfl)) (fun _ h9 => h9) rfl dX9_falls_62 ?_
            refine lv_iconst (v := 4) hx hb dX9_falls_65 (by decide) ?_
            refine va_iald hx hb hG.1 hP 1 0 rfl rfl (by unfold vp_in; decide) dX9_falls_66 ?_
            refine lv_iconst (v := 1) hx hb dX9_falls_67 (by decide) ?_
            refine lv_isub hx hb dX9_falls_68 ?_
            refine lv_goto (tgt := 74) hx hb dX9_falls_69 (by decide) ?_
            exact B74 _ _ _ _ _ _ _ h hP hD hS (lv_sub hl [1, 2, 4] rfl)
        · have h := fw_t c5 h
          refine lv_bipush (v := (-2)) hx hb dX9_falls_52 (by decide) ?_
          refine lv_goto (tgt := 74) hx hb dX9_falls_54 (by decide) ?_
          exact B74 _ _ _ _ _ _ _ h hP hD hS (lv_sub hl [1, 2, 4] rfl)
  have C28 : ∀ (v1 : Int32) (v2 : Int32) (v3 : Int32) (mo : OB), lp (b_X9_falls_28 F) F (v1, v2, v3, mo) = some res → ∀ (H : Heap) (locs : List Loc) (ls : Array Slot), va_P D vwCl (moW k va mo) H → va_D A (moW k va mo) → va_S A s.heap H locs → lv_has ls 5 [(0, .ref (va 0)), (1, .int v1), (2, .int v2), (3, .int v3)] → W p l e (rmK 7 0 0) s m (List.toArray [.ref (va 0), .int x1]) below meth c H locs 0 0 (MQ below (va_Qi (fun r (_ : Unit) => r = res.1) (hcB D (fun _ : Unit => moW k va res.2) A) A) (List.toArray [.ref (va 0), .int x1]) s 0 0 A) (F0 m 28 ls []) := fun v1 v2 v3 mo => B28 (v1, v2, v3, mo)
  refine lv_aload_n hx hb dX9_falls_0 rfl (lv_at hl 0 rfl) ?_
  refine fw_Vi (As := []) (rest := []) (n := 0) (wr := []) (rv := fun b : Int32 => b) (wp := fun b : Int32 => moW k va mo) h hx hb hml hown hts hG hA hP hD hS hl.1 (List.range (moW k va mo).length) [] (fun q hq9 => c_X9_isHall l D k _  va F  mo  hq9) (ci := 7) (q0 := 0) rfl rfl gX9_falls_X9_isHall rfl ⟨rfl, rfl, Nat.le_of_ble_eq_true rfl, Nat.le_of_ble_eq_true rfl⟩ (by decide +kernel) (al_C _) rfl (al_n _) ⟨rfl, rfl, Nat.le_of_ble_eq_true rfl, Nat.le_of_ble_eq_true rfl, Nat.le_of_ble_eq_true rfl⟩ dX9_falls_1 (fun q7 H locs h hP hD hS => ?_)
  have hP : va_P D vwCl (moW k va mo) H := hP
  have hD : va_D A (moW k va mo) := hD
  refine hc_is (z := q7) rfl ?_
  refine lv_if_eq (tgt := 17) hx hb dX9_falls_4 (by decide) (fun c8 => ?_) (fun c8 => ?_)
  · have h := fw_t c8 h
    exact B17 _ _ _ _ h hP hD hS (lv_sub hl [] rfl)
  · have h := fw_f c8 h
    refine lv_iload_n hx hb dX9_falls_7 rfl (lv_at hl 1 rfl) ?_
    refine lv_i2l hx hb dX9_falls_8 rfl ?_
    refine lv_lconst (v := 0) hx hb dX9_falls_9 (by decide) ?_
    refine lv_lconst (v := 1) hx hb dX9_falls_10 (by decide) ?_
    refine fw_Si (As := [.long (Int32.toInt64 x1), .long 0, .long 1]) (rest := []) (n := 3) (wr := moW k va mo) (rv := fun b : Int32 => b) (wp := fun b : Int32 => []) h hx hb hml hown hts hG hA hP hD hS hl.1 [] (List.range (moW k va mo).length) (fun q hq9 => c_X9_in l D k _   F (Int32.toInt64 x1) 0 1   hq9) gX9_falls_X9_in rfl ⟨rfl, rfl, Nat.le_of_ble_eq_true rfl, Nat.le_of_ble_eq_true rfl⟩ (by decide +kernel) rfl (al_C _) (al_m _) ⟨rfl, rfl, Nat.le_of_ble_eq_true rfl, Nat.le_of_ble_eq_true rfl, Nat.le_of_ble_eq_true rfl⟩ dX9_falls_11 (fun q9 H locs h hP hD hS => ?_)
    have hP : va_P D vwCl ((moW k va mo) ++ []) H := hP
    have hD : va_D A ((moW k va mo) ++ []) := hD
    rw [List.append_nil] at hP hD
    refine hc_is (z := q9) rfl ?_
    refine lv_if_ne (tgt := 19) hx hb dX9_falls_14 (by decide) (fun c10 => ?_) (fun c10 => ?_)
    · have h := fw_f c10 h
      refine lv_aload_n hx hb dX9_falls_19 rfl (lv_at hl 0 rfl) ?_
      refine fw_Vv (As := []) (rest := []) (n := 0) (wr := []) (wp := fun b : OB => moW k va b) h hx hb hml hown hts hG hA hP hD hS hl.1 (List.range (moW k va mo).length) [] (fun q hq9 => c_X9_keepsAll l D k _  va F  mo  hq9) (ci := 7) (q0 := 0) rfl rfl gX9_falls_X9_keepsAll rfl ⟨rfl, rfl, Nat.le_of_ble_eq_true rfl, Nat.le_of_ble_eq_true rfl⟩ (by decide +kernel) (al_C _) rfl (al_n _) ⟨rfl, rfl, Nat.le_of_ble_eq_true rfl, Nat.le_of_ble_eq_true rfl, Nat.le_of_ble_eq_true rfl⟩ dX9_falls_20 (fun q11 H locs h hP hD hS => ?_)
      have hP : va_P D vwCl (moW k va q11) H := hP
      have hD : va_D A (moW k va q11) := hD
      refine lv_bipush (v := (-2)) hx hb dX9_falls_23 (by decide) ?_
      refine lv_istore_n (lv' := [(2, .int (-2)), (0, .ref (va 0)), (1, .int x1)]) hx hb dX9_falls_25 rfl hl (by decide) rfl (fun ls hl => ?_)
      refine lv_iconst (v := 0) hx hb dX9_falls_26 (by decide) ?_
      refine lv_istore_n (lv' := [(3, .int 0), (2, .int (-2)), (0, .ref (va 0)), (1, .int x1)]) hx hb dX9_falls_27 rfl hl (by decide) rfl (fun ls hl => ?_)
      exact C28 _ _ _ _ h _ _ _ hP hD hS (lv_sub hl [2, 3, 1, 0] rfl)
    · have h := fw_t c10 h
      exact B17 _ _ _ _ h hP hD hS (lv_sub hl [] rfl)
noncomputable def f_X9_felledBy (F : Nat)  (x1 : Int32) (mo : OB) : Option (Int32 × OB) :=
  Option.bind (f_X9_keepsAll F mo) (fun q1 => (if ib x1 8 then (Option.bind (f_X9_settles F (q1.1, (uF q1.2.1 3 (upd (q1.2.1 3) (Int32.toNatClampNeg x1) 0)), q1.2.2)) (fun q3 => (Option.bind (f_X9_laysBack F q3.2) (fun q4 => (some (q3.1, q4)))))) else none))
set_option maxHeartbeats 4000000 in
set_option maxRecDepth 100000 in
theorem c_X9_felledBy (l : Launch) (D : va_G) (k : Nat → ClassId) (sz : Nat)  (va : Nat → Nat) (F : Nat)  (x1 : Int32) (mo : OB)  {res : Int32 × OB} (h : f_X9_felledBy F x1 mo = some res) : CtI l yX9_felledBy wsX9_felledBy (rmK 6 0 0) [.ref (va 0), .int x1] D k sz (moW k va mo) (fun r (_ : Unit) => r = res.1) (fun _ : Unit => moW k va res.2) 0 0 := by
  refine CtI.mk (cc := cX9_felledBy) (maxL := 3) (ret := (some .int)) (by decide) rfl (Nat.le_of_ble_eq_true rfl) ?_
  intro p e s m below meth c A ls E hP hD hS hl
  obtain ⟨hx, hb, hr, hml, hown, hts, hlocks, hin, hG, hA⟩ := E
  have hown : s.vm.findClass RX9 = some m.cls := hown
  have in9 : ∀ w ∈ u_ws RX9 TX9 53, w ∈ wsX9_felledBy := fun _ h => List.mem_cons_of_mem _ (List.mem_append_right _ h)
  have hl : lv_has ls 3 [(0, .ref (va 0)), (1, .int x1)] := hl
  refine lv_aload_n hx hb dX9_felledBy_0 rfl (lv_at hl 0 rfl) ?_
  refine fw_Vv (As := []) (rest := []) (n := 0) (wr := []) (wp := fun b : OB => moW k va b) h hx hb hml hown hts hG hA hP hD hS hl.1 (List.range (moW k va mo).length) [] (fun q hq9 => c_X9_keepsAll l D k _  va F  mo  hq9) (ci := 7) (q0 := 0) rfl rfl gX9_felledBy_X9_keepsAll rfl ⟨rfl, rfl, Nat.le_of_ble_eq_true rfl, Nat.le_of_ble_eq_true rfl⟩ (by decide +kernel) (al_C _) rfl (al_n _) ⟨rfl, rfl, Nat.le_of_ble_eq_true rfl, Nat.le_of_ble_eq_true rfl, Nat.le_of_ble_eq_true rfl⟩ dX9_felledBy_1 (fun q1 H locs h hP hD hS => ?_)
  have hP : va_P D vwCl (moW k va q1) H := hP
  have hD : va_D A (moW k va q1) := hD
  refine lv_aload_n hx hb dX9_felledBy_4 rfl (lv_at hl 0 rfl) ?_
  refine va_get (D := D) (ci := 7) (v := .ref (va 3)) (C := RX9) (T := TX9) (N := 53) hx hb hts in9 hown hG.1 hP 0 rfl rfl 3 (by decide) (hts (.fieldLink RX9 16 "ChairCaneModel" "is" "[I") (mem_b bq_wsX9_felledBy 0 0 rfl)) (fun _ h9 => h9) rfl dX9_felledBy_5 ?_
  refine lv_iload_n hx hb dX9_felledBy_8 rfl (lv_at hl 1 rfl) ?_
  refine lv_iconst (v := 0) hx hb dX9_felledBy_9 (by decide) ?_
  obtain ⟨g2, h⟩ := fw_g h
  refine va_iast hx hb hG.1 hP hD hS 3 0 rfl rfl (ib_vp g2) dX9_felledBy_10 (fun H locs hP hD hS => ?_)
  refine lv_aload_n hx hb dX9_felledBy_11 rfl (lv_at hl 0 rfl) ?_
  have hP : va_P D vwCl (moW k va (q1.1, (uF q1.2.1 3 (upd (q1.2.1 3) (Int32.toNatClampNeg x1) 0)), q1.2.2)) H := hP
  have hD : va_D A (moW k va (q1.1, (uF q1.2.1 3 (upd (q1.2.1 3) (Int32.toNatClampNeg x1) 0)), q1.2.2)) := hD
  refine fw_Vi (As := []) (rest := []) (n := 0) (wr := []) (rv := fun b : Int32 × OB => b.1) (wp := fun b : Int32 × OB => moW k va b.2) h hx hb hml hown hts hG hA hP hD hS hl.1 (List.range (moW k va (q1.1, (uF q1.2.1 3 (upd (q1.2.1 3) (Int32.toNatClampNeg x1) 0)), q1.2.2)).length) [] (fun q hq9 => c_X9_settles l D k _  va F  (q1.1, (uF q1.2.1 3 (upd (q1.2.1 3) (Int32.toNatClampNeg x1) 0)), q1.2.2)  hq9) (ci := 7) (q0 := 0) rfl rfl gX9_felledBy_X9_settles rfl ⟨rfl, rfl, Nat.le_of_ble_eq_true rfl, Nat.le_of_ble_eq_true rfl⟩ (by decide +kernel) (al_C _) rfl (al_n _) ⟨rfl, rfl, Nat.le_of_ble_eq_true rfl, Nat.le_of_ble_eq_true rfl, Nat.le_of_ble_eq_true rfl⟩ dX9_felledBy_12 (fun q3 H locs h hP hD hS => ?_)
  have hP : va_P D vwCl (moW k va q3.2) H := hP
  have hD : va_D A (moW k va q3.2) := hD
  refine hc_is (z := q3.1) rfl ?_
  refine lv_istore_n (lv' := [(2, .int q3.1), (0, .ref (va 0)), (1, .int x1)]) hx hb dX9_felledBy_15 rfl hl (by decide) rfl (fun ls hl => ?_)
  refine lv_aload_n hx hb dX9_felledBy_16 rfl (lv_at hl 1 rfl) ?_
  refine fw_Vv (As := []) (rest := []) (n := 0) (wr := []) (wp := fun b : OB => moW k va b) h hx hb hml hown hts hG hA hP hD hS hl.1 (List.range (moW k va q3.2).length) [] (fun q hq9 => c_X9_laysBack l D k _  va F  q3.2  hq9) (ci := 7) (q0 := 0) rfl rfl gX9_felledBy_X9_laysBack rfl ⟨rfl, rfl, Nat.le_of_ble_eq_true rfl, Nat.le_of_ble_eq_true rfl⟩ (by decide +kernel) (al_C _) rfl (al_n _) ⟨rfl, rfl, Nat.le_of_ble_eq_true rfl, Nat.le_of_ble_eq_true rfl, Nat.le_of_ble_eq_true rfl⟩ dX9_felledBy_17 (fun q4 H locs h hP hD hS => ?_)
  have hP : va_P D vwCl (moW k va q4) H := hP
  have hD : va_D A (moW k va q4) := hD
  refine lv_iload_n hx hb dX9_felledBy_20 rfl (lv_at hl 0 rfl) ?_
  exact fw_endI (rv := fun b : Int32 × OB => b.1) (wp := fun b : Int32 × OB => moW k va b.2) hx hb hr hlocks h rfl hP hD hS dX9_felledBy_21
noncomputable def b_X9_felled_18 (F : Nat)    (y0 : Int32) (mo : OB) : Option (Int32 × OB) :=
  some (y0, mo)
noncomputable def f_X9_felled (F : Nat)  (x1 : Int32) (mo : OB) : Option (Int32 × OB) :=
  Option.bind (f_X9_isSo F x1 1 mo) (fun q1 => (if q1 = 0 then (b_X9_felled_18 F (-1) mo) else (Option.bind (f_X9_felledBy F x1 mo) (fun q3 => (b_X9_felled_18 F q3.1 q3.2)))))
set_option maxHeartbeats 4000000 in
set_option maxRecDepth 100000 in
theorem c_X9_felled (l : Launch) (D : va_G) (k : Nat → ClassId) (sz : Nat)  (va : Nat → Nat) (F : Nat)  (x1 : Int32) (mo : OB)  {res : Int32 × OB} (h : f_X9_felled F x1 mo = some res) : CtI l yX9_felled wsX9_felled (rmK 7 0 0) [.ref (va 0), .int x1] D k sz (moW k va mo) (fun r (_ : Unit) => r = res.1) (fun _ : Unit => moW k va res.2) 0 0 := by
  refine CtI.mk (cc := cX9_felled) (maxL := 2) (ret := (some .int)) (by decide) rfl (Nat.le_of_ble_eq_true rfl) ?_
  intro p e s m below meth c A ls E hP hD hS hl
  obtain ⟨hx, hb, hr, hml, hown, hts, hlocks, hin, hG, hA⟩ := E
  have hown : s.vm.findClass RX9 = some m.cls := hown
  have in9 : ∀ w ∈ u_ws RX9 TX9 53, w ∈ wsX9_felled := fun _ h => List.mem_cons_of_mem _ (List.mem_append_right _ h)
  have hl : lv_has ls 2 [(0, .ref (va 0)), (1, .int x1)] := hl
  have B18 : ∀ (y0 : Int32) (mo : OB) (H : Heap) (locs : List Loc) (ls : Array Slot), b_X9_felled_18 F y0 mo = some res → va_P D vwCl (moW k va mo) H → va_D A (moW k va mo) → va_S A s.heap H locs → lv_has ls 2 [] → W p l e (rmK 7 0 0) s m (List.toArray [.ref (va 0), .int x1]) below meth c H locs 0 0 (MQ below (va_Qi (fun r (_ : Unit) => r = res.1) (hcB D (fun _ : Unit => moW k va res.2) A) A) (List.toArray [.ref (va 0), .int x1]) s 0 0 A) (F0 m 18 ls [.int y0]) := by
    intro y0 mo H locs ls h hP hD hS hl
    exact fw_endI (rv := fun b : Int32 × OB => b.1) (wp := fun b : Int32 × OB => moW k va b.2) hx hb hr hlocks h rfl hP hD hS dX9_felled_18
  refine lv_aload_n hx hb dX9_felled_0 rfl (lv_at hl 0 rfl) ?_
  refine lv_iload_n hx hb dX9_felled_1 rfl (lv_at hl 1 rfl) ?_
  refine lv_iconst (v := 1) hx hb dX9_felled_2 (by decide) ?_
  refine fw_Vi (As := [.int x1, .int 1]) (rest := []) (n := 2) (wr := []) (rv := fun b : Int32 => b) (wp := fun b : Int32 => moW k va mo) h hx hb hml hown hts hG hA hP hD hS hl.1 (List.range (moW k va mo).length) [] (fun q hq9 => c_X9_isSo l D k _  va F x1 1 mo  hq9) (ci := 7) (q0 := 0) rfl rfl gX9_felled_X9_isSo rfl ⟨rfl, rfl, Nat.le_of_ble_eq_true rfl, Nat.le_of_ble_eq_true rfl⟩ (by decide +kernel) (al_C _) rfl (al_n _) ⟨rfl, rfl, Nat.le_of_ble_eq_true rfl, Nat.le_of_ble_eq_true rfl, Nat.le_of_ble_eq_true rfl⟩ dX9_felled_3 (fun q1 H locs h hP hD hS => ?_)
  have hP : va_P D vwCl (moW k va mo) H := hP
  have hD : va_D A (moW k va mo) := hD
  refine hc_is (z := q1) rfl ?_
  refine lv_if_eq (tgt := 17) hx hb dX9_felled_6 (by decide) (fun c2 => ?_) (fun c2 => ?_)
  · have h := fw_t c2 h
    refine lv_iconst (v := (-1)) hx hb dX9_felled_17 (by decide) ?_
    exact B18 _ _ _ _ _ h hP hD hS (lv_sub hl [] rfl)
  · have h := fw_f c2 h
    refine lv_aload_n hx hb dX9_felled_9 rfl (lv_at hl 0 rfl) ?_
    refine lv_iload_n hx hb dX9_felled_10 rfl (lv_at hl 1 rfl) ?_
    refine fw_Vi (As := [.int x1]) (rest := []) (n := 1) (wr := []) (rv := fun b : Int32 × OB => b.1) (wp := fun b : Int32 × OB => moW k va b.2) h hx hb hml hown hts hG hA hP hD hS hl.1 (List.range (moW k va mo).length) [] (fun q hq9 => c_X9_felledBy l D k _  va F x1 mo  hq9) (ci := 7) (q0 := 0) rfl rfl gX9_felled_X9_felledBy rfl ⟨rfl, rfl, Nat.le_of_ble_eq_true rfl, Nat.le_of_ble_eq_true rfl⟩ (by decide +kernel) (al_C _) rfl (al_n _) ⟨rfl, rfl, Nat.le_of_ble_eq_true rfl, Nat.le_of_ble_eq_true rfl, Nat.le_of_ble_eq_true rfl⟩ dX9_felled_11 (fun q3 H locs h hP hD hS => ?_)
    have hP : va_P D vwCl (moW k va q3.2) H := hP
    have hD : va_D A (moW k va q3.2) := hD
    refine hc_is (z := q3.1) rfl ?_
    refine lv_goto (tgt := 18) hx hb dX9_felled_14 (by decide) ?_
    exact B18 _ _ _ _ _ h hP hD hS (lv_sub hl [] rfl)
noncomputable def b_X9_tall_17 (F : Nat)    (mo : OB) : Option (Int32 × OB) :=
  some ((-1), mo)
noncomputable def b_X9_tall_91 (F : Nat)    (y0 : Int32) (mo : OB) : Option (Int32 × OB) :=
  some (y0, mo)
noncomputable def b_X9_tall_76 (F : Nat)   (k28 : (Int32 × Int32 × Int32 × Int32 × OB) → Option (Int32 × OB)) (v1 : Int32) (v2 : Int32) (v3 : Int32) (v4 : Int32) (mo : OB) : Option (Int32 × OB) :=
  k28 (v1, v2, v3, (v4 + 1), mo)
noncomputable def b_X9_tall_28 (F : Nat)    (k28 : (Int32 × Int32 × Int32 × Int32 × OB) → Option (Int32 × OB)) (a28 : (Int32 × Int32 × Int32 × Int32 × OB)) : Option (Int32 × OB) :=
  if ((a28.2.2.2.2.2.1 1) (Int32.toNatClampNeg 3)) ≤ a28.2.2.2.1 then (if a28.1 = 0 then (b_X9_tall_91 F a28.2.1 a28.2.2.2.2) else (b_X9_tall_91 F a28.2.2.1 a28.2.2.2.2)) else (if ib a28.2.2.2.1 8 then (if ((a28.2.2.2.2.2.1 3) (Int32.toNatClampNeg a28.2.2.2.1)) = 1 then (Option.bind (f_X9_felledBy F a28.2.2.2.1 a28.2.2.2.2) (fun q5 => (Option.bind (f_X9_bits F q5.1) (fun q6 => (if q6 ≤ a28.2.2.1 then (b_X9_tall_76 F k28 a28.1 a28.2.1 a28.2.2.1 a28.2.2.2.1 q5.2) else (Option.bind (f_X9_felledBy F a28.2.2.2.1 q5.2) (fun q8 => (Option.bind (f_X9_bits F q8.1) (fun q9 => (b_X9_tall_76 F k28 a28.1 a28.2.2.2.1 q9 a28.2.2.2.1 q8.2)))))))))) else (b_X9_tall_76 F k28 a28.1 a28.2.1 a28.2.2.1 a28.2.2.2.1 a28.2.2.2.2)) else none)
noncomputable def f_X9_tall (F : Nat)  (x1 : Int32) (mo : OB) : Option (Int32 × OB) :=
  Option.bind (f_X9_isHall F mo) (fun q10 => (if q10 = 0 then (b_X9_tall_17 F mo) else (Option.bind (f_X9_in F (Int32.toInt64 x1) 0 1) (fun q12 => (if q12 = 0 then (b_X9_tall_17 F mo) else (lp (b_X9_tall_28 F) F (x1, (-2), (-2), 0, mo)))))))
set_option maxHeartbeats 4000000 in
set_option maxRecDepth 100000 in
theorem c_X9_tall (l : Launch) (D : va_G) (k : Nat → ClassId) (sz : Nat)  (va : Nat → Nat) (F : Nat)  (x1 : Int32) (mo : OB)  {res : Int32 × OB} (h : f_X9_tall F x1 mo = some res) : CtI l yX9_tall wsX9_tall (rmK 7 0 0) [.ref (va 0), .int x1] D k sz (moW k va mo) (fun r (_ : Unit) => r = res.1) (fun _ : Unit => moW k va res.2) 0 0 := by
  refine CtI.mk (cc := cX9_tall) (maxL := 5) (ret := (some .int)) (by decide) rfl (Nat.le_of_ble_eq_true rfl) ?_
  intro p e s m below meth c A ls E hP hD hS hl
  obtain ⟨hx, hb, hr, hml, hown, hts, hlocks, hin, hG, hA⟩ := E
  have hown : s.vm.findClass RX9 = some m.cls := hown
  have in9 : ∀ w ∈ u_ws RX9 TX9 53, w ∈ wsX9_tall := fun _ h => List.mem_cons_of_mem _ (List.mem_append_right _ h)
  have hl : lv_has ls 5 [(0, .ref (va 0)), (1, .int x1)] := hl
  have B17 : ∀ (mo : OB) (H : Heap) (locs : List Loc) (ls : Array Slot), b_X9_tall_17 F mo = some res → va_P D vwCl (moW k va mo) H → va_D A (moW k va mo) → va_S A s.heap H locs → lv_has ls 5 [] → W p l e (rmK 7 0 0) s m (List.toArray [.ref (va 0), .int x1]) below meth c H locs 0 0 (MQ below (va_Qi (fun r (_ : Unit) => r = res.1) (hcB D (fun _ : Unit => moW k va res.2) A) A) (List.toArray [.ref (va 0), .int x1]) s 0 0 A) (F0 m 17 ls []) := by
    intro mo H locs ls h hP hD hS hl
    refine lv_iconst (v := (-1)) hx hb dX9_tall_17 (by decide) ?_
    exact fw_endI (rv := fun b : Int32 × OB => b.1) (wp := fun b : Int32 × OB => moW k va b.2) hx hb hr hlocks h rfl hP hD hS dX9_tall_18
  have B91 : ∀ (y0 : Int32) (mo : OB) (H : Heap) (locs : List Loc) (ls : Array Slot), b_X9_tall_91 F y0 mo = some res → va_P D vwCl (moW k va mo) H → va_D A (moW k va mo) → va_S A s.heap H locs → lv_has ls 5 [] → W p l e (rmK 7 0 0) s m (List.toArray [.ref (va 0), .int x1]) below meth c H locs 0 0 (MQ below (va_Qi (fun r (_ : Unit) => r = res.1) (hcB D (fun _ : Unit => moW k va res.2) A) A) (List.toArray [.ref (va 0), .int x1]) s 0 0 A) (F0 m 91 ls [.int y0]) := by
    intro y0 mo H locs ls h hP hD hS hl
    exact fw_endI (rv := fun b : Int32 × OB => b.1) (wp := fun b : Int32 × OB => moW k va b.2) hx hb hr hlocks h rfl hP hD hS dX9_tall_91
  have B28 : ∀ a28 : (Int32 × Int32 × Int32 × Int32 × OB), lp (b_X9_tall_28 F) F a28 = some res → ∀ (H : Heap) (locs : List Loc) (ls : Array Slot), va_P D vwCl (moW k va a28.2.2.2.2) H → va_D A (moW k va a28.2.2.2.2) → va_S A s.heap H locs → lv_has ls 5 [(0, .ref (va 0)), (1, .int a28.1), (2, .int a28.2.1), (3, .int a28.2.2.1), (4, .int a28.2.2.2.1)] → W p l e (rmK 7 0 0) s m (List.toArray [.ref (va 0), .int x1]) below meth c H locs 0 0 (MQ below (va_Qi (fun r (_ : Unit) => r = res.1) (hcB D (fun _ : Unit => moW k va res.2) A) A) (List.toArray [.ref (va 0), .int x1]) s 0 0 A) (F0 m 28 ls []) := by
    refine lp_W ?_ F
    intro k28 hk28 a28 h H locs ls hP hD hS hl
    have hc28 : ∀ (v1 : Int32) (v2 : Int32) (v3 : Int32) (v4 : Int32) (mo : OB), k28 (v1, v2, v3, v4, mo) = some res → ∀ (H : Heap) (locs : List Loc) (ls : Array Slot), va_P D vwCl (moW k va mo) H → va_D A (moW k va mo) → va_S A s.heap H locs → lv_has ls 5 [(0, .ref (va 0)), (1, .int v1), (2, .int v2), (3, .int v3), (4, .int v4)] → W p l e (rmK 7 0 0) s m (List.toArray [.ref (va 0), .int x1]) below meth c H locs 0 0 (MQ below (va_Qi (fun r (_ : Unit) => r = res.1) (hcB D (fun _ : Unit => moW k va res.2) A) A) (List.toArray [.ref (va 0), .int x1]) s 0 0 A) (F0 m 28 ls []) := fun v1 v2 v3 v4 mo => hk28 (v1, v2, v3, v4, mo)
    have B76 : ∀ (v1 : Int32) (v2 : Int32) (v3 : Int32) (v4 : Int32) (mo : OB) (H : Heap) (locs : List Loc) (ls : Array Slot), b_X9_tall_76 F k28 v1 v2 v3 v4 mo = some res → va_P D vwCl (moW k va mo) H → va_D A (moW k va mo) → va_S A s.heap H locs → lv_has ls 5 [(0, .ref (va 0)), (1, .int v1), (2, .int v2), (3, .int v3), (4, .int v4)] → W p l e (rmK 7 0 0) s m (List.toArray [.ref (va 0), .int x1]) below meth c H locs 0 0 (MQ below (va_Qi (fun r (_ : Unit) => r = res.1) (hcB D (fun _ : Unit => moW k va res.2) A) A) (List.toArray [.ref (va 0), .int x1]) s 0 0 A) (F0 m 76 ls []) := by
      intro v1 v2 v3 v4 mo H locs ls h hP hD hS hl
      refine lv_iinc (v := (v4 + 1)) (lv' := [(4, .int (v4 + 1)), (0, .ref (va 0)), (1, .int v1), (2, .int v2), (3, .int v3)]) hx hb dX9_tall_76 hl (k := 4) rfl rfl (by decide) rfl (fun ls hl => ?_)
      refine lv_goto (tgt := 28) hx hb dX9_tall_79 (by decide) ?_
      exact hc28 _ _ _ _ _ h _ _ _ hP hD hS (lv_sub hl [1, 2, 3, 4, 0] rfl)
    refine lv_iload hx hb dX9_tall_28 (lv_at hl 4 rfl) ?_
    refine lv_aload_n hx hb dX9_tall_30 rfl (lv_at hl 0 rfl) ?_
    refine va_get (D := D) (ci := 7) (v := .ref (va 1)) (C := RX9) (T := TX9) (N := 53) hx hb hts in9 hown hG.1 hP 0 rfl rfl 1 (by decide) (hts (.fieldLink RX9 9 "ChairCaneModel" "scalar" "[I") (mem_b bq_wsX9_tall 0 0 rfl)) (fun _ h9 => h9) rfl dX9_tall_31 ?_
    refine lv_iconst (v := 3) hx hb dX9_tall_34 (by decide) ?_
    refine va_iald hx hb hG.1 hP 1 0 rfl rfl (by unfold vp_in; decide) dX9_tall_35 ?_
    refine lv_icmp_ge (tgt := 82) hx hb dX9_tall_36 (by decide) (fun c1 => ?_) (fun c1 => ?_)
    · have h := fw_t c1 h
      refine lv_iload_n hx hb dX9_tall_82 rfl (lv_at hl 1 rfl) ?_
      refine lv_if_ne (tgt := 90) hx hb dX9_tall_83 (by decide) (fun c2 => ?_) (fun c2 => ?_)
      · have h := fw_f c2 h
        refine lv_iload_n hx hb dX9_tall_90 rfl (lv_at hl 3 rfl) ?_
        exact B91 _ _ _ _ _ h hP hD hS (lv_sub hl [] rfl)
      · have h := fw_t c2 h
        refine lv_iload_n hx hb dX9_tall_86 rfl (lv_at hl 2 rfl) ?_
        refine lv_goto (tgt := 91) hx hb dX9_tall_87 (by decide) ?_
        exact B91 _ _ _ _ _ h hP hD hS (lv_sub hl [] rfl)
    · have h := fw_f c1 h
      refine lv_aload_n hx hb dX9_tall_39 rfl (lv_at hl 0 rfl) ?_
      refine va_get (D := D) (ci := 7) (v := .ref (va 3)) (C := RX9) (T := TX9) (N := 53) hx hb hts in9 hown hG.1 hP 0 rfl rfl 3 (by decide) (hts (.fieldLink RX9 16 "ChairCaneModel" "is" "[I") (mem_b bq_wsX9_tall 0 1 rfl)) (fun _ h9 => h9) rfl dX9_tall_40 ?_
      refine lv_iload hx hb dX9_tall_43 (lv_at hl 4 rfl) ?_
      obtain ⟨g3, h⟩ := fw_g h
      refine va_iald hx hb hG.1 hP 3 0 rfl rfl (ib_vp g3) dX9_tall_45 ?_
      refine lv_iconst (v := 1) hx hb dX9_tall_46 (by decide) ?_
      refine lv_icmp_ne (tgt := 76) hx hb dX9_tall_47 (by decide) (fun c4 => ?_) (fun c4 => ?_)
      · have h := fw_f c4 h
        exact B76 _ _ _ _ _ _ _ _ h hP hD hS hl
      · have h := fw_t c4 h
        refine lv_aload_n hx hb dX9_tall_50 rfl (lv_at hl 0 rfl) ?_
        refine lv_iload hx hb dX9_tall_51 (lv_at hl 4 rfl) ?_
        refine fw_Vi (As := [.int a28.2.2.2.1]) (rest := []) (n := 1) (wr := []) (rv := fun b : Int32 × OB => b.1) (wp := fun b : Int32 × OB => moW k va b.2) h hx hb hml hown hts hG hA hP hD hS hl.1 (List.range (moW k va a28.2.2.2.2).length) [] (fun q hq9 => c_X9_felledBy l D k _  va F a28.2.2.2.1 a28.2.2.2.2  hq9) (ci := 7) (q0 := 0) rfl rfl gX9_tall_X9_felledBy rfl ⟨rfl, rfl, Nat.le_of_ble_eq_true rfl, Nat.le_of_ble_eq_true rfl⟩ (by decide +kernel) (al_C _) rfl (al_n _) ⟨rfl, rfl, Nat.le_of_ble_eq_true rfl, Nat.le_of_ble_eq_true rfl, Nat.le_of_ble_eq_true rfl⟩ dX9_tall_53 (fun q5 H locs h hP hD hS => ?_)
        have hP : va_P D vwCl (moW k va q5.2) H := hP
        have hD : va_D A (moW k va q5.2) := hD
        refine hc_is (z := q5.1) rfl ?_
        refine fw_Si (As := [.int q5.1]) (rest := []) (n := 1) (wr := moW k va q5.2) (rv := fun b : Int32 => b) (wp := fun b : Int32 => []) h hx hb hml hown hts hG hA hP hD hS hl.1 [] (List.range (moW k va q5.2).length) (fun q hq9 => c_X9_bits l D k _   F q5.1   hq9) gX9_tall_X9_bits rfl ⟨rfl, rfl, Nat.le_of_ble_eq_true rfl, Nat.le_of_ble_eq_true rfl⟩ (by decide +kernel) rfl (al_C _) (al_m _) ⟨rfl, rfl, Nat.le_of_ble_eq_true rfl, Nat.le_of_ble_eq_true rfl, Nat.le_of_ble_eq_true rfl⟩ dX9_tall_56 (fun q6 H locs h hP hD hS => ?_)
        have hP : va_P D vwCl ((moW k va q5.2) ++ []) H := hP
        have hD : va_D A ((moW k va q5.2) ++ []) := hD
        rw [List.append_nil] at hP hD
        refine hc_is (z := q6) rfl ?_
        refine lv_iload_n hx hb dX9_tall_59 rfl (lv_at hl 3 rfl) ?_
        refine lv_icmp_le (tgt := 76) hx hb dX9_tall_60 (by decide) (fun c7 => ?_) (fun c7 => ?_)
        · have h := fw_t c7 h
          exact B76 _ _ _ _ _ _ _ _ h hP hD hS hl
        · have h := fw_f c7 h
          refine lv_iload hx hb dX9_tall_63 (lv_at hl 4 rfl) ?_
          refine lv_istore_n (lv' := [(2, .int a28.2.2.2.1), (0, .ref (va 0)), (1, .int a28.1), (3, .int a28.2.2.1), (4, .int a28.2.2.2.1)]) hx hb dX9_tall_65 rfl hl (by decide) rfl (fun ls hl => ?_)
          refine lv_aload_n hx hb dX9_tall_66 rfl (lv_at hl 1 rfl) ?_
          refine lv_iload hx hb dX9_tall_67 (lv_at hl 4 rfl) ?_
          refine fw_Vi (As := [.int a28.2.2.2.1]) (rest := []) (n := 1) (wr := []) (rv := fun b : Int32 × OB => b.1) (wp := fun b : Int32 × OB => moW k va b.2) h hx hb hml hown hts hG hA hP hD hS hl.1 (List.range (moW k va q5.2).length) [] (fun q hq9 => c_X9_felledBy l D k _  va F a28.2.2.2.1 q5.2  hq9) (ci := 7) (q0 := 0) rfl rfl gX9_tall_X9_felledBy rfl ⟨rfl, rfl, Nat.le_of_ble_eq_true rfl, Nat.le_of_ble_eq_true rfl⟩ (by decide +kernel) (al_C _) rfl (al_n _) ⟨rfl, rfl, Nat.le_of_ble_eq_true rfl, Nat.le_of_ble_eq_true rfl, Nat.le_of_ble_eq_true rfl⟩ dX9_tall_69 (fun q8 H locs h hP hD hS => ?_)
          have hP : va_P D vwCl (moW k va q8.2) H := hP
          have hD : va_D A (moW k va q8.2) := hD
          refine hc_is (z := q8.1) rfl ?_
          refine fw_Si (As := [.int q8.1]) (rest := []) (n := 1) (wr := moW k va q8.2) (rv := fun b : Int32 => b) (wp := fun b : Int32 => []) h hx hb hml hown hts hG hA hP hD hS hl.1 [] (List.range (moW k va q8.2).length) (fun q hq9 => c_X9_bits l D k _   F q8.1   hq9) gX9_tall_X9_bits rfl ⟨rfl, rfl, Nat.le_of_ble_eq_true rfl, Nat.le_of_ble_eq_true rfl⟩ (by decide +kernel) rfl (al_C _) (al_m _) ⟨rfl, rfl, Nat.le_of_ble_eq_true rfl, Nat.le_of_ble_eq_true rfl, Nat.le_of_ble_eq_true rfl⟩ dX9_tall_72 (fun q9 H locs h hP hD hS => ?_)
          have hP : va_P D vwCl ((moW k va q8.2) ++ []) H := hP
          have hD : va_D A ((moW k va q8.2) ++ []) := hD
          rw [List.append_nil] at hP hD
          refine hc_is (z := q9) rfl ?_
          refine lv_istore_n (lv' := [(3, .int q9), (2, .int a28.2.2.2.1), (0, .ref (va 0)), (1, .int a28.1), (4, .int a28.2.2.2.1)]) hx hb dX9_tall_75 rfl hl (by decide) rfl (fun ls hl => ?_)
          exact B76 _ _ _ _ _ _ _ _ h hP hD hS (lv_sub hl [2, 3, 1, 0, 4] rfl)
  have C28 : ∀ (v1 : Int32) (v2 : Int32) (v3 : Int32) (v4 : Int32) (mo : OB), lp (b_X9_tall_28 F) F (v1, v2, v3, v4, mo) = some res → ∀ (H : Heap) (locs : List Loc) (ls : Array Slot), va_P D vwCl (moW k va mo) H → va_D A (moW k va mo) → va_S A s.heap H locs → lv_has ls 5 [(0, .ref (va 0)), (1, .int v1), (2, .int v2), (3, .int v3), (4, .int v4)] → W p l e (rmK 7 0 0) s m (List.toArray [.ref (va 0), .int x1]) below meth c H locs 0 0 (MQ below (va_Qi (fun r (_ : Unit) => r = res.1) (hcB D (fun _ : Unit => moW k va res.2) A) A) (List.toArray [.ref (va 0), .int x1]) s 0 0 A) (F0 m 28 ls []) := fun v1 v2 v3 v4 mo => B28 (v1, v2, v3, v4, mo)
  refine lv_aload_n hx hb dX9_tall_0 rfl (lv_at hl 0 rfl) ?_
  refine fw_Vi (As := []) (rest := []) (n := 0) (wr := []) (rv := fun b : Int32 => b) (wp := fun b : Int32 => moW k va mo) h hx hb hml hown hts hG hA hP hD hS hl.1 (List.range (moW k va mo).length) [] (fun q hq9 => c_X9_isHall l D k _  va F  mo  hq9) (ci := 7) (q0 := 0) rfl rfl gX9_tall_X9_isHall rfl ⟨rfl, rfl, Nat.le_of_ble_eq_true rfl, Nat.le_of_ble_eq_true rfl⟩ (by decide +kernel) (al_C _) rfl (al_n _) ⟨rfl, rfl, Nat.le_of_ble_eq_true rfl, Nat.le_of_ble_eq_true rfl, Nat.le_of_ble_eq_true rfl⟩ dX9_tall_1 (fun q10 H locs h hP hD hS => ?_)
  have hP : va_P D vwCl (moW k va mo) H := hP
  have hD : va_D A (moW k va mo) := hD
  refine hc_is (z := q10) rfl ?_
  refine lv_if_eq (tgt := 17) hx hb dX9_tall_4 (by decide) (fun c11 => ?_) (fun c11 => ?_)
  · have h := fw_t c11 h
    exact B17 _ _ _ _ h hP hD hS (lv_sub hl [] rfl)
  · have h := fw_f c11 h
    refine lv_iload_n hx hb dX9_tall_7 rfl (lv_at hl 1 rfl) ?_
    refine lv_i2l hx hb dX9_tall_8 rfl ?_
    refine lv_lconst (v := 0) hx hb dX9_tall_9 (by decide) ?_
    refine lv_lconst (v := 1) hx hb dX9_tall_10 (by decide) ?_
    refine fw_Si (As := [.long (Int32.toInt64 x1), .long 0, .long 1]) (rest := []) (n := 3) (wr := moW k va mo) (rv := fun b : Int32 => b) (wp := fun b : Int32 => []) h hx hb hml hown hts hG hA hP hD hS hl.1 [] (List.range (moW k va mo).length) (fun q hq9 => c_X9_in l D k _   F (Int32.toInt64 x1) 0 1   hq9) gX9_tall_X9_in rfl ⟨rfl, rfl, Nat.le_of_ble_eq_true rfl, Nat.le_of_ble_eq_true rfl⟩ (by decide +kernel) rfl (al_C _) (al_m _) ⟨rfl, rfl, Nat.le_of_ble_eq_true rfl, Nat.le_of_ble_eq_true rfl, Nat.le_of_ble_eq_true rfl⟩ dX9_tall_11 (fun q12 H locs h hP hD hS => ?_)
    have hP : va_P D vwCl ((moW k va mo) ++ []) H := hP
    have hD : va_D A ((moW k va mo) ++ []) := hD
    rw [List.append_nil] at hP hD
    refine hc_is (z := q12) rfl ?_
    refine lv_if_ne (tgt := 19) hx hb dX9_tall_14 (by decide) (fun c13 => ?_) (fun c13 => ?_)
    · have h := fw_f c13 h
      refine lv_bipush (v := (-2)) hx hb dX9_tall_19 (by decide) ?_
      refine lv_istore_n (lv' := [(2, .int (-2)), (0, .ref (va 0)), (1, .int x1)]) hx hb dX9_tall_21 rfl hl (by decide) rfl (fun ls hl => ?_)
      refine lv_bipush (v := (-2)) hx hb dX9_tall_22 (by decide) ?_
      refine lv_istore_n (lv' := [(3, .int (-2)), (2, .int (-2)), (0, .ref (va 0)), (1, .int x1)]) hx hb dX9_tall_24 rfl hl (by decide) rfl (fun ls hl => ?_)
      refine lv_iconst (v := 0) hx hb dX9_tall_25 (by decide) ?_
      refine lv_istore (lv' := [(4, .int 0), (3, .int (-2)), (2, .int (-2)), (0, .ref (va 0)), (1, .int x1)]) hx hb dX9_tall_26 hl (by decide) rfl (fun ls hl => ?_)
      exact C28 _ _ _ _ _ h _ _ _ hP hD hS (lv_sub hl [3, 4, 2, 1, 0] rfl)
    · have h := fw_t c13 h
      exact B17 _ _ _ _ h hP hD hS (lv_sub hl [] rfl)
noncomputable def b_X9_ease_17 (F : Nat)  (mo : OB)   : Option (Int32) :=
  some (-1)
noncomputable def b_X9_ease_100 (F : Nat)  (mo : OB)  (y0 : Int32) : Option (Int32) :=
  some y0
noncomputable def b_X9_ease_80 (F : Nat)  (mo : OB) (k37 : (Int32 × Int32 × Int32 × Int32 × Int32) → Option (Int32)) (v1 : Int32) (v2 : Int32) (v3 : Int32) (v4 : Int32) (v5 : Int32) : Option (Int32) :=
  k37 (v1, v2, v3, v4, (v5 + 1))
noncomputable def b_X9_ease_37 (F : Nat)  (mo : OB)  (k37 : (Int32 × Int32 × Int32 × Int32 × Int32) → Option (Int32)) (a37 : (Int32 × Int32 × Int32 × Int32 × Int32)) : Option (Int32) :=
  if a37.2.1 < a37.2.2.2.2 then (if a37.1 = 0 then (Option.bind (f_X9_bits F a37.2.2.2.1) (fun q3 => (b_X9_ease_100 F mo q3))) else (b_X9_ease_100 F mo a37.2.2.2.1)) else (if (a37.2.2.2.2 &&& (a37.2.1 ^^^ (-1))) = 0 then (Option.bind (f_X9_bits F a37.2.2.2.2) (fun q5 => (Option.bind (f_X9_bits F a37.2.2.2.1) (fun q6 => (if q5 ≤ q6 then (b_X9_ease_80 F mo k37 a37.1 a37.2.1 a37.2.2.1 a37.2.2.2.1 a37.2.2.2.2) else (Option.bind (f_X9_dropsOf F (a37.2.2.1 ||| a37.2.2.2.2) mo) (fun q8 => (if q8 = 0 then (b_X9_ease_80 F mo k37 a37.1 a37.2.1 a37.2.2.1 a37.2.2.2.2 a37.2.2.2.2) else (b_X9_ease_80 F mo k37 a37.1 a37.2.1 a37.2.2.1 a37.2.2.2.1 a37.2.2.2.2))))))))) else (b_X9_ease_80 F mo k37 a37.1 a37.2.1 a37.2.2.1 a37.2.2.2.1 a37.2.2.2.2))
noncomputable def f_X9_ease (F : Nat)  (x1 : Int32) (mo : OB) : Option (Int32) :=
  Option.bind (f_X9_isHall F mo) (fun q10 => (if q10 = 0 then (b_X9_ease_17 F mo ) else (Option.bind (f_X9_in F (Int32.toInt64 x1) 0 1) (fun q12 => (if q12 = 0 then (b_X9_ease_17 F mo ) else (Option.bind (f_X9_those F 0 mo) (fun q14 => (Option.bind (f_X9_those F 1 mo) (fun q15 => (lp (b_X9_ease_37 F mo) F (x1, q14, q15, 0, 0)))))))))))
set_option maxHeartbeats 4000000 in
set_option maxRecDepth 100000 in
theorem c_X9_ease (l : Launch) (D : va_G) (k : Nat → ClassId) (sz : Nat)  (va : Nat → Nat) (F : Nat)  (x1 : Int32) (mo : OB)  {res : Int32} (h : f_X9_ease F x1 mo = some res) : CtI l yX9_ease wsX9_ease (rmK 5 0 0) [.ref (va 0), .int x1] D k sz (moW k va mo) (fun r (_ : Unit) => r = res) (fun _ : Unit => moW k va mo) 0 0 := by
  refine CtI.mk (cc := cX9_ease) (maxL := 6) (ret := (some .int)) (by decide) rfl (Nat.le_of_ble_eq_true rfl) ?_
  intro p e s m below meth c A ls E hP hD hS hl
  obtain ⟨hx, hb, hr, hml, hown, hts, hlocks, hin, hG, hA⟩ := E
  have hown : s.vm.findClass RX9 = some m.cls := hown
  have in9 : ∀ w ∈ u_ws RX9 TX9 53, w ∈ wsX9_ease := fun _ h => List.mem_cons_of_mem _ (List.mem_append_right _ h)
  have hl : lv_has ls 6 [(0, .ref (va 0)), (1, .int x1)] := hl
  have B17 : ∀ (H : Heap) (locs : List Loc) (ls : Array Slot), b_X9_ease_17 F mo  = some res → va_P D vwCl (moW k va mo) H → va_D A (moW k va mo) → va_S A s.heap H locs → lv_has ls 6 [] → W p l e (rmK 5 0 0) s m (List.toArray [.ref (va 0), .int x1]) below meth c H locs 0 0 (MQ below (va_Qi (fun r (_ : Unit) => r = res) (hcB D (fun _ : Unit => moW k va mo) A) A) (List.toArray [.ref (va 0), .int x1]) s 0 0 A) (F0 m 17 ls []) := by
    intro  H locs ls h hP hD hS hl
    refine lv_iconst (v := (-1)) hx hb dX9_ease_17 (by decide) ?_
    exact fw_endI (rv := fun b : Int32 => b) (wp := fun b : Int32 => moW k va mo) hx hb hr hlocks h rfl hP hD hS dX9_ease_18
  have B100 : ∀ (y0 : Int32) (H : Heap) (locs : List Loc) (ls : Array Slot), b_X9_ease_100 F mo y0 = some res → va_P D vwCl (moW k va mo) H → va_D A (moW k va mo) → va_S A s.heap H locs → lv_has ls 6 [] → W p l e (rmK 5 0 0) s m (List.toArray [.ref (va 0), .int x1]) below meth c H locs 0 0 (MQ below (va_Qi (fun r (_ : Unit) => r = res) (hcB D (fun _ : Unit => moW k va mo) A) A) (List.toArray [.ref (va 0), .int x1]) s 0 0 A) (F0 m 100 ls [.int y0]) := by
    intro y0 H locs ls h hP hD hS hl
    exact fw_endI (rv := fun b : Int32 => b) (wp := fun b : Int32 => moW k va mo) hx hb hr hlocks h rfl hP hD hS dX9_ease_100
  have B37 : ∀ a37 : (Int32 × Int32 × Int32 × Int32 × Int32), lp (b_X9_ease_37 F mo) F a37 = some res → ∀ (H : Heap) (locs : List Loc) (ls : Array Slot), va_P D vwCl (moW k va mo) H → va_D A (moW k va mo) → va_S A s.heap H locs → lv_has ls 6 [(0, .ref (va 0)), (1, .int a37.1), (2, .int a37.2.1), (3, .int a37.2.2.1), (4, .int a37.2.2.2.1), (5, .int a37.2.2.2.2)] → W p l e (rmK 5 0 0) s m (List.toArray [.ref (va 0), .int x1]) below meth c H locs 0 0 (MQ below (va_Qi (fun r (_ : Unit) => r = res) (hcB D (fun _ : Unit => moW k va mo) A) A) (List.toArray [.ref (va 0), .int x1]) s 0 0 A) (F0 m 37 ls []) := by
    refine lp_W ?_ F
    intro k37 hk37 a37 h H locs ls hP hD hS hl
    have hc37 : ∀ (v1 : Int32) (v2 : Int32) (v3 : Int32) (v4 : Int32) (v5 : Int32), k37 (v1, v2, v3, v4, v5) = some res → ∀ (H : Heap) (locs : List Loc) (ls : Array Slot), va_P D vwCl (moW k va mo) H → va_D A (moW k va mo) → va_S A s.heap H locs → lv_has ls 6 [(0, .ref (va 0)), (1, .int v1), (2, .int v2), (3, .int v3), (4, .int v4), (5, .int v5)] → W p l e (rmK 5 0 0) s m (List.toArray [.ref (va 0), .int x1]) below meth c H locs 0 0 (MQ below (va_Qi (fun r (_ : Unit) => r = res) (hcB D (fun _ : Unit => moW k va mo) A) A) (List.toArray [.ref (va 0), .int x1]) s 0 0 A) (F0 m 37 ls []) := fun v1 v2 v3 v4 v5 => hk37 (v1, v2, v3, v4, v5)
    have B80 : ∀ (v1 : Int32) (v2 : Int32) (v3 : Int32) (v4 : Int32) (v5 : Int32) (H : Heap) (locs : List Loc) (ls : Array Slot), b_X9_ease_80 F mo k37 v1 v2 v3 v4 v5 = some res → va_P D vwCl (moW k va mo) H → va_D A (moW k va mo) → va_S A s.heap H locs → lv_has ls 6 [(0, .ref (va 0)), (1, .int v1), (2, .int v2), (3, .int v3), (4, .int v4), (5, .int v5)] → W p l e (rmK 5 0 0) s m (List.toArray [.ref (va 0), .int x1]) below meth c H locs 0 0 (MQ below (va_Qi (fun r (_ : Unit) => r = res) (hcB D (fun _ : Unit => moW k va mo) A) A) (List.toArray [.ref (va 0), .int x1]) s 0 0 A) (F0 m 80 ls []) := by
      intro v1 v2 v3 v4 v5 H locs ls h hP hD hS hl
      refine lv_iinc (v := (v5 + 1)) (lv' := [(5, .int (v5 + 1)), (0, .ref (va 0)), (1, .int v1), (2, .int v2), (3, .int v3), (4, .int v4)]) hx hb dX9_ease_80 hl (k := 5) rfl rfl (by decide) rfl (fun ls hl => ?_)
      refine lv_goto (tgt := 37) hx hb dX9_ease_83 (by decide) ?_
      exact hc37 _ _ _ _ _ h _ _ _ hP hD hS (lv_sub hl [1, 2, 3, 4, 5, 0] rfl)
    refine lv_iload hx hb dX9_ease_37 (lv_at hl 5 rfl) ?_
    refine lv_iload_n hx hb dX9_ease_39 rfl (lv_at hl 2 rfl) ?_
    refine lv_icmp_gt (tgt := 86) hx hb dX9_ease_40 (by decide) (fun c1 => ?_) (fun c1 => ?_)
    · have h := fw_t c1 h
      refine lv_iload_n hx hb dX9_ease_86 rfl (lv_at hl 1 rfl) ?_
      refine lv_if_ne (tgt := 98) hx hb dX9_ease_87 (by decide) (fun c2 => ?_) (fun c2 => ?_)
      · have h := fw_f c2 h
        refine lv_iload hx hb dX9_ease_98 (lv_at hl 4 rfl) ?_
        exact B100 _ _ _ _ h hP hD hS (lv_sub hl [] rfl)
      · have h := fw_t c2 h
        refine lv_iload hx hb dX9_ease_90 (lv_at hl 4 rfl) ?_
        refine fw_Si (As := [.int a37.2.2.2.1]) (rest := []) (n := 1) (wr := moW k va mo) (rv := fun b : Int32 => b) (wp := fun b : Int32 => []) h hx hb hml hown hts hG hA hP hD hS hl.1 [] (List.range (moW k va mo).length) (fun q hq9 => c_X9_bits l D k _   F a37.2.2.2.1   hq9) gX9_ease_X9_bits rfl ⟨rfl, rfl, Nat.le_of_ble_eq_true rfl, Nat.le_of_ble_eq_true rfl⟩ (by decide +kernel) rfl (al_C _) (al_m _) ⟨rfl, rfl, Nat.le_of_ble_eq_true rfl, Nat.le_of_ble_eq_true rfl, Nat.le_of_ble_eq_true rfl⟩ dX9_ease_92 (fun q3 H locs h hP hD hS => ?_)
        have hP : va_P D vwCl ((moW k va mo) ++ []) H := hP
        have hD : va_D A ((moW k va mo) ++ []) := hD
        rw [List.append_nil] at hP hD
        refine hc_is (z := q3) rfl ?_
        refine lv_goto (tgt := 100) hx hb dX9_ease_95 (by decide) ?_
        exact B100 _ _ _ _ h hP hD hS (lv_sub hl [] rfl)
    · have h := fw_f c1 h
      refine lv_iload hx hb dX9_ease_43 (lv_at hl 5 rfl) ?_
      refine lv_iload_n hx hb dX9_ease_45 rfl (lv_at hl 2 rfl) ?_
      refine lv_iconst (v := (-1)) hx hb dX9_ease_46 (by decide) ?_
      refine lv_ixor hx hb dX9_ease_47 ?_
      refine lv_iand hx hb dX9_ease_48 ?_
      refine lv_if_ne (tgt := 80) hx hb dX9_ease_49 (by decide) (fun c4 => ?_) (fun c4 => ?_)
      · have h := fw_f c4 h
        exact B80 _ _ _ _ _ _ _ _ h hP hD hS hl
      · have h := fw_t c4 h
        refine lv_iload hx hb dX9_ease_52 (lv_at hl 5 rfl) ?_
        refine fw_Si (As := [.int a37.2.2.2.2]) (rest := []) (n := 1) (wr := moW k va mo) (rv := fun b : Int32 => b) (wp := fun b : Int32 => []) h hx hb hml hown hts hG hA hP hD hS hl.1 [] (List.range (moW k va mo).length) (fun q hq9 => c_X9_bits l D k _   F a37.2.2.2.2   hq9) gX9_ease_X9_bits rfl ⟨rfl, rfl, Nat.le_of_ble_eq_true rfl, Nat.le_of_ble_eq_true rfl⟩ (by decide +kernel) rfl (al_C _) (al_m _) ⟨rfl, rfl, Nat.le_of_ble_eq_true rfl, Nat.le_of_ble_eq_true rfl, Nat.le_of_ble_eq_true rfl⟩ dX9_ease_54 (fun q5 H locs h hP hD hS => ?_)
        have hP : va_P D vwCl ((moW k va mo) ++ []) H := hP
        have hD : va_D A ((moW k va mo) ++ []) := hD
        rw [List.append_nil] at hP hD
        refine hc_is (z := q5) rfl ?_
        refine lv_iload hx hb dX9_ease_57 (lv_at hl 4 rfl) ?_
        refine fw_Si (As := [.int a37.2.2.2.1]) (rest := [.int q5]) (n := 1) (wr := moW k va mo) (rv := fun b : Int32 => b) (wp := fun b : Int32 => []) h hx hb hml hown hts hG hA hP hD hS hl.1 [] (List.range (moW k va mo).length) (fun q hq9 => c_X9_bits l D k _   F a37.2.2.2.1   hq9) gX9_ease_X9_bits rfl ⟨rfl, rfl, Nat.le_of_ble_eq_true rfl, Nat.le_of_ble_eq_true rfl⟩ (by decide +kernel) rfl (al_C _) (al_m _) ⟨rfl, rfl, Nat.le_of_ble_eq_true rfl, Nat.le_of_ble_eq_true rfl, Nat.le_of_ble_eq_true rfl⟩ dX9_ease_59 (fun q6 H locs h hP hD hS => ?_)
        have hP : va_P D vwCl ((moW k va mo) ++ []) H := hP
        have hD : va_D A ((moW k va mo) ++ []) := hD
        rw [List.append_nil] at hP hD
        refine hc_is (z := q6) rfl ?_
        refine lv_icmp_le (tgt := 80) hx hb dX9_ease_62 (by decide) (fun c7 => ?_) (fun c7 => ?_)
        · have h := fw_t c7 h
          exact B80 _ _ _ _ _ _ _ _ h hP hD hS hl
        · have h := fw_f c7 h
          refine lv_aload_n hx hb dX9_ease_65 rfl (lv_at hl 0 rfl) ?_
          refine lv_iload_n hx hb dX9_ease_66 rfl (lv_at hl 3 rfl) ?_
          refine lv_iload hx hb dX9_ease_67 (lv_at hl 5 rfl) ?_
          refine lv_ior hx hb dX9_ease_69 ?_
          refine fw_Vi (As := [.int (a37.2.2.1 ||| a37.2.2.2.2)]) (rest := []) (n := 1) (wr := []) (rv := fun b : Int32 => b) (wp := fun b : Int32 => moW k va mo) h hx hb hml hown hts hG hA hP hD hS hl.1 (List.range (moW k va mo).length) [] (fun q hq9 => c_X9_dropsOf l D k _  va F (a37.2.2.1 ||| a37.2.2.2.2) mo  hq9) (ci := 7) (q0 := 0) rfl rfl gX9_ease_X9_dropsOf rfl ⟨rfl, rfl, Nat.le_of_ble_eq_true rfl, Nat.le_of_ble_eq_true rfl⟩ (by decide +kernel) (al_C _) rfl (al_n _) ⟨rfl, rfl, Nat.le_of_ble_eq_true rfl, Nat.le_of_ble_eq_true rfl, Nat.le_of_ble_eq_true rfl⟩ dX9_ease_70 (fun q8 H locs h hP hD hS => ?_)
          have hP : va_P D vwCl (moW k va mo) H := hP
          have hD : va_D A (moW k va mo) := hD
          refine hc_is (z := q8) rfl ?_
          refine lv_if_ne (tgt := 80) hx hb dX9_ease_73 (by decide) (fun c9 => ?_) (fun c9 => ?_)
          · have h := fw_f c9 h
            exact B80 _ _ _ _ _ _ _ _ h hP hD hS hl
          · have h := fw_t c9 h
            refine lv_iload hx hb dX9_ease_76 (lv_at hl 5 rfl) ?_
            refine lv_istore (lv' := [(4, .int a37.2.2.2.2), (0, .ref (va 0)), (1, .int a37.1), (2, .int a37.2.1), (3, .int a37.2.2.1), (5, .int a37.2.2.2.2)]) hx hb dX9_ease_78 hl (by decide) rfl (fun ls hl => ?_)
            exact B80 _ _ _ _ _ _ _ _ h hP hD hS (lv_sub hl [1, 2, 3, 4, 0, 5] rfl)
  have C37 : ∀ (v1 : Int32) (v2 : Int32) (v3 : Int32) (v4 : Int32) (v5 : Int32), lp (b_X9_ease_37 F mo) F (v1, v2, v3, v4, v5) = some res → ∀ (H : Heap) (locs : List Loc) (ls : Array Slot), va_P D vwCl (moW k va mo) H → va_D A (moW k va mo) → va_S A s.heap H locs → lv_has ls 6 [(0, .ref (va 0)), (1, .int v1), (2, .int v2), (3, .int v3), (4, .int v4), (5, .int v5)] → W p l e (rmK 5 0 0) s m (List.toArray [.ref (va 0), .int x1]) below meth c H locs 0 0 (MQ below (va_Qi (fun r (_ : Unit) => r = res) (hcB D (fun _ : Unit => moW k va mo) A) A) (List.toArray [.ref (va 0), .int x1]) s 0 0 A) (F0 m 37 ls []) := fun v1 v2 v3 v4 v5 => B37 (v1, v2, v3, v4, v5)
  refine lv_aload_n hx hb dX9_ease_0 rfl (lv_at hl 0 rfl) ?_
  refine fw_Vi (As := []) (rest := []) (n := 0) (wr := []) (rv := fun b : Int32 => b) (wp := fun b : Int32 => moW k va mo) h hx hb hml hown hts hG hA hP hD hS hl.1 (List.range (moW k va mo).length) [] (fun q hq9 => c_X9_isHall l D k _  va F  mo  hq9) (ci := 7) (q0 := 0) rfl rfl gX9_ease_X9_isHall rfl ⟨rfl, rfl, Nat.le_of_ble_eq_true rfl, Nat.le_of_ble_eq_true rfl⟩ (by decide +kernel) (al_C _) rfl (al_n _) ⟨rfl, rfl, Nat.le_of_ble_eq_true rfl, Nat.le_of_ble_eq_true rfl, Nat.le_of_ble_eq_true rfl⟩ dX9_ease_1 (fun q10 H locs h hP hD hS => ?_)
  have hP : va_P D vwCl (moW k va mo) H := hP
  have hD : va_D A (moW k va mo) := hD
  refine hc_is (z := q10) rfl ?_
  refine lv_if_eq (tgt := 17) hx hb dX9_ease_4 (by decide) (fun c11 => ?_) (fun c11 => ?_)
  · have h := fw_t c11 h
    exact B17 _ _ _ h hP hD hS (lv_sub hl [] rfl)
  · have h := fw_f c11 h
    refine lv_iload_n hx hb dX9_ease_7 rfl (lv_at hl 1 rfl) ?_
    refine lv_i2l hx hb dX9_ease_8 rfl ?_
    refine lv_lconst (v := 0) hx hb dX9_ease_9 (by decide) ?_
    refine lv_lconst (v := 1) hx hb dX9_ease_10 (by decide) ?_
    refine fw_Si (As := [.long (Int32.toInt64 x1), .long 0, .long 1]) (rest := []) (n := 3) (wr := moW k va mo) (rv := fun b : Int32 => b) (wp := fun b : Int32 => []) h hx hb hml hown hts hG hA hP hD hS hl.1 [] (List.range (moW k va mo).length) (fun q hq9 => c_X9_in l D k _   F (Int32.toInt64 x1) 0 1   hq9) gX9_ease_X9_in rfl ⟨rfl, rfl, Nat.le_of_ble_eq_true rfl, Nat.le_of_ble_eq_true rfl⟩ (by decide +kernel) rfl (al_C _) (al_m _) ⟨rfl, rfl, Nat.le_of_ble_eq_true rfl, Nat.le_of_ble_eq_true rfl, Nat.le_of_ble_eq_true rfl⟩ dX9_ease_11 (fun q12 H locs h hP hD hS => ?_)
    have hP : va_P D vwCl ((moW k va mo) ++ []) H := hP
    have hD : va_D A ((moW k va mo) ++ []) := hD
    rw [List.append_nil] at hP hD
    refine hc_is (z := q12) rfl ?_
    refine lv_if_ne (tgt := 19) hx hb dX9_ease_14 (by decide) (fun c13 => ?_) (fun c13 => ?_)
    · have h := fw_f c13 h
      refine lv_aload_n hx hb dX9_ease_19 rfl (lv_at hl 0 rfl) ?_
      refine lv_iconst (v := 0) hx hb dX9_ease_20 (by decide) ?_
      refine fw_Vi (As := [.int 0]) (rest := []) (n := 1) (wr := []) (rv := fun b : Int32 => b) (wp := fun b : Int32 => moW k va mo) h hx hb hml hown hts hG hA hP hD hS hl.1 (List.range (moW k va mo).length) [] (fun q hq9 => c_X9_those l D k _  va F 0 mo  hq9) (ci := 7) (q0 := 0) rfl rfl gX9_ease_X9_those rfl ⟨rfl, rfl, Nat.le_of_ble_eq_true rfl, Nat.le_of_ble_eq_true rfl⟩ (by decide +kernel) (al_C _) rfl (al_n _) ⟨rfl, rfl, Nat.le_of_ble_eq_true rfl, Nat.le_of_ble_eq_true rfl, Nat.le_of_ble_eq_true rfl⟩ dX9_ease_21 (fun q14 H locs h hP hD hS => ?_)
      have hP : va_P D vwCl (moW k va mo) H := hP
      have hD : va_D A (moW k va mo) := hD
      refine hc_is (z := q14) rfl ?_
      refine lv_istore_n (lv' := [(2, .int q14), (0, .ref (va 0)), (1, .int x1)]) hx hb dX9_ease_24 rfl hl (by decide) rfl (fun ls hl => ?_)
      refine lv_aload_n hx hb dX9_ease_25 rfl (lv_at hl 1 rfl) ?_
      refine lv_iconst (v := 1) hx hb dX9_ease_26 (by decide) ?_
      refine fw_Vi (As := [.int 1]) (rest := []) (n := 1) (wr := []) (rv := fun b : Int32 => b) (wp := fun b : Int32 => moW k va mo) h hx hb hml hown hts hG hA hP hD hS hl.1 (List.range (moW k va mo).length) [] (fun q hq9 => c_X9_those l D k _  va F 1 mo  hq9) (ci := 7) (q0 := 0) rfl rfl gX9_ease_X9_those rfl ⟨rfl, rfl, Nat.le_of_ble_eq_true rfl, Nat.le_of_ble_eq_true rfl⟩ (by decide +kernel) (al_C _) rfl (al_n _) ⟨rfl, rfl, Nat.le_of_ble_eq_true rfl, Nat.le_of_ble_eq_true rfl, Nat.le_of_ble_eq_true rfl⟩ dX9_ease_27 (fun q15 H locs h hP hD hS => ?_)
      have hP : va_P D vwCl (moW k va mo) H := hP
      have hD : va_D A (moW k va mo) := hD
      refine hc_is (z := q15) rfl ?_
      refine lv_istore_n (lv' := [(3, .int q15), (2, .int q14), (0, .ref (va 0)), (1, .int x1)]) hx hb dX9_ease_30 rfl hl (by decide) rfl (fun ls hl => ?_)
      refine lv_iconst (v := 0) hx hb dX9_ease_31 (by decide) ?_
      refine lv_istore (lv' := [(4, .int 0), (3, .int q15), (2, .int q14), (0, .ref (va 0)), (1, .int x1)]) hx hb dX9_ease_32 hl (by decide) rfl (fun ls hl => ?_)
      refine lv_iconst (v := 0) hx hb dX9_ease_34 (by decide) ?_
      refine lv_istore (lv' := [(5, .int 0), (4, .int 0), (3, .int q15), (2, .int q14), (0, .ref (va 0)), (1, .int x1)]) hx hb dX9_ease_35 hl (by decide) rfl (fun ls hl => ?_)
      exact C37 _ _ _ _ _ h _ _ _ hP hD hS (lv_sub hl [4, 5, 3, 2, 1, 0] rfl)
    · have h := fw_t c13 h
      exact B17 _ _ _ h hP hD hS (lv_sub hl [] rfl)
noncomputable def b_X9_nextOf_47 (F : Nat)  (mo : OB) (k2 : (Int32 × Int32) → Option (Int32)) (v1 : Int32) (v2 : Int32) : Option (Int32) :=
  k2 (v1, (v2 + 1))
noncomputable def b_X9_nextOf_2 (F : Nat)  (mo : OB)  (k2 : (Int32 × Int32) → Option (Int32)) (a2 : (Int32 × Int32)) : Option (Int32) :=
  if ((mo.2.1 1) (Int32.toNatClampNeg 3)) ≤ a2.2 then (some (-1)) else (Option.bind (f_X9_has F a2.1 a2.2) (fun q2 => (if q2 = 0 then (b_X9_nextOf_47 F mo k2 a2.1 a2.2) else (Option.bind (f_X9_dropsOf F (a2.1 &&& ((1 <<< (a2.2 &&& 31)) ^^^ (-1))) mo) (fun q4 => (if q4 = 0 then (if ib (a2.1 &&& ((1 <<< (a2.2 &&& 31)) ^^^ (-1))) 256 then (if ((mo.2.1 44) (Int32.toNatClampNeg (a2.1 &&& ((1 <<< (a2.2 &&& 31)) ^^^ (-1))))) = 0 then (b_X9_nextOf_47 F mo k2 a2.1 a2.2) else (some a2.2)) else none) else (b_X9_nextOf_47 F mo k2 a2.1 a2.2)))))))
noncomputable def f_X9_nextOf (F : Nat)  (x1 : Int32) (mo : OB) : Option (Int32) :=
  lp (b_X9_nextOf_2 F mo) F (x1, 0)
set_option maxHeartbeats 4000000 in
set_option maxRecDepth 100000 in
theorem c_X9_nextOf (l : Launch) (D : va_G) (k : Nat → ClassId) (sz : Nat)  (va : Nat → Nat) (F : Nat)  (x1 : Int32) (mo : OB)  {res : Int32} (h : f_X9_nextOf F x1 mo = some res) : CtI l yX9_nextOf wsX9_nextOf (rmK 5 0 0) [.ref (va 0), .int x1] D k sz (moW k va mo) (fun r (_ : Unit) => r = res) (fun _ : Unit => moW k va mo) 0 0 := by
  refine CtI.mk (cc := cX9_nextOf) (maxL := 4) (ret := (some .int)) (by decide) rfl (Nat.le_of_ble_eq_true rfl) ?_
  intro p e s m below meth c A ls E hP hD hS hl
  obtain ⟨hx, hb, hr, hml, hown, hts, hlocks, hin, hG, hA⟩ := E
  have hown : s.vm.findClass RX9 = some m.cls := hown
  have in9 : ∀ w ∈ u_ws RX9 TX9 53, w ∈ wsX9_nextOf := fun _ h => List.mem_cons_of_mem _ (List.mem_append_right _ h)
  have hl : lv_has ls 4 [(0, .ref (va 0)), (1, .int x1)] := hl
  have B2 : ∀ a2 : (Int32 × Int32), lp (b_X9_nextOf_2 F mo) F a2 = some res → ∀ (H : Heap) (locs : List Loc) (ls : Array Slot), va_P D vwCl (moW k va mo) H → va_D A (moW k va mo) → va_S A s.heap H locs → lv_has ls 4 [(0, .ref (va 0)), (1, .int a2.1), (2, .int a2.2)] → W p l e (rmK 5 0 0) s m (List.toArray [.ref (va 0), .int x1]) below meth c H locs 0 0 (MQ below (va_Qi (fun r (_ : Unit) => r = res) (hcB D (fun _ : Unit => moW k va mo) A) A) (List.toArray [.ref (va 0), .int x1]) s 0 0 A) (F0 m 2 ls []) := by
    refine lp_W ?_ F
    intro k2 hk2 a2 h H locs ls hP hD hS hl
    have hc2 : ∀ (v1 : Int32) (v2 : Int32), k2 (v1, v2) = some res → ∀ (H : Heap) (locs : List Loc) (ls : Array Slot), va_P D vwCl (moW k va mo) H → va_D A (moW k va mo) → va_S A s.heap H locs → lv_has ls 4 [(0, .ref (va 0)), (1, .int v1), (2, .int v2)] → W p l e (rmK 5 0 0) s m (List.toArray [.ref (va 0), .int x1]) below meth c H locs 0 0 (MQ below (va_Qi (fun r (_ : Unit) => r = res) (hcB D (fun _ : Unit => moW k va mo) A) A) (List.toArray [.ref (va 0), .int x1]) s 0 0 A) (F0 m 2 ls []) := fun v1 v2 => hk2 (v1, v2)
    have B47 : ∀ (v1 : Int32) (v2 : Int32) (H : Heap) (locs : List Loc) (ls : Array Slot), b_X9_nextOf_47 F mo k2 v1 v2 = some res → va_P D vwCl (moW k va mo) H → va_D A (moW k va mo) → va_S A s.heap H locs → lv_has ls 4 [(0, .ref (va 0)), (1, .int v1), (2, .int v2)] → W p l e (rmK 5 0 0) s m (List.toArray [.ref (va 0), .int x1]) below meth c H locs 0 0 (MQ below (va_Qi (fun r (_ : Unit) => r = res) (hcB D (fun _ : Unit => moW k va mo) A) A) (List.toArray [.ref (va 0), .int x1]) s 0 0 A) (F0 m 47 ls []) := by
      intro v1 v2 H locs ls h hP hD hS hl
      refine lv_iinc (v := (v2 + 1)) (lv' := [(2, .int (v2 + 1)), (0, .ref (va 0)), (1, .int v1)]) hx hb dX9_nextOf_47 hl (k := 2) rfl rfl (by decide) rfl (fun ls hl => ?_)
      refine lv_goto (tgt := 2) hx hb dX9_nextOf_50 (by decide) ?_
      exact hc2 _ _ h _ _ _ hP hD hS (lv_sub hl [1, 2, 0] rfl)
    refine lv_iload_n hx hb dX9_nextOf_2 rfl (lv_at hl 2 rfl) ?_
    refine lv_aload_n hx hb dX9_nextOf_3 rfl (lv_at hl 0 rfl) ?_
    refine va_get (D := D) (ci := 7) (v := .ref (va 1)) (C := RX9) (T := TX9) (N := 53) hx hb hts in9 hown hG.1 hP 0 rfl rfl 1 (by decide) (hts (.fieldLink RX9 9 "ChairCaneModel" "scalar" "[I") (mem_b bq_wsX9_nextOf 0 0 rfl)) (fun _ h9 => h9) rfl dX9_nextOf_4 ?_
    refine lv_iconst (v := 3) hx hb dX9_nextOf_7 (by decide) ?_
    refine va_iald hx hb hG.1 hP 1 0 rfl rfl (by unfold vp_in; decide) dX9_nextOf_8 ?_
    refine lv_icmp_ge (tgt := 53) hx hb dX9_nextOf_9 (by decide) (fun c1 => ?_) (fun c1 => ?_)
    · have h := fw_t c1 h
      refine lv_iconst (v := (-1)) hx hb dX9_nextOf_53 (by decide) ?_
      exact fw_endI (rv := fun b : Int32 => b) (wp := fun b : Int32 => moW k va mo) hx hb hr hlocks h rfl hP hD hS dX9_nextOf_54
    · have h := fw_f c1 h
      refine lv_iload_n hx hb dX9_nextOf_12 rfl (lv_at hl 1 rfl) ?_
      refine lv_iconst (v := 1) hx hb dX9_nextOf_13 (by decide) ?_
      refine lv_iload_n hx hb dX9_nextOf_14 rfl (lv_at hl 2 rfl) ?_
      refine lv_ishl hx hb dX9_nextOf_15 ?_
      refine lv_iconst (v := (-1)) hx hb dX9_nextOf_16 (by decide) ?_
      refine lv_ixor hx hb dX9_nextOf_17 ?_
      refine lv_iand hx hb dX9_nextOf_18 ?_
      refine lv_istore_n (lv' := [(3, .int (a2.1 &&& ((1 <<< (a2.2 &&& 31)) ^^^ (-1)))), (0, .ref (va 0)), (1, .int a2.1), (2, .int a2.2)]) hx hb dX9_nextOf_19 rfl hl (by decide) rfl (fun ls hl => ?_)
      refine lv_iload_n hx hb dX9_nextOf_20 rfl (lv_at hl 2 rfl) ?_
      refine lv_iload_n hx hb dX9_nextOf_21 rfl (lv_at hl 3 rfl) ?_
      refine fw_Si (As := [.int a2.1, .int a2.2]) (rest := []) (n := 2) (wr := moW k va mo) (rv := fun b : Int32 => b) (wp := fun b : Int32 => []) h hx hb hml hown hts hG hA hP hD hS hl.1 [] (List.range (moW k va mo).length) (fun q hq9 => c_X9_has l D k _   F a2.1 a2.2   hq9) gX9_nextOf_X9_has rfl ⟨rfl, rfl, Nat.le_of_ble_eq_true rfl, Nat.le_of_ble_eq_true rfl⟩ (by decide +kernel) rfl (al_C _) (al_m _) ⟨rfl, rfl, Nat.le_of_ble_eq_true rfl, Nat.le_of_ble_eq_true rfl, Nat.le_of_ble_eq_true rfl⟩ dX9_nextOf_22 (fun q2 H locs h hP hD hS => ?_)
      have hP : va_P D vwCl ((moW k va mo) ++ []) H := hP
      have hD : va_D A ((moW k va mo) ++ []) := hD
      rw [List.append_nil] at hP hD
      refine hc_is (z := q2) rfl ?_
      refine lv_if_eq (tgt := 47) hx hb dX9_nextOf_25 (by decide) (fun c3 => ?_) (fun c3 => ?_)
      · have h := fw_t c3 h
        exact B47 _ _ _ _ _ h hP hD hS (lv_sub hl [1, 2, 3] rfl)
      · have h := fw_f c3 h
        refine lv_aload_n hx hb dX9_nextOf_28 rfl (lv_at hl 1 rfl) ?_
        refine lv_iload_n hx hb dX9_nextOf_29 rfl (lv_at hl 0 rfl) ?_
        refine fw_Vi (As := [.int (a2.1 &&& ((1 <<< (a2.2 &&& 31)) ^^^ (-1)))]) (rest := []) (n := 1) (wr := []) (rv := fun b : Int32 => b) (wp := fun b : Int32 => moW k va mo) h hx hb hml hown hts hG hA hP hD hS hl.1 (List.range (moW k va mo).length) [] (fun q hq9 => c_X9_dropsOf l D k _  va F (a2.1 &&& ((1 <<< (a2.2 &&& 31)) ^^^ (-1))) mo  hq9) (ci := 7) (q0 := 0) rfl rfl gX9_nextOf_X9_dropsOf rfl ⟨rfl, rfl, Nat.le_of_ble_eq_true rfl, Nat.le_of_ble_eq_true rfl⟩ (by decide +kernel) (al_C _) rfl (al_n _) ⟨rfl, rfl, Nat.le_of_ble_eq_true rfl, Nat.le_of_ble_eq_true rfl, Nat.le_of_ble_eq_true rfl⟩ dX9_nextOf_30 (fun q4 H locs h hP hD hS => ?_)
        have hP : va_P D vwCl (moW k va mo) H := hP
        have hD : va_D A (moW k va mo) := hD
        refine hc_is (z := q4) rfl ?_
        refine lv_if_ne (tgt := 47) hx hb dX9_nextOf_33 (by decide) (fun c5 => ?_) (fun c5 => ?_)
        · have h := fw_f c5 h
          exact B47 _ _ _ _ _ h hP hD hS (lv_sub hl [1, 2, 3] rfl)
        · have h := fw_t c5 h
          refine lv_aload_n hx hb dX9_nextOf_36 rfl (lv_at hl 1 rfl) ?_
          refine va_get (D := D) (ci := 7) (v := .ref (va 31)) (C := RX9) (T := TX9) (N := 53) hx hb hts in9 hown hG.1 hP 0 rfl rfl 44 (by decide) (hts (.fieldLink RX9 106 "ChairCaneModel" "canRise" "[Z") (mem_b bq_wsX9_nextOf 0 1 rfl)) (fun _ h9 => h9) rfl dX9_nextOf_37 ?_
          refine lv_iload_n hx hb dX9_nextOf_40 rfl (lv_at hl 0 rfl) ?_
          obtain ⟨g6, h⟩ := fw_g h
          refine va_zald hx hb hG.1 hP 31 2 rfl rfl (ib_vp g6) dX9_nextOf_41 ?_
          refine lv_if_eq (tgt := 47) hx hb dX9_nextOf_42 (by decide) (fun c7 => ?_) (fun c7 => ?_)
          · have h := fw_t c7 h
            exact B47 _ _ _ _ _ h hP hD hS (lv_sub hl [1, 2, 3] rfl)
          · have h := fw_f c7 h
            refine lv_iload_n hx hb dX9_nextOf_45 rfl (lv_at hl 3 rfl) ?_
            exact fw_endI (rv := fun b : Int32 => b) (wp := fun b : Int32 => moW k va mo) hx hb hr hlocks h rfl hP hD hS dX9_nextOf_46
  have C2 : ∀ (v1 : Int32) (v2 : Int32), lp (b_X9_nextOf_2 F mo) F (v1, v2) = some res → ∀ (H : Heap) (locs : List Loc) (ls : Array Slot), va_P D vwCl (moW k va mo) H → va_D A (moW k va mo) → va_S A s.heap H locs → lv_has ls 4 [(0, .ref (va 0)), (1, .int v1), (2, .int v2)] → W p l e (rmK 5 0 0) s m (List.toArray [.ref (va 0), .int x1]) below meth c H locs 0 0 (MQ below (va_Qi (fun r (_ : Unit) => r = res) (hcB D (fun _ : Unit => moW k va mo) A) A) (List.toArray [.ref (va 0), .int x1]) s 0 0 A) (F0 m 2 ls []) := fun v1 v2 => B2 (v1, v2)
  refine lv_iconst (v := 0) hx hb dX9_nextOf_0 (by decide) ?_
  refine lv_istore_n (lv' := [(2, .int 0), (0, .ref (va 0)), (1, .int x1)]) hx hb dX9_nextOf_1 rfl hl (by decide) rfl (fun ls hl => ?_)
  exact C2 _ _ h _ _ _ hP hD hS (lv_sub hl [1, 2, 0] rfl)
