/-! 26, 5 -/
noncomputable def b_X9_way_19 (F : Nat)    (mo : OB) : Option (Int32 × OB) :=
  some ((-3), mo)
noncomputable def b_X9_way_131 (F : Nat)    (y0 : Int32) (mo : OB) : Option (Int32 × OB) :=
  some (y0, mo)
noncomputable def b_X9_way_118 (F : Nat)    (v3 : Int32) (mo : OB) : Option (Int32 × OB) :=
  if v3 = 0 then (b_X9_way_131 F (-1) mo) else (Option.bind (f_X9_nextOf F v3 mo) (fun q2 => (b_X9_way_131 F q2 mo)))
noncomputable def b_X9_way_90 (F : Nat)    (k90 : (Int32 × Int32 × Int32 × OB) → Option (Int32 × OB)) (a90 : (Int32 × Int32 × Int32 × OB)) : Option (Int32 × OB) :=
  if a90.1 ≤ a90.2.2.1 then (b_X9_way_118 F a90.2.1 a90.2.2.2) else (if a90.2.1 = 0 then (b_X9_way_118 F a90.2.1 a90.2.2.2) else (Option.bind (f_X9_nextOf F a90.2.1 a90.2.2.2) (fun q5 => (k90 (a90.1, (a90.2.1 &&& ((1 <<< (q5 &&& 31)) ^^^ (-1))), (a90.2.2.1 + 1), a90.2.2.2)))))
noncomputable def b_X9_way_67 (F : Nat)   (k30 : (Int32 × Int32 × Int32 × OB) → Option (Int32 × OB)) (v1 : Int32) (v2 : Int32) (v3 : Int32) (mo : OB) : Option (Int32 × OB) :=
  k30 (v1, v2, (v3 + 1), mo)
noncomputable def b_X9_way_66 (F : Nat)   (k30 : (Int32 × Int32 × Int32 × OB) → Option (Int32 × OB)) (v1 : Int32) (v2 : Int32) (v3 : Int32) (y0 : Int32) (y1 : Int32) (mo : OB) : Option (Int32 × OB) :=
  if ib y1 256 then (b_X9_way_67 F k30 v1 v2 v3 (mo.1, (uF mo.2.1 44 (upd (mo.2.1 44) (Int32.toNatClampNeg y1) (vp_nar .boolean y0))), mo.2.2)) else none
noncomputable def b_X9_way_61 (F : Nat)   (k30 : (Int32 × Int32 × Int32 × OB) → Option (Int32 × OB)) (v1 : Int32) (v2 : Int32) (v3 : Int32) (y0 : Int32) (mo : OB) : Option (Int32 × OB) :=
  b_X9_way_66 F k30 v1 v2 v3 1 y0 mo
noncomputable def b_X9_way_30 (F : Nat)    (k30 : (Int32 × Int32 × Int32 × OB) → Option (Int32 × OB)) (a30 : (Int32 × Int32 × Int32 × OB)) : Option (Int32 × OB) :=
  if a30.2.1 < a30.2.2.1 then (if ib a30.2.1 256 then (if ((a30.2.2.2.2.1 44) (Int32.toNatClampNeg a30.2.1)) = 0 then (some ((-2), a30.2.2.2)) else (lp (b_X9_way_90 F) F (a30.1, a30.2.1, 0, a30.2.2.2))) else none) else (if (a30.2.2.1 &&& (a30.2.1 ^^^ (-1))) = 0 then (if a30.2.2.1 = 0 then (b_X9_way_61 F k30 a30.1 a30.2.1 a30.2.2.1 a30.2.2.1 a30.2.2.2) else (Option.bind (f_X9_nextOf F a30.2.2.1 a30.2.2.2) (fun q12 => (if q12 = (-1) then (b_X9_way_66 F k30 a30.1 a30.2.1 a30.2.2.1 0 a30.2.2.1 a30.2.2.2) else (b_X9_way_61 F k30 a30.1 a30.2.1 a30.2.2.1 a30.2.2.1 a30.2.2.2))))) else (b_X9_way_67 F k30 a30.1 a30.2.1 a30.2.2.1 a30.2.2.2))
noncomputable def f_X9_way (F : Nat)  (x1 : Int32) (mo : OB) : Option (Int32 × OB) :=
  Option.bind (f_X9_isHall F mo) (fun q14 => (if q14 = 0 then (b_X9_way_19 F mo) else (Option.bind (f_X9_in F (Int32.toInt64 x1) 0 7) (fun q16 => (if q16 = 0 then (b_X9_way_19 F mo) else (Option.bind (f_X9_those F 1 mo) (fun q18 => (lp (b_X9_way_30 F) F (x1, q18, 0, mo)))))))))
set_option maxHeartbeats 4000000 in
set_option maxRecDepth 100000 in
theorem c_X9_way (l : Launch) (D : va_G) (k : Nat → ClassId) (sz : Nat)  (va : Nat → Nat) (F : Nat)  (x1 : Int32) (mo : OB)  {res : Int32 × OB} (h : f_X9_way F x1 mo = some res) : CtI l yX9_way wsX9_way (rmK 6 0 0) [.ref (va 0), .int x1] D k sz (moW k va mo) (fun r (_ : Unit) => r = res.1) (fun _ : Unit => moW k va res.2) 0 0 := by
  refine CtI.mk (cc := cX9_way) (maxL := 5) (ret := (some .int)) (by decide) rfl (Nat.le_of_ble_eq_true rfl) ?_
  intro p e s m below meth c A ls E hP hD hS hl
  obtain ⟨hx, hb, hr, hml, hown, hts, hlocks, hin, hG, hA⟩ := E
  have hown : s.vm.findClass RX9 = some m.cls := hown
  have in9 : ∀ w ∈ u_ws RX9 TX9 53, w ∈ wsX9_way := fun _ h => List.mem_cons_of_mem _ (List.mem_append_right _ h)
  have hl : lv_has ls 5 [(0, .ref (va 0)), (1, .int x1)] := hl
  have B19 : ∀ (mo : OB) (H : Heap) (locs : List Loc) (ls : Array Slot), b_X9_way_19 F mo = some res → va_P D vwCl (moW k va mo) H → va_D A (moW k va mo) → va_S A s.heap H locs → lv_has ls 5 [] → W p l e (rmK 6 0 0) s m (List.toArray [.ref (va 0), .int x1]) below meth c H locs 0 0 (MQ below (va_Qi (fun r (_ : Unit) => r = res.1) (hcB D (fun _ : Unit => moW k va res.2) A) A) (List.toArray [.ref (va 0), .int x1]) s 0 0 A) (F0 m 19 ls []) := by
    intro mo H locs ls h hP hD hS hl
    refine lv_bipush (v := (-3)) hx hb dX9_way_19 (by decide) ?_
    exact fw_endI (rv := fun b : Int32 × OB => b.1) (wp := fun b : Int32 × OB => moW k va b.2) hx hb hr hlocks h rfl hP hD hS dX9_way_21
  have B131 : ∀ (y0 : Int32) (mo : OB) (H : Heap) (locs : List Loc) (ls : Array Slot), b_X9_way_131 F y0 mo = some res → va_P D vwCl (moW k va mo) H → va_D A (moW k va mo) → va_S A s.heap H locs → lv_has ls 5 [] → W p l e (rmK 6 0 0) s m (List.toArray [.ref (va 0), .int x1]) below meth c H locs 0 0 (MQ below (va_Qi (fun r (_ : Unit) => r = res.1) (hcB D (fun _ : Unit => moW k va res.2) A) A) (List.toArray [.ref (va 0), .int x1]) s 0 0 A) (F0 m 131 ls [.int y0]) := by
    intro y0 mo H locs ls h hP hD hS hl
    exact fw_endI (rv := fun b : Int32 × OB => b.1) (wp := fun b : Int32 × OB => moW k va b.2) hx hb hr hlocks h rfl hP hD hS dX9_way_131
  have B118 : ∀ (v3 : Int32) (mo : OB) (H : Heap) (locs : List Loc) (ls : Array Slot), b_X9_way_118 F v3 mo = some res → va_P D vwCl (moW k va mo) H → va_D A (moW k va mo) → va_S A s.heap H locs → lv_has ls 5 [(0, .ref (va 0)), (3, .int v3)] → W p l e (rmK 6 0 0) s m (List.toArray [.ref (va 0), .int x1]) below meth c H locs 0 0 (MQ below (va_Qi (fun r (_ : Unit) => r = res.1) (hcB D (fun _ : Unit => moW k va res.2) A) A) (List.toArray [.ref (va 0), .int x1]) s 0 0 A) (F0 m 118 ls []) := by
    intro v3 mo H locs ls h hP hD hS hl
    refine lv_iload_n hx hb dX9_way_118 rfl (lv_at hl 1 rfl) ?_
    refine lv_if_ne (tgt := 126) hx hb dX9_way_119 (by decide) (fun c1 => ?_) (fun c1 => ?_)
    · have h := fw_f c1 h
      refine lv_aload_n hx hb dX9_way_126 rfl (lv_at hl 0 rfl) ?_
      refine lv_iload_n hx hb dX9_way_127 rfl (lv_at hl 1 rfl) ?_
      refine fw_Vi (As := [.int v3]) (rest := []) (n := 1) (wr := []) (rv := fun b : Int32 => b) (wp := fun b : Int32 => moW k va mo) h hx hb hml hown hts hG hA hP hD hS hl.1 (List.range (moW k va mo).length) [] (fun q hq9 => c_X9_nextOf l D k _  va F v3 mo  hq9) (ci := 7) (q0 := 0) rfl rfl gX9_way_X9_nextOf rfl ⟨rfl, rfl, Nat.le_of_ble_eq_true rfl, Nat.le_of_ble_eq_true rfl⟩ (by decide +kernel) (al_C _) rfl (al_n _) ⟨rfl, rfl, Nat.le_of_ble_eq_true rfl, Nat.le_of_ble_eq_true rfl, Nat.le_of_ble_eq_true rfl⟩ dX9_way_128 (fun q2 H locs h hP hD hS => ?_)
      have hP : va_P D vwCl (moW k va mo) H := hP
      have hD : va_D A (moW k va mo) := hD
      refine hc_is (z := q2) rfl ?_
      exact B131 _ _ _ _ _ h hP hD hS (lv_sub hl [] rfl)
    · have h := fw_t c1 h
      refine lv_iconst (v := (-1)) hx hb dX9_way_122 (by decide) ?_
      refine lv_goto (tgt := 131) hx hb dX9_way_123 (by decide) ?_
      exact B131 _ _ _ _ _ h hP hD hS (lv_sub hl [] rfl)
  have B90 : ∀ a90 : (Int32 × Int32 × Int32 × OB), lp (b_X9_way_90 F) F a90 = some res → ∀ (H : Heap) (locs : List Loc) (ls : Array Slot), va_P D vwCl (moW k va a90.2.2.2) H → va_D A (moW k va a90.2.2.2) → va_S A s.heap H locs → lv_has ls 5 [(0, .ref (va 0)), (1, .int a90.1), (3, .int a90.2.1), (4, .int a90.2.2.1)] → W p l e (rmK 6 0 0) s m (List.toArray [.ref (va 0), .int x1]) below meth c H locs 0 0 (MQ below (va_Qi (fun r (_ : Unit) => r = res.1) (hcB D (fun _ : Unit => moW k va res.2) A) A) (List.toArray [.ref (va 0), .int x1]) s 0 0 A) (F0 m 90 ls []) := by
    refine lp_W ?_ F
    intro k90 hk90 a90 h H locs ls hP hD hS hl
    have hc90 : ∀ (v1 : Int32) (v3 : Int32) (v4 : Int32) (mo : OB), k90 (v1, v3, v4, mo) = some res → ∀ (H : Heap) (locs : List Loc) (ls : Array Slot), va_P D vwCl (moW k va mo) H → va_D A (moW k va mo) → va_S A s.heap H locs → lv_has ls 5 [(0, .ref (va 0)), (1, .int v1), (3, .int v3), (4, .int v4)] → W p l e (rmK 6 0 0) s m (List.toArray [.ref (va 0), .int x1]) below meth c H locs 0 0 (MQ below (va_Qi (fun r (_ : Unit) => r = res.1) (hcB D (fun _ : Unit => moW k va res.2) A) A) (List.toArray [.ref (va 0), .int x1]) s 0 0 A) (F0 m 90 ls []) := fun v1 v3 v4 mo => hk90 (v1, v3, v4, mo)
    refine lv_iload hx hb dX9_way_90 (lv_at hl 3 rfl) ?_
    refine lv_iload_n hx hb dX9_way_92 rfl (lv_at hl 1 rfl) ?_
    refine lv_icmp_ge (tgt := 118) hx hb dX9_way_93 (by decide) (fun c3 => ?_) (fun c3 => ?_)
    · have h := fw_t c3 h
      exact B118 _ _ _ _ _ h hP hD hS (lv_sub hl [0, 2] rfl)
    · have h := fw_f c3 h
      refine lv_iload_n hx hb dX9_way_96 rfl (lv_at hl 2 rfl) ?_
      refine lv_if_eq (tgt := 118) hx hb dX9_way_97 (by decide) (fun c4 => ?_) (fun c4 => ?_)
      · have h := fw_t c4 h
        exact B118 _ _ _ _ _ h hP hD hS (lv_sub hl [0, 2] rfl)
      · have h := fw_f c4 h
        refine lv_iload_n hx hb dX9_way_100 rfl (lv_at hl 2 rfl) ?_
        refine lv_iconst (v := 1) hx hb dX9_way_101 (by decide) ?_
        refine lv_aload_n hx hb dX9_way_102 rfl (lv_at hl 0 rfl) ?_
        refine lv_iload_n hx hb dX9_way_103 rfl (lv_at hl 2 rfl) ?_
        refine fw_Vi (As := [.int a90.2.1]) (rest := [.int 1, .int a90.2.1]) (n := 1) (wr := []) (rv := fun b : Int32 => b) (wp := fun b : Int32 => moW k va a90.2.2.2) h hx hb hml hown hts hG hA hP hD hS hl.1 (List.range (moW k va a90.2.2.2).length) [] (fun q hq9 => c_X9_nextOf l D k _  va F a90.2.1 a90.2.2.2  hq9) (ci := 7) (q0 := 0) rfl rfl gX9_way_X9_nextOf rfl ⟨rfl, rfl, Nat.le_of_ble_eq_true rfl, Nat.le_of_ble_eq_true rfl⟩ (by decide +kernel) (al_C _) rfl (al_n _) ⟨rfl, rfl, Nat.le_of_ble_eq_true rfl, Nat.le_of_ble_eq_true rfl, Nat.le_of_ble_eq_true rfl⟩ dX9_way_104 (fun q5 H locs h hP hD hS => ?_)
        have hP : va_P D vwCl (moW k va a90.2.2.2) H := hP
        have hD : va_D A (moW k va a90.2.2.2) := hD
        refine hc_is (z := q5) rfl ?_
        refine lv_ishl hx hb dX9_way_107 ?_
        refine lv_iconst (v := (-1)) hx hb dX9_way_108 (by decide) ?_
        refine lv_ixor hx hb dX9_way_109 ?_
        refine lv_iand hx hb dX9_way_110 ?_
        refine lv_istore_n (lv' := [(3, .int (a90.2.1 &&& ((1 <<< (q5 &&& 31)) ^^^ (-1)))), (0, .ref (va 0)), (1, .int a90.1), (4, .int a90.2.2.1)]) hx hb dX9_way_111 rfl hl (by decide) rfl (fun ls hl => ?_)
        refine lv_iinc (v := (a90.2.2.1 + 1)) (lv' := [(4, .int (a90.2.2.1 + 1)), (3, .int (a90.2.1 &&& ((1 <<< (q5 &&& 31)) ^^^ (-1)))), (0, .ref (va 0)), (1, .int a90.1)]) hx hb dX9_way_112 hl (k := 3) rfl rfl (by decide) rfl (fun ls hl => ?_)
        refine lv_goto (tgt := 90) hx hb dX9_way_115 (by decide) ?_
        exact hc90 _ _ _ _ h _ _ _ hP hD hS (lv_sub hl [2, 3, 1, 0] rfl)
  have C90 : ∀ (v1 : Int32) (v3 : Int32) (v4 : Int32) (mo : OB), lp (b_X9_way_90 F) F (v1, v3, v4, mo) = some res → ∀ (H : Heap) (locs : List Loc) (ls : Array Slot), va_P D vwCl (moW k va mo) H → va_D A (moW k va mo) → va_S A s.heap H locs → lv_has ls 5 [(0, .ref (va 0)), (1, .int v1), (3, .int v3), (4, .int v4)] → W p l e (rmK 6 0 0) s m (List.toArray [.ref (va 0), .int x1]) below meth c H locs 0 0 (MQ below (va_Qi (fun r (_ : Unit) => r = res.1) (hcB D (fun _ : Unit => moW k va res.2) A) A) (List.toArray [.ref (va 0), .int x1]) s 0 0 A) (F0 m 90 ls []) := fun v1 v3 v4 mo => B90 (v1, v3, v4, mo)
  have B30 : ∀ a30 : (Int32 × Int32 × Int32 × OB), lp (b_X9_way_30 F) F a30 = some res → ∀ (H : Heap) (locs : List Loc) (ls : Array Slot), va_P D vwCl (moW k va a30.2.2.2) H → va_D A (moW k va a30.2.2.2) → va_S A s.heap H locs → lv_has ls 5 [(0, .ref (va 0)), (1, .int a30.1), (2, .int a30.2.1), (3, .int a30.2.2.1)] → W p l e (rmK 6 0 0) s m (List.toArray [.ref (va 0), .int x1]) below meth c H locs 0 0 (MQ below (va_Qi (fun r (_ : Unit) => r = res.1) (hcB D (fun _ : Unit => moW k va res.2) A) A) (List.toArray [.ref (va 0), .int x1]) s 0 0 A) (F0 m 30 ls []) := by
    refine lp_W ?_ F
    intro k30 hk30 a30 h H locs ls hP hD hS hl
    have hc30 : ∀ (v1 : Int32) (v2 : Int32) (v3 : Int32) (mo : OB), k30 (v1, v2, v3, mo) = some res → ∀ (H : Heap) (locs : List Loc) (ls : Array Slot), va_P D vwCl (moW k va mo) H → va_D A (moW k va mo) → va_S A s.heap H locs → lv_has ls 5 [(0, .ref (va 0)), (1, .int v1), (2, .int v2), (3, .int v3)] → W p l e (rmK 6 0 0) s m (List.toArray [.ref (va 0), .int x1]) below meth c H locs 0 0 (MQ below (va_Qi (fun r (_ : Unit) => r = res.1) (hcB D (fun _ : Unit => moW k va res.2) A) A) (List.toArray [.ref (va 0), .int x1]) s 0 0 A) (F0 m 30 ls []) := fun v1 v2 v3 mo => hk30 (v1, v2, v3, mo)
    have B67 : ∀ (v1 : Int32) (v2 : Int32) (v3 : Int32) (mo : OB) (H : Heap) (locs : List Loc) (ls : Array Slot), b_X9_way_67 F k30 v1 v2 v3 mo = some res → va_P D vwCl (moW k va mo) H → va_D A (moW k va mo) → va_S A s.heap H locs → lv_has ls 5 [(0, .ref (va 0)), (1, .int v1), (2, .int v2), (3, .int v3)] → W p l e (rmK 6 0 0) s m (List.toArray [.ref (va 0), .int x1]) below meth c H locs 0 0 (MQ below (va_Qi (fun r (_ : Unit) => r = res.1) (hcB D (fun _ : Unit => moW k va res.2) A) A) (List.toArray [.ref (va 0), .int x1]) s 0 0 A) (F0 m 67 ls []) := by
      intro v1 v2 v3 mo H locs ls h hP hD hS hl
      refine lv_iinc (v := (v3 + 1)) (lv' := [(3, .int (v3 + 1)), (0, .ref (va 0)), (1, .int v1), (2, .int v2)]) hx hb dX9_way_67 hl (k := 3) rfl rfl (by decide) rfl (fun ls hl => ?_)
      refine lv_goto (tgt := 30) hx hb dX9_way_70 (by decide) ?_
      exact hc30 _ _ _ _ h _ _ _ hP hD hS (lv_sub hl [1, 2, 3, 0] rfl)
    have B66 : ∀ (v1 : Int32) (v2 : Int32) (v3 : Int32) (y0 : Int32) (y1 : Int32) (mo : OB) (H : Heap) (locs : List Loc) (ls : Array Slot), b_X9_way_66 F k30 v1 v2 v3 y0 y1 mo = some res → va_P D vwCl (moW k va mo) H → va_D A (moW k va mo) → va_S A s.heap H locs → lv_has ls 5 [(0, .ref (va 0)), (1, .int v1), (2, .int v2), (3, .int v3)] → W p l e (rmK 6 0 0) s m (List.toArray [.ref (va 0), .int x1]) below meth c H locs 0 0 (MQ below (va_Qi (fun r (_ : Unit) => r = res.1) (hcB D (fun _ : Unit => moW k va res.2) A) A) (List.toArray [.ref (va 0), .int x1]) s 0 0 A) (F0 m 66 ls [.int y0, .int y1, .ref (va 31)]) := by
      intro v1 v2 v3 y0 y1 mo H locs ls h hP hD hS hl
      obtain ⟨g6, h⟩ := fw_g h
      refine va_zast hx hb hG.1 hP hD hS 31 2 rfl rfl (ib_vp g6) dX9_way_66 (fun H locs hP hD hS => ?_)
      exact B67 _ _ _ _ _ _ _ h hP hD hS hl
    have B61 : ∀ (v1 : Int32) (v2 : Int32) (v3 : Int32) (y0 : Int32) (mo : OB) (H : Heap) (locs : List Loc) (ls : Array Slot), b_X9_way_61 F k30 v1 v2 v3 y0 mo = some res → va_P D vwCl (moW k va mo) H → va_D A (moW k va mo) → va_S A s.heap H locs → lv_has ls 5 [(0, .ref (va 0)), (1, .int v1), (2, .int v2), (3, .int v3)] → W p l e (rmK 6 0 0) s m (List.toArray [.ref (va 0), .int x1]) below meth c H locs 0 0 (MQ below (va_Qi (fun r (_ : Unit) => r = res.1) (hcB D (fun _ : Unit => moW k va res.2) A) A) (List.toArray [.ref (va 0), .int x1]) s 0 0 A) (F0 m 61 ls [.int y0, .ref (va 31)]) := by
      intro v1 v2 v3 y0 mo H locs ls h hP hD hS hl
      refine lv_iconst (v := 1) hx hb dX9_way_61 (by decide) ?_
      refine lv_goto (tgt := 66) hx hb dX9_way_62 (by decide) ?_
      exact B66 _ _ _ _ _ _ _ _ _ h hP hD hS hl
    refine lv_iload_n hx hb dX9_way_30 rfl (lv_at hl 3 rfl) ?_
    refine lv_iload_n hx hb dX9_way_31 rfl (lv_at hl 2 rfl) ?_
    refine lv_icmp_gt (tgt := 73) hx hb dX9_way_32 (by decide) (fun c7 => ?_) (fun c7 => ?_)
    · have h := fw_t c7 h
      refine lv_aload_n hx hb dX9_way_73 rfl (lv_at hl 0 rfl) ?_
      refine va_get (D := D) (ci := 7) (v := .ref (va 31)) (C := RX9) (T := TX9) (N := 53) hx hb hts in9 hown hG.1 hP 0 rfl rfl 44 (by decide) (hts (.fieldLink RX9 106 "ChairCaneModel" "canRise" "[Z") (mem_b bq_wsX9_way 0 1 rfl)) (fun _ h9 => h9) rfl dX9_way_74 ?_
      refine lv_iload_n hx hb dX9_way_77 rfl (lv_at hl 2 rfl) ?_
      obtain ⟨g8, h⟩ := fw_g h
      refine va_zald hx hb hG.1 hP 31 2 rfl rfl (ib_vp g8) dX9_way_78 ?_
      refine lv_if_ne (tgt := 85) hx hb dX9_way_79 (by decide) (fun c9 => ?_) (fun c9 => ?_)
      · have h := fw_f c9 h
        refine lv_iload_n hx hb dX9_way_85 rfl (lv_at hl 2 rfl) ?_
        refine lv_istore_n (lv' := [(3, .int a30.2.1), (0, .ref (va 0)), (1, .int a30.1), (2, .int a30.2.1)]) hx hb dX9_way_86 rfl hl (by decide) rfl (fun ls hl => ?_)
        refine lv_iconst (v := 0) hx hb dX9_way_87 (by decide) ?_
        refine lv_istore (lv' := [(4, .int 0), (3, .int a30.2.1), (0, .ref (va 0)), (1, .int a30.1), (2, .int a30.2.1)]) hx hb dX9_way_88 hl (by decide) rfl (fun ls hl => ?_)
        exact C90 _ _ _ _ h _ _ _ hP hD hS (lv_sub hl [2, 3, 1, 0] rfl)
      · have h := fw_t c9 h
        refine lv_bipush (v := (-2)) hx hb dX9_way_82 (by decide) ?_
        exact fw_endI (rv := fun b : Int32 × OB => b.1) (wp := fun b : Int32 × OB => moW k va b.2) hx hb hr hlocks h rfl hP hD hS dX9_way_84
    · have h := fw_f c7 h
      refine lv_iload_n hx hb dX9_way_35 rfl (lv_at hl 3 rfl) ?_
      refine lv_iload_n hx hb dX9_way_36 rfl (lv_at hl 2 rfl) ?_
      refine lv_iconst (v := (-1)) hx hb dX9_way_37 (by decide) ?_
      refine lv_ixor hx hb dX9_way_38 ?_
      refine lv_iand hx hb dX9_way_39 ?_
      refine lv_if_ne (tgt := 67) hx hb dX9_way_40 (by decide) (fun c10 => ?_) (fun c10 => ?_)
      · have h := fw_f c10 h
        exact B67 _ _ _ _ _ _ _ h hP hD hS hl
      · have h := fw_t c10 h
        refine lv_aload_n hx hb dX9_way_43 rfl (lv_at hl 0 rfl) ?_
        refine va_get (D := D) (ci := 7) (v := .ref (va 31)) (C := RX9) (T := TX9) (N := 53) hx hb hts in9 hown hG.1 hP 0 rfl rfl 44 (by decide) (hts (.fieldLink RX9 106 "ChairCaneModel" "canRise" "[Z") (mem_b bq_wsX9_way 0 1 rfl)) (fun _ h9 => h9) rfl dX9_way_44 ?_
        refine lv_iload_n hx hb dX9_way_47 rfl (lv_at hl 3 rfl) ?_
        refine lv_iload_n hx hb dX9_way_48 rfl (lv_at hl 3 rfl) ?_
        refine lv_if_eq (tgt := 61) hx hb dX9_way_49 (by decide) (fun c11 => ?_) (fun c11 => ?_)
        · have h := fw_t c11 h
          exact B61 _ _ _ _ _ _ _ _ h hP hD hS hl
        · have h := fw_f c11 h
          refine lv_aload_n hx hb dX9_way_52 rfl (lv_at hl 0 rfl) ?_
          refine lv_iload_n hx hb dX9_way_53 rfl (lv_at hl 3 rfl) ?_
          refine fw_Vi (As := [.int a30.2.2.1]) (rest := [.int a30.2.2.1, .ref (va 31)]) (n := 1) (wr := []) (rv := fun b : Int32 => b) (wp := fun b : Int32 => moW k va a30.2.2.2) h hx hb hml hown hts hG hA hP hD hS hl.1 (List.range (moW k va a30.2.2.2).length) [] (fun q hq9 => c_X9_nextOf l D k _  va F a30.2.2.1 a30.2.2.2  hq9) (ci := 7) (q0 := 0) rfl rfl gX9_way_X9_nextOf rfl ⟨rfl, rfl, Nat.le_of_ble_eq_true rfl, Nat.le_of_ble_eq_true rfl⟩ (by decide +kernel) (al_C _) rfl (al_n _) ⟨rfl, rfl, Nat.le_of_ble_eq_true rfl, Nat.le_of_ble_eq_true rfl, Nat.le_of_ble_eq_true rfl⟩ dX9_way_54 (fun q12 H locs h hP hD hS => ?_)
          have hP : va_P D vwCl (moW k va a30.2.2.2) H := hP
          have hD : va_D A (moW k va a30.2.2.2) := hD
          refine hc_is (z := q12) rfl ?_
          refine lv_iconst (v := (-1)) hx hb dX9_way_57 (by decide) ?_
          refine lv_icmp_eq (tgt := 65) hx hb dX9_way_58 (by decide) (fun c13 => ?_) (fun c13 => ?_)
          · have h := fw_t c13 h
            refine lv_iconst (v := 0) hx hb dX9_way_65 (by decide) ?_
            exact B66 _ _ _ _ _ _ _ _ _ h hP hD hS hl
          · have h := fw_f c13 h
            exact B61 _ _ _ _ _ _ _ _ h hP hD hS hl
  have C30 : ∀ (v1 : Int32) (v2 : Int32) (v3 : Int32) (mo : OB), lp (b_X9_way_30 F) F (v1, v2, v3, mo) = some res → ∀ (H : Heap) (locs : List Loc) (ls : Array Slot), va_P D vwCl (moW k va mo) H → va_D A (moW k va mo) → va_S A s.heap H locs → lv_has ls 5 [(0, .ref (va 0)), (1, .int v1), (2, .int v2), (3, .int v3)] → W p l e (rmK 6 0 0) s m (List.toArray [.ref (va 0), .int x1]) below meth c H locs 0 0 (MQ below (va_Qi (fun r (_ : Unit) => r = res.1) (hcB D (fun _ : Unit => moW k va res.2) A) A) (List.toArray [.ref (va 0), .int x1]) s 0 0 A) (F0 m 30 ls []) := fun v1 v2 v3 mo => B30 (v1, v2, v3, mo)
  refine lv_aload_n hx hb dX9_way_0 rfl (lv_at hl 0 rfl) ?_
  refine fw_Vi (As := []) (rest := []) (n := 0) (wr := []) (rv := fun b : Int32 => b) (wp := fun b : Int32 => moW k va mo) h hx hb hml hown hts hG hA hP hD hS hl.1 (List.range (moW k va mo).length) [] (fun q hq9 => c_X9_isHall l D k _  va F  mo  hq9) (ci := 7) (q0 := 0) rfl rfl gX9_way_X9_isHall rfl ⟨rfl, rfl, Nat.le_of_ble_eq_true rfl, Nat.le_of_ble_eq_true rfl⟩ (by decide +kernel) (al_C _) rfl (al_n _) ⟨rfl, rfl, Nat.le_of_ble_eq_true rfl, Nat.le_of_ble_eq_true rfl, Nat.le_of_ble_eq_true rfl⟩ dX9_way_1 (fun q14 H locs h hP hD hS => ?_)
  have hP : va_P D vwCl (moW k va mo) H := hP
  have hD : va_D A (moW k va mo) := hD
  refine hc_is (z := q14) rfl ?_
  refine lv_if_eq (tgt := 19) hx hb dX9_way_4 (by decide) (fun c15 => ?_) (fun c15 => ?_)
  · have h := fw_t c15 h
    exact B19 _ _ _ _ h hP hD hS (lv_sub hl [] rfl)
  · have h := fw_f c15 h
    refine lv_iload_n hx hb dX9_way_7 rfl (lv_at hl 1 rfl) ?_
    refine lv_i2l hx hb dX9_way_8 rfl ?_
    refine lv_lconst (v := 0) hx hb dX9_way_9 (by decide) ?_
    refine lv_ldc2 (v := 7) hx hb hown (hts (.constantLong RX9 432 (7)) (mem_b bq_wsX9_way 0 0 rfl)) dX9_way_10 ?_
    refine fw_Si (As := [.long (Int32.toInt64 x1), .long 0, .long 7]) (rest := []) (n := 3) (wr := moW k va mo) (rv := fun b : Int32 => b) (wp := fun b : Int32 => []) h hx hb hml hown hts hG hA hP hD hS hl.1 [] (List.range (moW k va mo).length) (fun q hq9 => c_X9_in l D k _   F (Int32.toInt64 x1) 0 7   hq9) gX9_way_X9_in rfl ⟨rfl, rfl, Nat.le_of_ble_eq_true rfl, Nat.le_of_ble_eq_true rfl⟩ (by decide +kernel) rfl (al_C _) (al_m _) ⟨rfl, rfl, Nat.le_of_ble_eq_true rfl, Nat.le_of_ble_eq_true rfl, Nat.le_of_ble_eq_true rfl⟩ dX9_way_13 (fun q16 H locs h hP hD hS => ?_)
    have hP : va_P D vwCl ((moW k va mo) ++ []) H := hP
    have hD : va_D A ((moW k va mo) ++ []) := hD
    rw [List.append_nil] at hP hD
    refine hc_is (z := q16) rfl ?_
    refine lv_if_ne (tgt := 22) hx hb dX9_way_16 (by decide) (fun c17 => ?_) (fun c17 => ?_)
    · have h := fw_f c17 h
      refine lv_aload_n hx hb dX9_way_22 rfl (lv_at hl 0 rfl) ?_
      refine lv_iconst (v := 1) hx hb dX9_way_23 (by decide) ?_
      refine fw_Vi (As := [.int 1]) (rest := []) (n := 1) (wr := []) (rv := fun b : Int32 => b) (wp := fun b : Int32 => moW k va mo) h hx hb hml hown hts hG hA hP hD hS hl.1 (List.range (moW k va mo).length) [] (fun q hq9 => c_X9_those l D k _  va F 1 mo  hq9) (ci := 7) (q0 := 0) rfl rfl gX9_way_X9_those rfl ⟨rfl, rfl, Nat.le_of_ble_eq_true rfl, Nat.le_of_ble_eq_true rfl⟩ (by decide +kernel) (al_C _) rfl (al_n _) ⟨rfl, rfl, Nat.le_of_ble_eq_true rfl, Nat.le_of_ble_eq_true rfl, Nat.le_of_ble_eq_true rfl⟩ dX9_way_24 (fun q18 H locs h hP hD hS => ?_)
      have hP : va_P D vwCl (moW k va mo) H := hP
      have hD : va_D A (moW k va mo) := hD
      refine hc_is (z := q18) rfl ?_
      refine lv_istore_n (lv' := [(2, .int q18), (0, .ref (va 0)), (1, .int x1)]) hx hb dX9_way_27 rfl hl (by decide) rfl (fun ls hl => ?_)
      refine lv_iconst (v := 0) hx hb dX9_way_28 (by decide) ?_
      refine lv_istore_n (lv' := [(3, .int 0), (2, .int q18), (0, .ref (va 0)), (1, .int x1)]) hx hb dX9_way_29 rfl hl (by decide) rfl (fun ls hl => ?_)
      exact C30 _ _ _ _ h _ _ _ hP hD hS (lv_sub hl [2, 3, 1, 0] rfl)
    · have h := fw_t c17 h
      exact B19 _ _ _ _ h hP hD hS (lv_sub hl [] rfl)
noncomputable def b_X9_most_60 (F : Nat)   (k30 : (Int32 × Int32 × Int32 × Int32 × Int32 × OB) → Option (Int32 × OB)) (v1 : Int32) (v2 : Int32) (v3 : Int32) (v5 : Int32) (y0 : Int32) (mo : OB) : Option (Int32 × OB) :=
  k30 (v1, v2, v3, y0, (v5 + 1), mo)
noncomputable def b_X9_most_30 (F : Nat)    (k30 : (Int32 × Int32 × Int32 × Int32 × Int32 × OB) → Option (Int32 × OB)) (a30 : (Int32 × Int32 × Int32 × Int32 × Int32 × OB)) : Option (Int32 × OB) :=
  if 99 < a30.2.2.2.2.1 then (if ib a30.1 4 then (some (a30.2.2.2.1, (a30.2.2.2.2.2.1, (uF a30.2.2.2.2.2.2.1 2 (upd (a30.2.2.2.2.2.2.1 2) (Int32.toNatClampNeg a30.1) a30.2.1)), a30.2.2.2.2.2.2.2))) else none) else (if ib a30.1 4 then (Option.bind (f_X9_dropsOf F a30.2.2.1 (a30.2.2.2.2.2.1, (uF a30.2.2.2.2.2.2.1 2 (upd (a30.2.2.2.2.2.2.1 2) (Int32.toNatClampNeg a30.1) a30.2.2.2.2.1)), a30.2.2.2.2.2.2.2)) (fun q4 => (if q4 = 0 then (b_X9_most_60 F k30 a30.1 a30.2.1 a30.2.2.1 a30.2.2.2.2.1 a30.2.2.2.2.1 (a30.2.2.2.2.2.1, (uF a30.2.2.2.2.2.2.1 2 (upd (a30.2.2.2.2.2.2.1 2) (Int32.toNatClampNeg a30.1) a30.2.2.2.2.1)), a30.2.2.2.2.2.2.2)) else (b_X9_most_60 F k30 a30.1 a30.2.1 a30.2.2.1 a30.2.2.2.2.1 a30.2.2.2.1 (a30.2.2.2.2.2.1, (uF a30.2.2.2.2.2.2.1 2 (upd (a30.2.2.2.2.2.2.1 2) (Int32.toNatClampNeg a30.1) a30.2.2.2.2.1)), a30.2.2.2.2.2.2.2))))) else none)
noncomputable def f_X9_most (F : Nat)  (x1 : Int32) (mo : OB) : Option (Int32 × OB) :=
  Option.bind (f_X9_isStrand F x1 mo) (fun q6 => (if q6 = 0 then (some ((-1), mo)) else (if ib x1 4 then (Option.bind (f_X9_those F 1 mo) (fun q9 => (lp (b_X9_most_30 F) F (x1, ((mo.2.1 2) (Int32.toNatClampNeg x1)), q9, (-2), 0, mo)))) else none)))
set_option maxHeartbeats 4000000 in
set_option maxRecDepth 100000 in
theorem c_X9_most (l : Launch) (D : va_G) (k : Nat → ClassId) (sz : Nat)  (va : Nat → Nat) (F : Nat)  (x1 : Int32) (mo : OB)  {res : Int32 × OB} (h : f_X9_most F x1 mo = some res) : CtI l yX9_most wsX9_most (rmK 5 0 0) [.ref (va 0), .int x1] D k sz (moW k va mo) (fun r (_ : Unit) => r = res.1) (fun _ : Unit => moW k va res.2) 0 0 := by
  refine CtI.mk (cc := cX9_most) (maxL := 6) (ret := (some .int)) (by decide) rfl (Nat.le_of_ble_eq_true rfl) ?_
  intro p e s m below meth c A ls E hP hD hS hl
  obtain ⟨hx, hb, hr, hml, hown, hts, hlocks, hin, hG, hA⟩ := E
  have hown : s.vm.findClass RX9 = some m.cls := hown
  have in9 : ∀ w ∈ u_ws RX9 TX9 53, w ∈ wsX9_most := fun _ h => List.mem_cons_of_mem _ (List.mem_append_right _ h)
  have hl : lv_has ls 6 [(0, .ref (va 0)), (1, .int x1)] := hl
  have B30 : ∀ a30 : (Int32 × Int32 × Int32 × Int32 × Int32 × OB), lp (b_X9_most_30 F) F a30 = some res → ∀ (H : Heap) (locs : List Loc) (ls : Array Slot), va_P D vwCl (moW k va a30.2.2.2.2.2) H → va_D A (moW k va a30.2.2.2.2.2) → va_S A s.heap H locs → lv_has ls 6 [(0, .ref (va 0)), (1, .int a30.1), (2, .int a30.2.1), (3, .int a30.2.2.1), (4, .int a30.2.2.2.1), (5, .int a30.2.2.2.2.1)] → W p l e (rmK 5 0 0) s m (List.toArray [.ref (va 0), .int x1]) below meth c H locs 0 0 (MQ below (va_Qi (fun r (_ : Unit) => r = res.1) (hcB D (fun _ : Unit => moW k va res.2) A) A) (List.toArray [.ref (va 0), .int x1]) s 0 0 A) (F0 m 30 ls []) := by
    refine lp_W ?_ F
    intro k30 hk30 a30 h H locs ls hP hD hS hl
    have hc30 : ∀ (v1 : Int32) (v2 : Int32) (v3 : Int32) (v4 : Int32) (v5 : Int32) (mo : OB), k30 (v1, v2, v3, v4, v5, mo) = some res → ∀ (H : Heap) (locs : List Loc) (ls : Array Slot), va_P D vwCl (moW k va mo) H → va_D A (moW k va mo) → va_S A s.heap H locs → lv_has ls 6 [(0, .ref (va 0)), (1, .int v1), (2, .int v2), (3, .int v3), (4, .int v4), (5, .int v5)] → W p l e (rmK 5 0 0) s m (List.toArray [.ref (va 0), .int x1]) below meth c H locs 0 0 (MQ below (va_Qi (fun r (_ : Unit) => r = res.1) (hcB D (fun _ : Unit => moW k va res.2) A) A) (List.toArray [.ref (va 0), .int x1]) s 0 0 A) (F0 m 30 ls []) := fun v1 v2 v3 v4 v5 mo => hk30 (v1, v2, v3, v4, v5, mo)
    have B60 : ∀ (v1 : Int32) (v2 : Int32) (v3 : Int32) (v5 : Int32) (y0 : Int32) (mo : OB) (H : Heap) (locs : List Loc) (ls : Array Slot), b_X9_most_60 F k30 v1 v2 v3 v5 y0 mo = some res → va_P D vwCl (moW k va mo) H → va_D A (moW k va mo) → va_S A s.heap H locs → lv_has ls 6 [(0, .ref (va 0)), (1, .int v1), (2, .int v2), (3, .int v3), (5, .int v5)] → W p l e (rmK 5 0 0) s m (List.toArray [.ref (va 0), .int x1]) below meth c H locs 0 0 (MQ below (va_Qi (fun r (_ : Unit) => r = res.1) (hcB D (fun _ : Unit => moW k va res.2) A) A) (List.toArray [.ref (va 0), .int x1]) s 0 0 A) (F0 m 60 ls [.int y0]) := by
      intro v1 v2 v3 v5 y0 mo H locs ls h hP hD hS hl
      refine lv_istore (lv' := [(4, .int y0), (0, .ref (va 0)), (1, .int v1), (2, .int v2), (3, .int v3), (5, .int v5)]) hx hb dX9_most_60 hl (by decide) rfl (fun ls hl => ?_)
      refine lv_iinc (v := (v5 + 1)) (lv' := [(5, .int (v5 + 1)), (4, .int y0), (0, .ref (va 0)), (1, .int v1), (2, .int v2), (3, .int v3)]) hx hb dX9_most_62 hl (k := 5) rfl rfl (by decide) rfl (fun ls hl => ?_)
      refine lv_goto (tgt := 30) hx hb dX9_most_65 (by decide) ?_
      exact hc30 _ _ _ _ _ _ h _ _ _ hP hD hS (lv_sub hl [2, 3, 4, 5, 1, 0] rfl)
    refine lv_iload hx hb dX9_most_30 (lv_at hl 5 rfl) ?_
    refine lv_bipush (v := 99) hx hb dX9_most_32 (by decide) ?_
    refine lv_icmp_gt (tgt := 68) hx hb dX9_most_34 (by decide) (fun c1 => ?_) (fun c1 => ?_)
    · have h := fw_t c1 h
      refine lv_aload_n hx hb dX9_most_68 rfl (lv_at hl 0 rfl) ?_
      refine va_get (D := D) (ci := 7) (v := .ref (va 2)) (C := RX9) (T := TX9) (N := 53) hx hb hts in9 hown hG.1 hP 0 rfl rfl 2 (by decide) (hts (.fieldLink RX9 13 "ChairCaneModel" "cane" "[I") (mem_b bq_wsX9_most 0 0 rfl)) (fun _ h9 => h9) rfl dX9_most_69 ?_
      refine lv_iload_n hx hb dX9_most_72 rfl (lv_at hl 1 rfl) ?_
      refine lv_iload_n hx hb dX9_most_73 rfl (lv_at hl 2 rfl) ?_
      obtain ⟨g2, h⟩ := fw_g h
      refine va_iast hx hb hG.1 hP hD hS 2 0 rfl rfl (ib_vp g2) dX9_most_74 (fun H locs hP hD hS => ?_)
      refine lv_iload hx hb dX9_most_75 (lv_at hl 4 rfl) ?_
      exact fw_endI (rv := fun b : Int32 × OB => b.1) (wp := fun b : Int32 × OB => moW k va b.2) hx hb hr hlocks h rfl hP hD hS dX9_most_77
    · have h := fw_f c1 h
      refine lv_aload_n hx hb dX9_most_37 rfl (lv_at hl 0 rfl) ?_
      refine va_get (D := D) (ci := 7) (v := .ref (va 2)) (C := RX9) (T := TX9) (N := 53) hx hb hts in9 hown hG.1 hP 0 rfl rfl 2 (by decide) (hts (.fieldLink RX9 13 "ChairCaneModel" "cane" "[I") (mem_b bq_wsX9_most 0 0 rfl)) (fun _ h9 => h9) rfl dX9_most_38 ?_
      refine lv_iload_n hx hb dX9_most_41 rfl (lv_at hl 1 rfl) ?_
      refine lv_iload hx hb dX9_most_42 (lv_at hl 5 rfl) ?_
      obtain ⟨g3, h⟩ := fw_g h
      refine va_iast hx hb hG.1 hP hD hS 2 0 rfl rfl (ib_vp g3) dX9_most_44 (fun H locs hP hD hS => ?_)
      refine lv_aload_n hx hb dX9_most_45 rfl (lv_at hl 0 rfl) ?_
      refine lv_iload_n hx hb dX9_most_46 rfl (lv_at hl 3 rfl) ?_
      have hP : va_P D vwCl (moW k va (a30.2.2.2.2.2.1, (uF a30.2.2.2.2.2.2.1 2 (upd (a30.2.2.2.2.2.2.1 2) (Int32.toNatClampNeg a30.1) a30.2.2.2.2.1)), a30.2.2.2.2.2.2.2)) H := hP
      have hD : va_D A (moW k va (a30.2.2.2.2.2.1, (uF a30.2.2.2.2.2.2.1 2 (upd (a30.2.2.2.2.2.2.1 2) (Int32.toNatClampNeg a30.1) a30.2.2.2.2.1)), a30.2.2.2.2.2.2.2)) := hD
      refine fw_Vi (As := [.int a30.2.2.1]) (rest := []) (n := 1) (wr := []) (rv := fun b : Int32 => b) (wp := fun b : Int32 => moW k va (a30.2.2.2.2.2.1, (uF a30.2.2.2.2.2.2.1 2 (upd (a30.2.2.2.2.2.2.1 2) (Int32.toNatClampNeg a30.1) a30.2.2.2.2.1)), a30.2.2.2.2.2.2.2)) h hx hb hml hown hts hG hA hP hD hS hl.1 (List.range (moW k va (a30.2.2.2.2.2.1, (uF a30.2.2.2.2.2.2.1 2 (upd (a30.2.2.2.2.2.2.1 2) (Int32.toNatClampNeg a30.1) a30.2.2.2.2.1)), a30.2.2.2.2.2.2.2)).length) [] (fun q hq9 => c_X9_dropsOf l D k _  va F a30.2.2.1 (a30.2.2.2.2.2.1, (uF a30.2.2.2.2.2.2.1 2 (upd (a30.2.2.2.2.2.2.1 2) (Int32.toNatClampNeg a30.1) a30.2.2.2.2.1)), a30.2.2.2.2.2.2.2)  hq9) (ci := 7) (q0 := 0) rfl rfl gX9_most_X9_dropsOf rfl ⟨rfl, rfl, Nat.le_of_ble_eq_true rfl, Nat.le_of_ble_eq_true rfl⟩ (by decide +kernel) (al_C _) rfl (al_n _) ⟨rfl, rfl, Nat.le_of_ble_eq_true rfl, Nat.le_of_ble_eq_true rfl, Nat.le_of_ble_eq_true rfl⟩ dX9_most_47 (fun q4 H locs h hP hD hS => ?_)
      have hP : va_P D vwCl (moW k va (a30.2.2.2.2.2.1, (uF a30.2.2.2.2.2.2.1 2 (upd (a30.2.2.2.2.2.2.1 2) (Int32.toNatClampNeg a30.1) a30.2.2.2.2.1)), a30.2.2.2.2.2.2.2)) H := hP
      have hD : va_D A (moW k va (a30.2.2.2.2.2.1, (uF a30.2.2.2.2.2.2.1 2 (upd (a30.2.2.2.2.2.2.1 2) (Int32.toNatClampNeg a30.1) a30.2.2.2.2.1)), a30.2.2.2.2.2.2.2)) := hD
      refine hc_is (z := q4) rfl ?_
      refine lv_if_ne (tgt := 58) hx hb dX9_most_50 (by decide) (fun c5 => ?_) (fun c5 => ?_)
      · have h := fw_f c5 h
        refine lv_iload hx hb dX9_most_58 (lv_at hl 4 rfl) ?_
        exact B60 _ _ _ _ _ _ _ _ _ h hP hD hS (lv_sub hl [0, 1, 2, 3, 5] rfl)
      · have h := fw_t c5 h
        refine lv_iload hx hb dX9_most_53 (lv_at hl 5 rfl) ?_
        refine lv_goto (tgt := 60) hx hb dX9_most_55 (by decide) ?_
        exact B60 _ _ _ _ _ _ _ _ _ h hP hD hS (lv_sub hl [0, 1, 2, 3, 5] rfl)
  have C30 : ∀ (v1 : Int32) (v2 : Int32) (v3 : Int32) (v4 : Int32) (v5 : Int32) (mo : OB), lp (b_X9_most_30 F) F (v1, v2, v3, v4, v5, mo) = some res → ∀ (H : Heap) (locs : List Loc) (ls : Array Slot), va_P D vwCl (moW k va mo) H → va_D A (moW k va mo) → va_S A s.heap H locs → lv_has ls 6 [(0, .ref (va 0)), (1, .int v1), (2, .int v2), (3, .int v3), (4, .int v4), (5, .int v5)] → W p l e (rmK 5 0 0) s m (List.toArray [.ref (va 0), .int x1]) below meth c H locs 0 0 (MQ below (va_Qi (fun r (_ : Unit) => r = res.1) (hcB D (fun _ : Unit => moW k va res.2) A) A) (List.toArray [.ref (va 0), .int x1]) s 0 0 A) (F0 m 30 ls []) := fun v1 v2 v3 v4 v5 mo => B30 (v1, v2, v3, v4, v5, mo)
  refine lv_aload_n hx hb dX9_most_0 rfl (lv_at hl 0 rfl) ?_
  refine lv_iload_n hx hb dX9_most_1 rfl (lv_at hl 1 rfl) ?_
  refine fw_Vi (As := [.int x1]) (rest := []) (n := 1) (wr := []) (rv := fun b : Int32 => b) (wp := fun b : Int32 => moW k va mo) h hx hb hml hown hts hG hA hP hD hS hl.1 (List.range (moW k va mo).length) [] (fun q hq9 => c_X9_isStrand l D k _  va F x1 mo  hq9) (ci := 7) (q0 := 0) rfl rfl gX9_most_X9_isStrand rfl ⟨rfl, rfl, Nat.le_of_ble_eq_true rfl, Nat.le_of_ble_eq_true rfl⟩ (by decide +kernel) (al_C _) rfl (al_n _) ⟨rfl, rfl, Nat.le_of_ble_eq_true rfl, Nat.le_of_ble_eq_true rfl, Nat.le_of_ble_eq_true rfl⟩ dX9_most_2 (fun q6 H locs h hP hD hS => ?_)
  have hP : va_P D vwCl (moW k va mo) H := hP
  have hD : va_D A (moW k va mo) := hD
  refine hc_is (z := q6) rfl ?_
  refine lv_if_ne (tgt := 10) hx hb dX9_most_5 (by decide) (fun c7 => ?_) (fun c7 => ?_)
  · have h := fw_f c7 h
    refine lv_aload_n hx hb dX9_most_10 rfl (lv_at hl 0 rfl) ?_
    refine va_get (D := D) (ci := 7) (v := .ref (va 2)) (C := RX9) (T := TX9) (N := 53) hx hb hts in9 hown hG.1 hP 0 rfl rfl 2 (by decide) (hts (.fieldLink RX9 13 "ChairCaneModel" "cane" "[I") (mem_b bq_wsX9_most 0 0 rfl)) (fun _ h9 => h9) rfl dX9_most_11 ?_
    refine lv_iload_n hx hb dX9_most_14 rfl (lv_at hl 1 rfl) ?_
    obtain ⟨g8, h⟩ := fw_g h
    refine va_iald hx hb hG.1 hP 2 0 rfl rfl (ib_vp g8) dX9_most_15 ?_
    refine lv_istore_n (lv' := [(2, .int ((mo.2.1 2) (Int32.toNatClampNeg x1))), (0, .ref (va 0)), (1, .int x1)]) hx hb dX9_most_16 rfl hl (by decide) rfl (fun ls hl => ?_)
    refine lv_aload_n hx hb dX9_most_17 rfl (lv_at hl 1 rfl) ?_
    refine lv_iconst (v := 1) hx hb dX9_most_18 (by decide) ?_
    refine fw_Vi (As := [.int 1]) (rest := []) (n := 1) (wr := []) (rv := fun b : Int32 => b) (wp := fun b : Int32 => moW k va mo) h hx hb hml hown hts hG hA hP hD hS hl.1 (List.range (moW k va mo).length) [] (fun q hq9 => c_X9_those l D k _  va F 1 mo  hq9) (ci := 7) (q0 := 0) rfl rfl gX9_most_X9_those rfl ⟨rfl, rfl, Nat.le_of_ble_eq_true rfl, Nat.le_of_ble_eq_true rfl⟩ (by decide +kernel) (al_C _) rfl (al_n _) ⟨rfl, rfl, Nat.le_of_ble_eq_true rfl, Nat.le_of_ble_eq_true rfl, Nat.le_of_ble_eq_true rfl⟩ dX9_most_19 (fun q9 H locs h hP hD hS => ?_)
    have hP : va_P D vwCl (moW k va mo) H := hP
    have hD : va_D A (moW k va mo) := hD
    refine hc_is (z := q9) rfl ?_
    refine lv_istore_n (lv' := [(3, .int q9), (2, .int ((mo.2.1 2) (Int32.toNatClampNeg x1))), (0, .ref (va 0)), (1, .int x1)]) hx hb dX9_most_22 rfl hl (by decide) rfl (fun ls hl => ?_)
    refine lv_bipush (v := (-2)) hx hb dX9_most_23 (by decide) ?_
    refine lv_istore (lv' := [(4, .int (-2)), (3, .int q9), (2, .int ((mo.2.1 2) (Int32.toNatClampNeg x1))), (0, .ref (va 0)), (1, .int x1)]) hx hb dX9_most_25 hl (by decide) rfl (fun ls hl => ?_)
    refine lv_iconst (v := 0) hx hb dX9_most_27 (by decide) ?_
    refine lv_istore (lv' := [(5, .int 0), (4, .int (-2)), (3, .int q9), (2, .int ((mo.2.1 2) (Int32.toNatClampNeg x1))), (0, .ref (va 0)), (1, .int x1)]) hx hb dX9_most_28 hl (by decide) rfl (fun ls hl => ?_)
    exact C30 _ _ _ _ _ _ h _ _ _ hP hD hS (lv_sub hl [4, 5, 3, 2, 1, 0] rfl)
  · have h := fw_t c7 h
    refine lv_iconst (v := (-1)) hx hb dX9_most_8 (by decide) ?_
    exact fw_endI (rv := fun b : Int32 × OB => b.1) (wp := fun b : Int32 × OB => moW k va b.2) hx hb hr hlocks h rfl hP hD hS dX9_most_9
noncomputable def b_X9_heavy_28 (F : Nat)    (mo : OB) : Option (Int32 × OB) :=
  some ((-1), mo)
noncomputable def b_X9_heavy_123 (F : Nat)    (y0 : Int32) (mo : OB) : Option (Int32 × OB) :=
  some (y0, mo)
noncomputable def b_X9_heavy_99 (F : Nat)   (k58 : (Int32 × Int32 × Int32 × Int32 × Int32 × Int32 × Int32 × OB) → Option (Int32 × OB)) (v1 : Int32) (v2 : Int32) (v3 : Int32) (v4 : Int32) (v5 : Int32) (v6 : Int32) (v7 : Int32) (mo : OB) : Option (Int32 × OB) :=
  k58 (v1, v2, v3, v4, v5, v6, (v7 + 1), mo)
noncomputable def b_X9_heavy_94 (F : Nat)   (k58 : (Int32 × Int32 × Int32 × Int32 × Int32 × Int32 × Int32 × OB) → Option (Int32 × OB)) (v1 : Int32) (v2 : Int32) (v3 : Int32) (v4 : Int32) (v5 : Int32) (v7 : Int32) (y0 : Int32) (mo : OB) : Option (Int32 × OB) :=
  b_X9_heavy_99 F k58 v1 v2 v3 v4 (v5 + 1) y0 v7 mo
noncomputable def b_X9_heavy_58 (F : Nat)    (k58 : (Int32 × Int32 × Int32 × Int32 × Int32 × Int32 × Int32 × OB) → Option (Int32 × OB)) (a58 : (Int32 × Int32 × Int32 × Int32 × Int32 × Int32 × Int32 × OB)) : Option (Int32 × OB) :=
  if 20 < a58.2.2.2.2.2.2.1 then (if ib a58.1 8 then (if a58.2.1 = 0 then (b_X9_heavy_123 F a58.2.2.2.2.1 (a58.2.2.2.2.2.2.2.1, (uF a58.2.2.2.2.2.2.2.2.1 5 (upd (a58.2.2.2.2.2.2.2.2.1 5) (Int32.toNatClampNeg a58.1) a58.2.2.1)), a58.2.2.2.2.2.2.2.2.2)) else (b_X9_heavy_123 F a58.2.2.2.2.2.1 (a58.2.2.2.2.2.2.2.1, (uF a58.2.2.2.2.2.2.2.2.1 5 (upd (a58.2.2.2.2.2.2.2.2.1 5) (Int32.toNatClampNeg a58.1) a58.2.2.1)), a58.2.2.2.2.2.2.2.2.2))) else none) else (if ib a58.1 8 then (Option.bind (f_X9_dropsOf F a58.2.2.2.1 (a58.2.2.2.2.2.2.2.1, (uF a58.2.2.2.2.2.2.2.2.1 5 (upd (a58.2.2.2.2.2.2.2.2.1 5) (Int32.toNatClampNeg a58.1) a58.2.2.2.2.2.2.1)), a58.2.2.2.2.2.2.2.2.2)) (fun q5 => (if q5 = 0 then (if a58.2.2.2.2.1 = 0 then (b_X9_heavy_94 F k58 a58.1 a58.2.1 a58.2.2.1 a58.2.2.2.1 a58.2.2.2.2.1 a58.2.2.2.2.2.2.1 a58.2.2.2.2.2.2.1 (a58.2.2.2.2.2.2.2.1, (uF a58.2.2.2.2.2.2.2.2.1 5 (upd (a58.2.2.2.2.2.2.2.2.1 5) (Int32.toNatClampNeg a58.1) a58.2.2.2.2.2.2.1)), a58.2.2.2.2.2.2.2.2.2)) else (b_X9_heavy_94 F k58 a58.1 a58.2.1 a58.2.2.1 a58.2.2.2.1 a58.2.2.2.2.1 a58.2.2.2.2.2.2.1 a58.2.2.2.2.2.1 (a58.2.2.2.2.2.2.2.1, (uF a58.2.2.2.2.2.2.2.2.1 5 (upd (a58.2.2.2.2.2.2.2.2.1 5) (Int32.toNatClampNeg a58.1) a58.2.2.2.2.2.2.1)), a58.2.2.2.2.2.2.2.2.2))) else (b_X9_heavy_99 F k58 a58.1 a58.2.1 a58.2.2.1 a58.2.2.2.1 a58.2.2.2.2.1 a58.2.2.2.2.2.1 a58.2.2.2.2.2.2.1 (a58.2.2.2.2.2.2.2.1, (uF a58.2.2.2.2.2.2.2.2.1 5 (upd (a58.2.2.2.2.2.2.2.2.1 5) (Int32.toNatClampNeg a58.1) a58.2.2.2.2.2.2.1)), a58.2.2.2.2.2.2.2.2.2))))) else none)
noncomputable def f_X9_heavy (F : Nat)  (x1 : Int32) (x2 : Int32) (mo : OB) : Option (Int32 × OB) :=
  Option.bind (f_X9_isSitter F x1 mo) (fun q8 => (if q8 = 0 then (b_X9_heavy_28 F mo) else (if ib x1 8 then (if ((mo.2.1 3) (Int32.toNatClampNeg x1)) = 2 then (b_X9_heavy_28 F mo) else (Option.bind (f_X9_in F (Int32.toInt64 x2) 0 1) (fun q12 => (if q12 = 0 then (b_X9_heavy_28 F mo) else (Option.bind (f_X9_those F 1 mo) (fun q14 => (lp (b_X9_heavy_58 F) F (x1, x2, ((mo.2.1 5) (Int32.toNatClampNeg x1)), (q14 ||| (1 <<< (x1 &&& 31))), 0, (-2), 1, mo)))))))) else none)))
set_option maxHeartbeats 4000000 in
set_option maxRecDepth 100000 in
theorem c_X9_heavy (l : Launch) (D : va_G) (k : Nat → ClassId) (sz : Nat)  (va : Nat → Nat) (F : Nat)  (x1 : Int32) (x2 : Int32) (mo : OB)  {res : Int32 × OB} (h : f_X9_heavy F x1 x2 mo = some res) : CtI l yX9_heavy wsX9_heavy (rmK 5 0 0) [.ref (va 0), .int x1, .int x2] D k sz (moW k va mo) (fun r (_ : Unit) => r = res.1) (fun _ : Unit => moW k va res.2) 0 0 := by
  refine CtI.mk (cc := cX9_heavy) (maxL := 8) (ret := (some .int)) (by decide) rfl (Nat.le_of_ble_eq_true rfl) ?_
  intro p e s m below meth c A ls E hP hD hS hl
  obtain ⟨hx, hb, hr, hml, hown, hts, hlocks, hin, hG, hA⟩ := E
  have hown : s.vm.findClass RX9 = some m.cls := hown
  have in9 : ∀ w ∈ u_ws RX9 TX9 53, w ∈ wsX9_heavy := fun _ h => List.mem_cons_of_mem _ (List.mem_append_right _ h)
  have hl : lv_has ls 8 [(0, .ref (va 0)), (1, .int x1), (2, .int x2)] := hl
  have B28 : ∀ (mo : OB) (H : Heap) (locs : List Loc) (ls : Array Slot), b_X9_heavy_28 F mo = some res → va_P D vwCl (moW k va mo) H → va_D A (moW k va mo) → va_S A s.heap H locs → lv_has ls 8 [] → W p l e (rmK 5 0 0) s m (List.toArray [.ref (va 0), .int x1, .int x2]) below meth c H locs 0 0 (MQ below (va_Qi (fun r (_ : Unit) => r = res.1) (hcB D (fun _ : Unit => moW k va res.2) A) A) (List.toArray [.ref (va 0), .int x1, .int x2]) s 0 0 A) (F0 m 28 ls []) := by
    intro mo H locs ls h hP hD hS hl
    refine lv_iconst (v := (-1)) hx hb dX9_heavy_28 (by decide) ?_
    exact fw_endI (rv := fun b : Int32 × OB => b.1) (wp := fun b : Int32 × OB => moW k va b.2) hx hb hr hlocks h rfl hP hD hS dX9_heavy_29
  have B123 : ∀ (y0 : Int32) (mo : OB) (H : Heap) (locs : List Loc) (ls : Array Slot), b_X9_heavy_123 F y0 mo = some res → va_P D vwCl (moW k va mo) H → va_D A (moW k va mo) → va_S A s.heap H locs → lv_has ls 8 [] → W p l e (rmK 5 0 0) s m (List.toArray [.ref (va 0), .int x1, .int x2]) below meth c H locs 0 0 (MQ below (va_Qi (fun r (_ : Unit) => r = res.1) (hcB D (fun _ : Unit => moW k va res.2) A) A) (List.toArray [.ref (va 0), .int x1, .int x2]) s 0 0 A) (F0 m 123 ls [.int y0]) := by
    intro y0 mo H locs ls h hP hD hS hl
    exact fw_endI (rv := fun b : Int32 × OB => b.1) (wp := fun b : Int32 × OB => moW k va b.2) hx hb hr hlocks h rfl hP hD hS dX9_heavy_123
  have B58 : ∀ a58 : (Int32 × Int32 × Int32 × Int32 × Int32 × Int32 × Int32 × OB), lp (b_X9_heavy_58 F) F a58 = some res → ∀ (H : Heap) (locs : List Loc) (ls : Array Slot), va_P D vwCl (moW k va a58.2.2.2.2.2.2.2) H → va_D A (moW k va a58.2.2.2.2.2.2.2) → va_S A s.heap H locs → lv_has ls 8 [(0, .ref (va 0)), (1, .int a58.1), (2, .int a58.2.1), (3, .int a58.2.2.1), (4, .int a58.2.2.2.1), (5, .int a58.2.2.2.2.1), (6, .int a58.2.2.2.2.2.1), (7, .int a58.2.2.2.2.2.2.1)] → W p l e (rmK 5 0 0) s m (List.toArray [.ref (va 0), .int x1, .int x2]) below meth c H locs 0 0 (MQ below (va_Qi (fun r (_ : Unit) => r = res.1) (hcB D (fun _ : Unit => moW k va res.2) A) A) (List.toArray [.ref (va 0), .int x1, .int x2]) s 0 0 A) (F0 m 58 ls []) := by
    refine lp_W ?_ F
    intro k58 hk58 a58 h H locs ls hP hD hS hl
    have hc58 : ∀ (v1 : Int32) (v2 : Int32) (v3 : Int32) (v4 : Int32) (v5 : Int32) (v6 : Int32) (v7 : Int32) (mo : OB), k58 (v1, v2, v3, v4, v5, v6, v7, mo) = some res → ∀ (H : Heap) (locs : List Loc) (ls : Array Slot), va_P D vwCl (moW k va mo) H → va_D A (moW k va mo) → va_S A s.heap H locs → lv_has ls 8 [(0, .ref (va 0)), (1, .int v1), (2, .int v2), (3, .int v3), (4, .int v4), (5, .int v5), (6, .int v6), (7, .int v7)] → W p l e (rmK 5 0 0) s m (List.toArray [.ref (va 0), .int x1, .int x2]) below meth c H locs 0 0 (MQ below (va_Qi (fun r (_ : Unit) => r = res.1) (hcB D (fun _ : Unit => moW k va res.2) A) A) (List.toArray [.ref (va 0), .int x1, .int x2]) s 0 0 A) (F0 m 58 ls []) := fun v1 v2 v3 v4 v5 v6 v7 mo => hk58 (v1, v2, v3, v4, v5, v6, v7, mo)
    have B99 : ∀ (v1 : Int32) (v2 : Int32) (v3 : Int32) (v4 : Int32) (v5 : Int32) (v6 : Int32) (v7 : Int32) (mo : OB) (H : Heap) (locs : List Loc) (ls : Array Slot), b_X9_heavy_99 F k58 v1 v2 v3 v4 v5 v6 v7 mo = some res → va_P D vwCl (moW k va mo) H → va_D A (moW k va mo) → va_S A s.heap H locs → lv_has ls 8 [(0, .ref (va 0)), (1, .int v1), (2, .int v2), (3, .int v3), (4, .int v4), (5, .int v5), (6, .int v6), (7, .int v7)] → W p l e (rmK 5 0 0) s m (List.toArray [.ref (va 0), .int x1, .int x2]) below meth c H locs 0 0 (MQ below (va_Qi (fun r (_ : Unit) => r = res.1) (hcB D (fun _ : Unit => moW k va res.2) A) A) (List.toArray [.ref (va 0), .int x1, .int x2]) s 0 0 A) (F0 m 99 ls []) := by
      intro v1 v2 v3 v4 v5 v6 v7 mo H locs ls h hP hD hS hl
      refine lv_iinc (v := (v7 + 1)) (lv' := [(7, .int (v7 + 1)), (0, .ref (va 0)), (1, .int v1), (2, .int v2), (3, .int v3), (4, .int v4), (5, .int v5), (6, .int v6)]) hx hb dX9_heavy_99 hl (k := 7) rfl rfl (by decide) rfl (fun ls hl => ?_)
      refine lv_goto (tgt := 58) hx hb dX9_heavy_102 (by decide) ?_
      exact hc58 _ _ _ _ _ _ _ _ h _ _ _ hP hD hS (lv_sub hl [1, 2, 3, 4, 5, 6, 7, 0] rfl)
    have B94 : ∀ (v1 : Int32) (v2 : Int32) (v3 : Int32) (v4 : Int32) (v5 : Int32) (v7 : Int32) (y0 : Int32) (mo : OB) (H : Heap) (locs : List Loc) (ls : Array Slot), b_X9_heavy_94 F k58 v1 v2 v3 v4 v5 v7 y0 mo = some res → va_P D vwCl (moW k va mo) H → va_D A (moW k va mo) → va_S A s.heap H locs → lv_has ls 8 [(0, .ref (va 0)), (1, .int v1), (2, .int v2), (3, .int v3), (4, .int v4), (5, .int v5), (7, .int v7)] → W p l e (rmK 5 0 0) s m (List.toArray [.ref (va 0), .int x1, .int x2]) below meth c H locs 0 0 (MQ below (va_Qi (fun r (_ : Unit) => r = res.1) (hcB D (fun _ : Unit => moW k va res.2) A) A) (List.toArray [.ref (va 0), .int x1, .int x2]) s 0 0 A) (F0 m 94 ls [.int y0]) := by
      intro v1 v2 v3 v4 v5 v7 y0 mo H locs ls h hP hD hS hl
      refine lv_istore (lv' := [(6, .int y0), (0, .ref (va 0)), (1, .int v1), (2, .int v2), (3, .int v3), (4, .int v4), (5, .int v5), (7, .int v7)]) hx hb dX9_heavy_94 hl (by decide) rfl (fun ls hl => ?_)
      refine lv_iinc (v := (v5 + 1)) (lv' := [(5, .int (v5 + 1)), (6, .int y0), (0, .ref (va 0)), (1, .int v1), (2, .int v2), (3, .int v3), (4, .int v4), (7, .int v7)]) hx hb dX9_heavy_96 hl (k := 6) rfl rfl (by decide) rfl (fun ls hl => ?_)
      exact B99 _ _ _ _ _ _ _ _ _ _ _ h hP hD hS (lv_sub hl [2, 3, 4, 5, 6, 0, 1, 7] rfl)
    refine lv_iload hx hb dX9_heavy_58 (lv_at hl 7 rfl) ?_
    refine lv_bipush (v := 20) hx hb dX9_heavy_60 (by decide) ?_
    refine lv_icmp_gt (tgt := 105) hx hb dX9_heavy_62 (by decide) (fun c1 => ?_) (fun c1 => ?_)
    · have h := fw_t c1 h
      refine lv_aload_n hx hb dX9_heavy_105 rfl (lv_at hl 0 rfl) ?_
      refine va_get (D := D) (ci := 7) (v := .ref (va 5)) (C := RX9) (T := TX9) (N := 53) hx hb hts in9 hown hG.1 hP 0 rfl rfl 5 (by decide) (hts (.fieldLink RX9 22 "ChairCaneModel" "weight" "[I") (mem_b bq_wsX9_heavy 0 1 rfl)) (fun _ h9 => h9) rfl dX9_heavy_106 ?_
      refine lv_iload_n hx hb dX9_heavy_109 rfl (lv_at hl 1 rfl) ?_
      refine lv_iload_n hx hb dX9_heavy_110 rfl (lv_at hl 3 rfl) ?_
      obtain ⟨g2, h⟩ := fw_g h
      refine va_iast hx hb hG.1 hP hD hS 5 0 rfl rfl (ib_vp g2) dX9_heavy_111 (fun H locs hP hD hS => ?_)
      refine lv_iload_n hx hb dX9_heavy_112 rfl (lv_at hl 2 rfl) ?_
      refine lv_if_ne (tgt := 121) hx hb dX9_heavy_113 (by decide) (fun c3 => ?_) (fun c3 => ?_)
      · have h := fw_f c3 h
        refine lv_iload hx hb dX9_heavy_121 (lv_at hl 6 rfl) ?_
        exact B123 _ _ _ _ _ h hP hD hS (lv_sub hl [] rfl)
      · have h := fw_t c3 h
        refine lv_iload hx hb dX9_heavy_116 (lv_at hl 5 rfl) ?_
        refine lv_goto (tgt := 123) hx hb dX9_heavy_118 (by decide) ?_
        exact B123 _ _ _ _ _ h hP hD hS (lv_sub hl [] rfl)
    · have h := fw_f c1 h
      refine lv_aload_n hx hb dX9_heavy_65 rfl (lv_at hl 0 rfl) ?_
      refine va_get (D := D) (ci := 7) (v := .ref (va 5)) (C := RX9) (T := TX9) (N := 53) hx hb hts in9 hown hG.1 hP 0 rfl rfl 5 (by decide) (hts (.fieldLink RX9 22 "ChairCaneModel" "weight" "[I") (mem_b bq_wsX9_heavy 0 1 rfl)) (fun _ h9 => h9) rfl dX9_heavy_66 ?_
      refine lv_iload_n hx hb dX9_heavy_69 rfl (lv_at hl 1 rfl) ?_
      refine lv_iload hx hb dX9_heavy_70 (lv_at hl 7 rfl) ?_
      obtain ⟨g4, h⟩ := fw_g h
      refine va_iast hx hb hG.1 hP hD hS 5 0 rfl rfl (ib_vp g4) dX9_heavy_72 (fun H locs hP hD hS => ?_)
      refine lv_aload_n hx hb dX9_heavy_73 rfl (lv_at hl 0 rfl) ?_
      refine lv_iload hx hb dX9_heavy_74 (lv_at hl 4 rfl) ?_
      have hP : va_P D vwCl (moW k va (a58.2.2.2.2.2.2.2.1, (uF a58.2.2.2.2.2.2.2.2.1 5 (upd (a58.2.2.2.2.2.2.2.2.1 5) (Int32.toNatClampNeg a58.1) a58.2.2.2.2.2.2.1)), a58.2.2.2.2.2.2.2.2.2)) H := hP
      have hD : va_D A (moW k va (a58.2.2.2.2.2.2.2.1, (uF a58.2.2.2.2.2.2.2.2.1 5 (upd (a58.2.2.2.2.2.2.2.2.1 5) (Int32.toNatClampNeg a58.1) a58.2.2.2.2.2.2.1)), a58.2.2.2.2.2.2.2.2.2)) := hD
      refine fw_Vi (As := [.int a58.2.2.2.1]) (rest := []) (n := 1) (wr := []) (rv := fun b : Int32 => b) (wp := fun b : Int32 => moW k va (a58.2.2.2.2.2.2.2.1, (uF a58.2.2.2.2.2.2.2.2.1 5 (upd (a58.2.2.2.2.2.2.2.2.1 5) (Int32.toNatClampNeg a58.1) a58.2.2.2.2.2.2.1)), a58.2.2.2.2.2.2.2.2.2)) h hx hb hml hown hts hG hA hP hD hS hl.1 (List.range (moW k va (a58.2.2.2.2.2.2.2.1, (uF a58.2.2.2.2.2.2.2.2.1 5 (upd (a58.2.2.2.2.2.2.2.2.1 5) (Int32.toNatClampNeg a58.1) a58.2.2.2.2.2.2.1)), a58.2.2.2.2.2.2.2.2.2)).length) [] (fun q hq9 => c_X9_dropsOf l D k _  va F a58.2.2.2.1 (a58.2.2.2.2.2.2.2.1, (uF a58.2.2.2.2.2.2.2.2.1 5 (upd (a58.2.2.2.2.2.2.2.2.1 5) (Int32.toNatClampNeg a58.1) a58.2.2.2.2.2.2.1)), a58.2.2.2.2.2.2.2.2.2)  hq9) (ci := 7) (q0 := 0) rfl rfl gX9_heavy_X9_dropsOf rfl ⟨rfl, rfl, Nat.le_of_ble_eq_true rfl, Nat.le_of_ble_eq_true rfl⟩ (by decide +kernel) (al_C _) rfl (al_n _) ⟨rfl, rfl, Nat.le_of_ble_eq_true rfl, Nat.le_of_ble_eq_true rfl, Nat.le_of_ble_eq_true rfl⟩ dX9_heavy_76 (fun q5 H locs h hP hD hS => ?_)
      have hP : va_P D vwCl (moW k va (a58.2.2.2.2.2.2.2.1, (uF a58.2.2.2.2.2.2.2.2.1 5 (upd (a58.2.2.2.2.2.2.2.2.1 5) (Int32.toNatClampNeg a58.1) a58.2.2.2.2.2.2.1)), a58.2.2.2.2.2.2.2.2.2)) H := hP
      have hD : va_D A (moW k va (a58.2.2.2.2.2.2.2.1, (uF a58.2.2.2.2.2.2.2.2.1 5 (upd (a58.2.2.2.2.2.2.2.2.1 5) (Int32.toNatClampNeg a58.1) a58.2.2.2.2.2.2.1)), a58.2.2.2.2.2.2.2.2.2)) := hD
      refine hc_is (z := q5) rfl ?_
      refine lv_if_ne (tgt := 99) hx hb dX9_heavy_79 (by decide) (fun c6 => ?_) (fun c6 => ?_)
      · have h := fw_f c6 h
        exact B99 _ _ _ _ _ _ _ _ _ _ _ h hP hD hS hl
      · have h := fw_t c6 h
        refine lv_iload hx hb dX9_heavy_82 (lv_at hl 5 rfl) ?_
        refine lv_if_ne (tgt := 92) hx hb dX9_heavy_84 (by decide) (fun c7 => ?_) (fun c7 => ?_)
        · have h := fw_f c7 h
          refine lv_iload hx hb dX9_heavy_92 (lv_at hl 6 rfl) ?_
          exact B94 _ _ _ _ _ _ _ _ _ _ _ h hP hD hS (lv_sub hl [0, 1, 2, 3, 4, 5, 7] rfl)
        · have h := fw_t c7 h
          refine lv_iload hx hb dX9_heavy_87 (lv_at hl 7 rfl) ?_
          refine lv_goto (tgt := 94) hx hb dX9_heavy_89 (by decide) ?_
          exact B94 _ _ _ _ _ _ _ _ _ _ _ h hP hD hS (lv_sub hl [0, 1, 2, 3, 4, 5, 7] rfl)
  have C58 : ∀ (v1 : Int32) (v2 : Int32) (v3 : Int32) (v4 : Int32) (v5 : Int32) (v6 : Int32) (v7 : Int32) (mo : OB), lp (b_X9_heavy_58 F) F (v1, v2, v3, v4, v5, v6, v7, mo) = some res → ∀ (H : Heap) (locs : List Loc) (ls : Array Slot), va_P D vwCl (moW k va mo) H → va_D A (moW k va mo) → va_S A s.heap H locs → lv_has ls 8 [(0, .ref (va 0)), (1, .int v1), (2, .int v2), (3, .int v3), (4, .int v4), (5, .int v5), (6, .int v6), (7, .int v7)] → W p l e (rmK 5 0 0) s m (List.toArray [.ref (va 0), .int x1, .int x2]) below meth c H locs 0 0 (MQ below (va_Qi (fun r (_ : Unit) => r = res.1) (hcB D (fun _ : Unit => moW k va res.2) A) A) (List.toArray [.ref (va 0), .int x1, .int x2]) s 0 0 A) (F0 m 58 ls []) := fun v1 v2 v3 v4 v5 v6 v7 mo => B58 (v1, v2, v3, v4, v5, v6, v7, mo)
  refine lv_aload_n hx hb dX9_heavy_0 rfl (lv_at hl 0 rfl) ?_
  refine lv_iload_n hx hb dX9_heavy_1 rfl (lv_at hl 1 rfl) ?_
  refine fw_Vi (As := [.int x1]) (rest := []) (n := 1) (wr := []) (rv := fun b : Int32 => b) (wp := fun b : Int32 => moW k va mo) h hx hb hml hown hts hG hA hP hD hS hl.1 (List.range (moW k va mo).length) [] (fun q hq9 => c_X9_isSitter l D k _  va F x1 mo  hq9) (ci := 7) (q0 := 0) rfl rfl gX9_heavy_X9_isSitter rfl ⟨rfl, rfl, Nat.le_of_ble_eq_true rfl, Nat.le_of_ble_eq_true rfl⟩ (by decide +kernel) (al_C _) rfl (al_n _) ⟨rfl, rfl, Nat.le_of_ble_eq_true rfl, Nat.le_of_ble_eq_true rfl, Nat.le_of_ble_eq_true rfl⟩ dX9_heavy_2 (fun q8 H locs h hP hD hS => ?_)
  have hP : va_P D vwCl (moW k va mo) H := hP
  have hD : va_D A (moW k va mo) := hD
  refine hc_is (z := q8) rfl ?_
  refine lv_if_eq (tgt := 28) hx hb dX9_heavy_5 (by decide) (fun c9 => ?_) (fun c9 => ?_)
  · have h := fw_t c9 h
    exact B28 _ _ _ _ h hP hD hS (lv_sub hl [] rfl)
  · have h := fw_f c9 h
    refine lv_aload_n hx hb dX9_heavy_8 rfl (lv_at hl 0 rfl) ?_
    refine va_get (D := D) (ci := 7) (v := .ref (va 3)) (C := RX9) (T := TX9) (N := 53) hx hb hts in9 hown hG.1 hP 0 rfl rfl 3 (by decide) (hts (.fieldLink RX9 16 "ChairCaneModel" "is" "[I") (mem_b bq_wsX9_heavy 0 0 rfl)) (fun _ h9 => h9) rfl dX9_heavy_9 ?_
    refine lv_iload_n hx hb dX9_heavy_12 rfl (lv_at hl 1 rfl) ?_
    obtain ⟨g10, h⟩ := fw_g h
    refine va_iald hx hb hG.1 hP 3 0 rfl rfl (ib_vp g10) dX9_heavy_13 ?_
    refine lv_iconst (v := 2) hx hb dX9_heavy_14 (by decide) ?_
    refine lv_icmp_eq (tgt := 28) hx hb dX9_heavy_15 (by decide) (fun c11 => ?_) (fun c11 => ?_)
    · have h := fw_t c11 h
      exact B28 _ _ _ _ h hP hD hS (lv_sub hl [] rfl)
    · have h := fw_f c11 h
      refine lv_iload_n hx hb dX9_heavy_18 rfl (lv_at hl 2 rfl) ?_
      refine lv_i2l hx hb dX9_heavy_19 rfl ?_
      refine lv_lconst (v := 0) hx hb dX9_heavy_20 (by decide) ?_
      refine lv_lconst (v := 1) hx hb dX9_heavy_21 (by decide) ?_
      refine fw_Si (As := [.long (Int32.toInt64 x2), .long 0, .long 1]) (rest := []) (n := 3) (wr := moW k va mo) (rv := fun b : Int32 => b) (wp := fun b : Int32 => []) h hx hb hml hown hts hG hA hP hD hS hl.1 [] (List.range (moW k va mo).length) (fun q hq9 => c_X9_in l D k _   F (Int32.toInt64 x2) 0 1   hq9) gX9_heavy_X9_in rfl ⟨rfl, rfl, Nat.le_of_ble_eq_true rfl, Nat.le_of_ble_eq_true rfl⟩ (by decide +kernel) rfl (al_C _) (al_m _) ⟨rfl, rfl, Nat.le_of_ble_eq_true rfl, Nat.le_of_ble_eq_true rfl, Nat.le_of_ble_eq_true rfl⟩ dX9_heavy_22 (fun q12 H locs h hP hD hS => ?_)
      have hP : va_P D vwCl ((moW k va mo) ++ []) H := hP
      have hD : va_D A ((moW k va mo) ++ []) := hD
      rw [List.append_nil] at hP hD
      refine hc_is (z := q12) rfl ?_
      refine lv_if_ne (tgt := 30) hx hb dX9_heavy_25 (by decide) (fun c13 => ?_) (fun c13 => ?_)
      · have h := fw_f c13 h
        refine lv_aload_n hx hb dX9_heavy_30 rfl (lv_at hl 0 rfl) ?_
        refine va_get (D := D) (ci := 7) (v := .ref (va 5)) (C := RX9) (T := TX9) (N := 53) hx hb hts in9 hown hG.1 hP 0 rfl rfl 5 (by decide) (hts (.fieldLink RX9 22 "ChairCaneModel" "weight" "[I") (mem_b bq_wsX9_heavy 0 1 rfl)) (fun _ h9 => h9) rfl dX9_heavy_31 ?_
        refine lv_iload_n hx hb dX9_heavy_34 rfl (lv_at hl 1 rfl) ?_
        refine va_iald hx hb hG.1 hP 5 0 rfl rfl (ib_vp g10) dX9_heavy_35 ?_
        refine lv_istore_n (lv' := [(3, .int ((mo.2.1 5) (Int32.toNatClampNeg x1))), (0, .ref (va 0)), (1, .int x1), (2, .int x2)]) hx hb dX9_heavy_36 rfl hl (by decide) rfl (fun ls hl => ?_)
        refine lv_aload_n hx hb dX9_heavy_37 rfl (lv_at hl 1 rfl) ?_
        refine lv_iconst (v := 1) hx hb dX9_heavy_38 (by decide) ?_
        refine fw_Vi (As := [.int 1]) (rest := []) (n := 1) (wr := []) (rv := fun b : Int32 => b) (wp := fun b : Int32 => moW k va mo) h hx hb hml hown hts hG hA hP hD hS hl.1 (List.range (moW k va mo).length) [] (fun q hq9 => c_X9_those l D k _  va F 1 mo  hq9) (ci := 7) (q0 := 0) rfl rfl gX9_heavy_X9_those rfl ⟨rfl, rfl, Nat.le_of_ble_eq_true rfl, Nat.le_of_ble_eq_true rfl⟩ (by decide +kernel) (al_C _) rfl (al_n _) ⟨rfl, rfl, Nat.le_of_ble_eq_true rfl, Nat.le_of_ble_eq_true rfl, Nat.le_of_ble_eq_true rfl⟩ dX9_heavy_39 (fun q14 H locs h hP hD hS => ?_)
        have hP : va_P D vwCl (moW k va mo) H := hP
        have hD : va_D A (moW k va mo) := hD
        refine hc_is (z := q14) rfl ?_
        refine lv_iconst (v := 1) hx hb dX9_heavy_42 (by decide) ?_
        refine lv_iload_n hx hb dX9_heavy_43 rfl (lv_at hl 2 rfl) ?_
        refine lv_ishl hx hb dX9_heavy_44 ?_
        refine lv_ior hx hb dX9_heavy_45 ?_
        refine lv_istore (lv' := [(4, .int (q14 ||| (1 <<< (x1 &&& 31)))), (3, .int ((mo.2.1 5) (Int32.toNatClampNeg x1))), (0, .ref (va 0)), (1, .int x1), (2, .int x2)]) hx hb dX9_heavy_46 hl (by decide) rfl (fun ls hl => ?_)
        refine lv_iconst (v := 0) hx hb dX9_heavy_48 (by decide) ?_
        refine lv_istore (lv' := [(5, .int 0), (4, .int (q14 ||| (1 <<< (x1 &&& 31)))), (3, .int ((mo.2.1 5) (Int32.toNatClampNeg x1))), (0, .ref (va 0)), (1, .int x1), (2, .int x2)]) hx hb dX9_heavy_49 hl (by decide) rfl (fun ls hl => ?_)
        refine lv_bipush (v := (-2)) hx hb dX9_heavy_51 (by decide) ?_
        refine lv_istore (lv' := [(6, .int (-2)), (5, .int 0), (4, .int (q14 ||| (1 <<< (x1 &&& 31)))), (3, .int ((mo.2.1 5) (Int32.toNatClampNeg x1))), (0, .ref (va 0)), (1, .int x1), (2, .int x2)]) hx hb dX9_heavy_53 hl (by decide) rfl (fun ls hl => ?_)
        refine lv_iconst (v := 1) hx hb dX9_heavy_55 (by decide) ?_
        refine lv_istore (lv' := [(7, .int 1), (6, .int (-2)), (5, .int 0), (4, .int (q14 ||| (1 <<< (x1 &&& 31)))), (3, .int ((mo.2.1 5) (Int32.toNatClampNeg x1))), (0, .ref (va 0)), (1, .int x1), (2, .int x2)]) hx hb dX9_heavy_56 hl (by decide) rfl (fun ls hl => ?_)
        exact C58 _ _ _ _ _ _ _ _ h _ _ _ hP hD hS (lv_sub hl [5, 6, 7, 4, 3, 2, 1, 0] rfl)
      · have h := fw_t c13 h
        exact B28 _ _ _ _ h hP hD hS (lv_sub hl [] rfl)
