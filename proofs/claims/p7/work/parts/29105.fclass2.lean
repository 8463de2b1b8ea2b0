/-! 291, 5 -/
noncomputable def b_X8_toasts_35 (F : Nat)  (xi : Nat → Int32) (xrr : Nat → Option Nat) (si : Nat → Int32) (rm : OB)  (tm : OB) (rz : Nat → OB) : Option (Int32 × OB × (Nat → OB)) :=
  some ((-1), tm, rz)
noncomputable def b_X8_toasts_58 (F : Nat)  (xi : Nat → Int32) (xrr : Nat → Option Nat) (si : Nat → Int32) (rm : OB)  (tm : OB) (rz : Nat → OB) : Option (Int32 × OB × (Nat → OB)) :=
  some ((-1), tm, rz)
noncomputable def b_X8_toasts_115 (F : Nat)  (xi : Nat → Int32) (xrr : Nat → Option Nat) (si : Nat → Int32) (rm : OB) (k75 : (Int32 × Int32 × Int32 × Int32 × Int32 × Int32 × Int32 × OB × (Nat → OB)) → Option (Int32 × OB × (Nat → OB))) (v1 : Int32) (v2 : Int32) (v3 : Int32) (v4 : Int32) (v5 : Int32) (v7 : Int32) (y0 : Int32) (y1 : Int32) (tm : OB) (rz : Nat → OB) : Option (Int32 × OB × (Nat → OB)) :=
  Option.bind (f_J6_bitCount_0f7a4 F y0) (fun q1 => (k75 (v1, v2, v3, v4, v5, (y1 + q1), (v7 + 1), tm, rz)))
noncomputable def b_X8_toasts_75 (F : Nat)  (xi : Nat → Int32) (xrr : Nat → Option Nat) (si : Nat → Int32) (rm : OB)  (k75 : (Int32 × Int32 × Int32 × Int32 × Int32 × Int32 × Int32 × OB × (Nat → OB)) → Option (Int32 × OB × (Nat → OB))) (a75 : (Int32 × Int32 × Int32 × Int32 × Int32 × Int32 × Int32 × OB × (Nat → OB))) : Option (Int32 × OB × (Nat → OB)) :=
  if a75.1 ≤ a75.2.2.2.2.2.2.1 then (some (a75.2.2.2.2.2.1, a75.2.2.2.2.2.2.2.1, a75.2.2.2.2.2.2.2.2)) else (Option.bind (f_X8_playToasts F a75.2.1 a75.2.2.1 a75.2.2.2.2.1 xi xrr si rm a75.2.2.2.2.2.2.2.1 a75.2.2.2.2.2.2.2.2) (fun q3 => (if a75.2.2.2.1 = 0 then (b_X8_toasts_115 F xi xrr si rm k75 a75.1 a75.2.1 a75.2.2.1 a75.2.2.2.1 q3.1 a75.2.2.2.2.2.2.1 (q3.2.1.1 11) a75.2.2.2.2.2.1 q3.2.1 q3.2.2) else (b_X8_toasts_115 F xi xrr si rm k75 a75.1 a75.2.1 a75.2.2.1 a75.2.2.2.1 q3.1 a75.2.2.2.2.2.2.1 (q3.2.1.1 10) a75.2.2.2.2.2.1 q3.2.1 q3.2.2))))
noncomputable def f_X8_toasts (F : Nat)  (x1 : Int32) (x2 : Int32) (x3 : Int32) (x4 : Int32) (xi : Nat → Int32) (xrr : Nat → Option Nat) (si : Nat → Int32) (rm : OB) (tm : OB) (rz : Nat → OB) : Option (Int32 × OB × (Nat → OB)) :=
  if (rm.1 0) = 0 then (b_X8_toasts_35 F xi xrr si rm tm rz) else (if x1 < 1 then (b_X8_toasts_35 F xi xrr si rm tm rz) else (if 10 < x1 then (b_X8_toasts_35 F xi xrr si rm tm rz) else (if x2 < 1 then (b_X8_toasts_35 F xi xrr si rm tm rz) else (if x2 ≤ 60 then (if x3 < 0 then (b_X8_toasts_58 F xi xrr si rm tm rz) else (if 100 < x3 then (b_X8_toasts_58 F xi xrr si rm tm rz) else (if x4 < 0 then (b_X8_toasts_58 F xi xrr si rm tm rz) else (if x4 ≤ 1 then (lp (b_X8_toasts_75 F xi xrr si rm) F (x1, x2, x3, x4, (si 4), 0, 0, tm, rz)) else (b_X8_toasts_58 F xi xrr si rm tm rz))))) else (b_X8_toasts_35 F xi xrr si rm tm rz)))))
set_option maxHeartbeats 4000000 in
set_option maxRecDepth 100000 in
theorem c_X8_toasts (l : Launch) (D : va_G) (k : Nat → ClassId) (sz : Nat)  (xo : Nat → Nat) (ta : Nat → Nat) (xr : Nat) (sa : Nat → Nat) (xm : Nat) (xg : Nat) (tr : Nat → Nat) (xs : Nat) (xp : Nat) (xq : Nat) (xe : Nat) (xt : Nat) (xa : Nat → Nat) (ca : Nat → Nat) (na : Nat → Nat) (ra : Nat → Nat) (F : Nat)  (x1 : Int32) (x2 : Int32) (x3 : Int32) (x4 : Int32) (xi : Nat → Int32) (xrr : Nat → Option Nat) (si : Nat → Int32) (rm : OB) (tm : OB) (rz : Nat → OB) (hq : ∀ i, i < 6 → xrr i = some (ra (6 * i))) {res : Int32 × OB × (Nat → OB)} (h : f_X8_toasts F x1 x2 x3 x4 xi xrr si rm tm rz = some res) : CtI l yX8_toasts wsX8_toasts (rmK 7 0 0) [.ref (xo 0), .int x1, .int x2, .int x3, .int x4] D k sz (([((xo 0), .inr (6, [.ref (ta 0), .ref xr, .int (xi 2), .ref (sa 0), .ref xm, .ref xg, .ref (tr 0), .ref xs, .ref xp, .ref xq, .ref xe, .ref xt]))] : va_W) ++ (([(xr, hcR k 6 xrr)] : va_W) ++ (([((sa 0), .inr (4, [.ref (xa 0), .ref (ca 0), .ref (na 0), .int (si 3), .int (si 4)]))] : va_W) ++ (rmW k xa rm ++ (rmW k tr tm ++ (RU k ra rz)))))) (fun r (_ : Unit) => r = res.1) (fun _ : Unit => ([((xo 0), .inr (6, [.ref (ta 0), .ref xr, .int (xi 2), .ref (sa 0), .ref xm, .ref xg, .ref (tr 0), .ref xs, .ref xp, .ref xq, .ref xe, .ref xt]))] : va_W) ++ (([(xr, hcR k 6 xrr)] : va_W) ++ (([((sa 0), .inr (4, [.ref (xa 0), .ref (ca 0), .ref (na 0), .int (si 3), .int (si 4)]))] : va_W) ++ (rmW k xa rm ++ (rmW k tr res.2.1 ++ (RU k ra res.2.2)))))) 0 0 := by
  refine CtI.mk (cc := cX8_toasts) (maxL := 8) (ret := (some .int)) (by decide) rfl (Nat.le_of_ble_eq_true rfl) ?_
  intro p e s m below meth c A ls E hP hD hS hl
  obtain ⟨hx, hb, hr, hml, hown, hts, hlocks, hin, hG, hA⟩ := E
  have hown : s.vm.findClass RX8 = some m.cls := hown
  have in3 : ∀ w ∈ u_ws RX3 TX3 17, w ∈ wsX8_toasts := fun _ h => List.mem_cons_of_mem _ (List.mem_append_left _ (List.mem_append_right _ h))
  have in4 : ∀ w ∈ u_ws RX4 TX4 8, w ∈ wsX8_toasts := fun _ h => List.mem_cons_of_mem _ (List.mem_append_right _ h)
  have in6 : ∀ w ∈ u_ws RX6 TX6 5, w ∈ wsX8_toasts := fun _ h => List.mem_cons_of_mem _ (List.mem_append_left _ (List.mem_append_left _ (List.mem_append_right _ h)))
  have in8 : ∀ w ∈ u_ws RX8 TX8 12, w ∈ wsX8_toasts := fun _ h => List.mem_cons_of_mem _ (List.mem_append_left _ (List.mem_append_left _ (List.mem_append_left _ (List.mem_append_right _ h))))
  have hl : lv_has ls 8 [(0, .ref (xo 0)), (1, .int x1), (2, .int x2), (3, .int x3), (4, .int x4)] := hl
  have B35 : ∀ (tm : OB) (rz : Nat → OB) (H : Heap) (locs : List Loc) (ls : Array Slot), b_X8_toasts_35 F xi xrr si rm tm rz = some res → va_P D vwCl (([((xo 0), .inr (6, [.ref (ta 0), .ref xr, .int (xi 2), .ref (sa 0), .ref xm, .ref xg, .ref (tr 0), .ref xs, .ref xp, .ref xq, .ref xe, .ref xt]))] : va_W) ++ (([(xr, hcR k 6 xrr)] : va_W) ++ (([((sa 0), .inr (4, [.ref (xa 0), .ref (ca 0), .ref (na 0), .int (si 3), .int (si 4)]))] : va_W) ++ (rmW k xa rm ++ (rmW k tr tm ++ (RU k ra rz)))))) H → va_D A (([((xo 0), .inr (6, [.ref (ta 0), .ref xr, .int (xi 2), .ref (sa 0), .ref xm, .ref xg, .ref (tr 0), .ref xs, .ref xp, .ref xq, .ref xe, .ref xt]))] : va_W) ++ (([(xr, hcR k 6 xrr)] : va_W) ++ (([((sa 0), .inr (4, [.ref (xa 0), .ref (ca 0), .ref (na 0), .int (si 3), .int (si 4)]))] : va_W) ++ (rmW k xa rm ++ (rmW k tr tm ++ (RU k ra rz)))))) → va_S A s.heap H locs → lv_has ls 8 [] → W p l e (rmK 7 0 0) s m (List.toArray [.ref (xo 0), .int x1, .int x2, .int x3, .int x4]) below meth c H locs 0 0 (MQ below (va_Qi (fun r (_ : Unit) => r = res.1) (hcB D (fun _ : Unit => ([((xo 0), .inr (6, [.ref (ta 0), .ref xr, .int (xi 2), .ref (sa 0), .ref xm, .ref xg, .ref (tr 0), .ref xs, .ref xp, .ref xq, .ref xe, .ref xt]))] : va_W) ++ (([(xr, hcR k 6 xrr)] : va_W) ++ (([((sa 0), .inr (4, [.ref (xa 0), .ref (ca 0), .ref (na 0), .int (si 3), .int (si 4)]))] : va_W) ++ (rmW k xa rm ++ (rmW k tr res.2.1 ++ (RU k ra res.2.2)))))) A) A) (List.toArray [.ref (xo 0), .int x1, .int x2, .int x3, .int x4]) s 0 0 A) (F0 m 35 ls []) := by
    intro tm rz H locs ls h hP hD hS hl
    refine lv_iconst (v := (-1)) hx hb dX8_toasts_35 (by decide) ?_
    exact fw_endI (rv := fun b : Int32 × OB × (Nat → OB) => b.1) (wp := fun b : Int32 × OB × (Nat → OB) => ([((xo 0), .inr (6, [.ref (ta 0), .ref xr, .int (xi 2), .ref (sa 0), .ref xm, .ref xg, .ref (tr 0), .ref xs, .ref xp, .ref xq, .ref xe, .ref xt]))] : va_W) ++ (([(xr, hcR k 6 xrr)] : va_W) ++ (([((sa 0), .inr (4, [.ref (xa 0), .ref (ca 0), .ref (na 0), .int (si 3), .int (si 4)]))] : va_W) ++ (rmW k xa rm ++ (rmW k tr b.2.1 ++ (RU k ra b.2.2)))))) hx hb hr hlocks h rfl hP hD hS dX8_toasts_36
  have B58 : ∀ (tm : OB) (rz : Nat → OB) (H : Heap) (locs : List Loc) (ls : Array Slot), b_X8_toasts_58 F xi xrr si rm tm rz = some res → va_P D vwCl (([((xo 0), .inr (6, [.ref (ta 0), .ref xr, .int (xi 2), .ref (sa 0), .ref xm, .ref xg, .ref (tr 0), .ref xs, .ref xp, .ref xq, .ref xe, .ref xt]))] : va_W) ++ (([(xr, hcR k 6 xrr)] : va_W) ++ (([((sa 0), .inr (4, [.ref (xa 0), .ref (ca 0), .ref (na 0), .int (si 3), .int (si 4)]))] : va_W) ++ (rmW k xa rm ++ (rmW k tr tm ++ (RU k ra rz)))))) H → va_D A (([((xo 0), .inr (6, [.ref (ta 0), .ref xr, .int (xi 2), .ref (sa 0), .ref xm, .ref xg, .ref (tr 0), .ref xs, .ref xp, .ref xq, .ref xe, .ref xt]))] : va_W) ++ (([(xr, hcR k 6 xrr)] : va_W) ++ (([((sa 0), .inr (4, [.ref (xa 0), .ref (ca 0), .ref (na 0), .int (si 3), .int (si 4)]))] : va_W) ++ (rmW k xa rm ++ (rmW k tr tm ++ (RU k ra rz)))))) → va_S A s.heap H locs → lv_has ls 8 [] → W p l e (rmK 7 0 0) s m (List.toArray [.ref (xo 0), .int x1, .int x2, .int x3, .int x4]) below meth c H locs 0 0 (MQ below (va_Qi (fun r (_ : Unit) => r = res.1) (hcB D (fun _ : Unit => ([((xo 0), .inr (6, [.ref (ta 0), .ref xr, .int (xi 2), .ref (sa 0), .ref xm, .ref xg, .ref (tr 0), .ref xs, .ref xp, .ref xq, .ref xe, .ref xt]))] : va_W) ++ (([(xr, hcR k 6 xrr)] : va_W) ++ (([((sa 0), .inr (4, [.ref (xa 0), .ref (ca 0), .ref (na 0), .int (si 3), .int (si 4)]))] : va_W) ++ (rmW k xa rm ++ (rmW k tr res.2.1 ++ (RU k ra res.2.2)))))) A) A) (List.toArray [.ref (xo 0), .int x1, .int x2, .int x3, .int x4]) s 0 0 A) (F0 m 58 ls []) := by
    intro tm rz H locs ls h hP hD hS hl
    refine lv_iconst (v := (-1)) hx hb dX8_toasts_58 (by decide) ?_
    exact fw_endI (rv := fun b : Int32 × OB × (Nat → OB) => b.1) (wp := fun b : Int32 × OB × (Nat → OB) => ([((xo 0), .inr (6, [.ref (ta 0), .ref xr, .int (xi 2), .ref (sa 0), .ref xm, .ref xg, .ref (tr 0), .ref xs, .ref xp, .ref xq, .ref xe, .ref xt]))] : va_W) ++ (([(xr, hcR k 6 xrr)] : va_W) ++ (([((sa 0), .inr (4, [.ref (xa 0), .ref (ca 0), .ref (na 0), .int (si 3), .int (si 4)]))] : va_W) ++ (rmW k xa rm ++ (rmW k tr b.2.1 ++ (RU k ra b.2.2)))))) hx hb hr hlocks h rfl hP hD hS dX8_toasts_59
  have B75 : ∀ a75 : (Int32 × Int32 × Int32 × Int32 × Int32 × Int32 × Int32 × OB × (Nat → OB)), lp (b_X8_toasts_75 F xi xrr si rm) F a75 = some res → ∀ (H : Heap) (locs : List Loc) (ls : Array Slot), va_P D vwCl (([((xo 0), .inr (6, [.ref (ta 0), .ref xr, .int (xi 2), .ref (sa 0), .ref xm, .ref xg, .ref (tr 0), .ref xs, .ref xp, .ref xq, .ref xe, .ref xt]))] : va_W) ++ (([(xr, hcR k 6 xrr)] : va_W) ++ (([((sa 0), .inr (4, [.ref (xa 0), .ref (ca 0), .ref (na 0), .int (si 3), .int (si 4)]))] : va_W) ++ (rmW k xa rm ++ (rmW k tr a75.2.2.2.2.2.2.2.1 ++ (RU k ra a75.2.2.2.2.2.2.2.2)))))) H → va_D A (([((xo 0), .inr (6, [.ref (ta 0), .ref xr, .int (xi 2), .ref (sa 0), .ref xm, .ref xg, .ref (tr 0), .ref xs, .ref xp, .ref xq, .ref xe, .ref xt]))] : va_W) ++ (([(xr, hcR k 6 xrr)] : va_W) ++ (([((sa 0), .inr (4, [.ref (xa 0), .ref (ca 0), .ref (na 0), .int (si 3), .int (si 4)]))] : va_W) ++ (rmW k xa rm ++ (rmW k tr a75.2.2.2.2.2.2.2.1 ++ (RU k ra a75.2.2.2.2.2.2.2.2)))))) → va_S A s.heap H locs → lv_has ls 8 [(0, .ref (xo 0)), (1, .int a75.1), (2, .int a75.2.1), (3, .int a75.2.2.1), (4, .int a75.2.2.2.1), (5, .int a75.2.2.2.2.1), (6, .int a75.2.2.2.2.2.1), (7, .int a75.2.2.2.2.2.2.1)] → W p l e (rmK 7 0 0) s m (List.toArray [.ref (xo 0), .int x1, .int x2, .int x3, .int x4]) below meth c H locs 0 0 (MQ below (va_Qi (fun r (_ : Unit) => r = res.1) (hcB D (fun _ : Unit => ([((xo 0), .inr (6, [.ref (ta 0), .ref xr, .int (xi 2), .ref (sa 0), .ref xm, .ref xg, .ref (tr 0), .ref xs, .ref xp, .ref xq, .ref xe, .ref xt]))] : va_W) ++ (([(xr, hcR k 6 xrr)] : va_W) ++ (([((sa 0), .inr (4, [.ref (xa 0), .ref (ca 0), .ref (na 0), .int (si 3), .int (si 4)]))] : va_W) ++ (rmW k xa rm ++ (rmW k tr res.2.1 ++ (RU k ra res.2.2)))))) A) A) (List.toArray [.ref (xo 0), .int x1, .int x2, .int x3, .int x4]) s 0 0 A) (F0 m 75 ls []) := by
    refine lp_W ?_ F
    intro k75 hk75 a75 h H locs ls hP hD hS hl
    have hc75 : ∀ (v1 : Int32) (v2 : Int32) (v3 : Int32) (v4 : Int32) (v5 : Int32) (v6 : Int32) (v7 : Int32) (tm : OB) (rz : Nat → OB), k75 (v1, v2, v3, v4, v5, v6, v7, tm, rz) = some res → ∀ (H : Heap) (locs : List Loc) (ls : Array Slot), va_P D vwCl (([((xo 0), .inr (6, [.ref (ta 0), .ref xr, .int (xi 2), .ref (sa 0), .ref xm, .ref xg, .ref (tr 0), .ref xs, .ref xp, .ref xq, .ref xe, .ref xt]))] : va_W) ++ (([(xr, hcR k 6 xrr)] : va_W) ++ (([((sa 0), .inr (4, [.ref (xa 0), .ref (ca 0), .ref (na 0), .int (si 3), .int (si 4)]))] : va_W) ++ (rmW k xa rm ++ (rmW k tr tm ++ (RU k ra rz)))))) H → va_D A (([((xo 0), .inr (6, [.ref (ta 0), .ref xr, .int (xi 2), .ref (sa 0), .ref xm, .ref xg, .ref (tr 0), .ref xs, .ref xp, .ref xq, .ref xe, .ref xt]))] : va_W) ++ (([(xr, hcR k 6 xrr)] : va_W) ++ (([((sa 0), .inr (4, [.ref (xa 0), .ref (ca 0), .ref (na 0), .int (si 3), .int (si 4)]))] : va_W) ++ (rmW k xa rm ++ (rmW k tr tm ++ (RU k ra rz)))))) → va_S A s.heap H locs → lv_has ls 8 [(0, .ref (xo 0)), (1, .int v1), (2, .int v2), (3, .int v3), (4, .int v4), (5, .int v5), (6, .int v6), (7, .int v7)] → W p l e (rmK 7 0 0) s m (List.toArray [.ref (xo 0), .int x1, .int x2, .int x3, .int x4]) below meth c H locs 0 0 (MQ below (va_Qi (fun r (_ : Unit) => r = res.1) (hcB D (fun _ : Unit => ([((xo 0), .inr (6, [.ref (ta 0), .ref xr, .int (xi 2), .ref (sa 0), .ref xm, .ref xg, .ref (tr 0), .ref xs, .ref xp, .ref xq, .ref xe, .ref xt]))] : va_W) ++ (([(xr, hcR k 6 xrr)] : va_W) ++ (([((sa 0), .inr (4, [.ref (xa 0), .ref (ca 0), .ref (na 0), .int (si 3), .int (si 4)]))] : va_W) ++ (rmW k xa rm ++ (rmW k tr res.2.1 ++ (RU k ra res.2.2)))))) A) A) (List.toArray [.ref (xo 0), .int x1, .int x2, .int x3, .int x4]) s 0 0 A) (F0 m 75 ls []) := fun v1 v2 v3 v4 v5 v6 v7 tm rz => hk75 (v1, v2, v3, v4, v5, v6, v7, tm, rz)
    have B115 : ∀ (v1 : Int32) (v2 : Int32) (v3 : Int32) (v4 : Int32) (v5 : Int32) (v7 : Int32) (y0 : Int32) (y1 : Int32) (tm : OB) (rz : Nat → OB) (H : Heap) (locs : List Loc) (ls : Array Slot), b_X8_toasts_115 F xi xrr si rm k75 v1 v2 v3 v4 v5 v7 y0 y1 tm rz = some res → va_P D vwCl (([((xo 0), .inr (6, [.ref (ta 0), .ref xr, .int (xi 2), .ref (sa 0), .ref xm, .ref xg, .ref (tr 0), .ref xs, .ref xp, .ref xq, .ref xe, .ref xt]))] : va_W) ++ (([(xr, hcR k 6 xrr)] : va_W) ++ (([((sa 0), .inr (4, [.ref (xa 0), .ref (ca 0), .ref (na 0), .int (si 3), .int (si 4)]))] : va_W) ++ (rmW k xa rm ++ (rmW k tr tm ++ (RU k ra rz)))))) H → va_D A (([((xo 0), .inr (6, [.ref (ta 0), .ref xr, .int (xi 2), .ref (sa 0), .ref xm, .ref xg, .ref (tr 0), .ref xs, .ref xp, .ref xq, .ref xe, .ref xt]))] : va_W) ++ (([(xr, hcR k 6 xrr)] : va_W) ++ (([((sa 0), .inr (4, [.ref (xa 0), .ref (ca 0), .ref (na 0), .int (si 3), .int (si 4)]))] : va_W) ++ (rmW k xa rm ++ (rmW k tr tm ++ (RU k ra rz)))))) → va_S A s.heap H locs → lv_has ls 8 [(0, .ref (xo 0)), (1, .int v1), (2, .int v2), (3, .int v3), (4, .int v4), (5, .int v5), (7, .int v7)] → W p l e (rmK 7 0 0) s m (List.toArray [.ref (xo 0), .int x1, .int x2, .int x3, .int x4]) below meth c H locs 0 0 (MQ below (va_Qi (fun r (_ : Unit) => r = res.1) (hcB D (fun _ : Unit => ([((xo 0), .inr (6, [.ref (ta 0), .ref xr, .int (xi 2), .ref (sa 0), .ref xm, .ref xg, .ref (tr 0), .ref xs, .ref xp, .ref xq, .ref xe, .ref xt]))] : va_W) ++ (([(xr, hcR k 6 xrr)] : va_W) ++ (([((sa 0), .inr (4, [.ref (xa 0), .ref (ca 0), .ref (na 0), .int (si 3), .int (si 4)]))] : va_W) ++ (rmW k xa rm ++ (rmW k tr res.2.1 ++ (RU k ra res.2.2)))))) A) A) (List.toArray [.ref (xo 0), .int x1, .int x2, .int x3, .int x4]) s 0 0 A) (F0 m 115 ls [.int y0, .int y1]) := by
      intro v1 v2 v3 v4 v5 v7 y0 y1 tm rz H locs ls h hP hD hS hl
      refine fw_Si (As := [.int y0]) (rest := [.int y1]) (n := 1) (wr := ([((xo 0), .inr (6, [.ref (ta 0), .ref xr, .int (xi 2), .ref (sa 0), .ref xm, .ref xg, .ref (tr 0), .ref xs, .ref xp, .ref xq, .ref xe, .ref xt]))] : va_W) ++ (([(xr, hcR k 6 xrr)] : va_W) ++ (([((sa 0), .inr (4, [.ref (xa 0), .ref (ca 0), .ref (na 0), .int (si 3), .int (si 4)]))] : va_W) ++ (rmW k xa rm ++ (rmW k tr tm ++ (RU k ra rz)))))) (rv := fun b : Int32 => b) (wp := fun b : Int32 => []) h hx hb hml hown hts hG hA hP hD hS hl.1 [] (List.range (([((xo 0), .inr (6, [.ref (ta 0), .ref xr, .int (xi 2), .ref (sa 0), .ref xm, .ref xg, .ref (tr 0), .ref xs, .ref xp, .ref xq, .ref xe, .ref xt]))] : va_W) ++ (([(xr, hcR k 6 xrr)] : va_W) ++ (([((sa 0), .inr (4, [.ref (xa 0), .ref (ca 0), .ref (na 0), .int (si 3), .int (si 4)]))] : va_W) ++ (rmW k xa rm ++ (rmW k tr tm ++ (RU k ra rz))))) : va_W).length) (fun q hq9 => c_J6_bitCount_0f7a4 l D k _   F y0   hq9) gX8_toasts_J6_bitCount_0f7a4 rfl ⟨rfl, rfl, Nat.le_of_ble_eq_true rfl, Nat.le_of_ble_eq_true rfl⟩ (by decide +kernel) rfl (al_C _) (al_m _) ⟨rfl, rfl, Nat.le_of_ble_eq_true rfl, Nat.le_of_ble_eq_true rfl, Nat.le_of_ble_eq_true rfl⟩ dX8_toasts_115 (fun q1 H locs h hP hD hS => ?_)
      have hP : va_P D vwCl ((([((xo 0), .inr (6, [.ref (ta 0), .ref xr, .int (xi 2), .ref (sa 0), .ref xm, .ref xg, .ref (tr 0), .ref xs, .ref xp, .ref xq, .ref xe, .ref xt]))] : va_W) ++ (([(xr, hcR k 6 xrr)] : va_W) ++ (([((sa 0), .inr (4, [.ref (xa 0), .ref (ca 0), .ref (na 0), .int (si 3), .int (si 4)]))] : va_W) ++ (rmW k xa rm ++ (rmW k tr tm ++ (RU k ra rz)))))) ++ []) H := hP
      have hD : va_D A ((([((xo 0), .inr (6, [.ref (ta 0), .ref xr, .int (xi 2), .ref (sa 0), .ref xm, .ref xg, .ref (tr 0), .ref xs, .ref xp, .ref xq, .ref xe, .ref xt]))] : va_W) ++ (([(xr, hcR k 6 xrr)] : va_W) ++ (([((sa 0), .inr (4, [.ref (xa 0), .ref (ca 0), .ref (na 0), .int (si 3), .int (si 4)]))] : va_W) ++ (rmW k xa rm ++ (rmW k tr tm ++ (RU k ra rz)))))) ++ []) := hD
      rw [List.append_nil] at hP hD
      refine hc_is (z := q1) rfl ?_
      refine lv_iadd hx hb dX8_toasts_118 ?_
      refine lv_istore (lv' := [(6, .int (y1 + q1)), (0, .ref (xo 0)), (1, .int v1), (2, .int v2), (3, .int v3), (4, .int v4), (5, .int v5), (7, .int v7)]) hx hb dX8_toasts_119 hl (by decide) rfl (fun ls hl => ?_)
      refine lv_iinc (v := (v7 + 1)) (lv' := [(7, .int (v7 + 1)), (6, .int (y1 + q1)), (0, .ref (xo 0)), (1, .int v1), (2, .int v2), (3, .int v3), (4, .int v4), (5, .int v5)]) hx hb dX8_toasts_121 hl (k := 7) rfl rfl (by decide) rfl (fun ls hl => ?_)
      refine lv_goto (tgt := 75) hx hb dX8_toasts_124 (by decide) ?_
      exact hc75 _ _ _ _ _ _ _ _ _ h _ _ _ hP hD hS (lv_sub hl [2, 3, 4, 5, 6, 7, 1, 0] rfl)
    refine lv_iload hx hb dX8_toasts_75 (lv_at hl 7 rfl) ?_
    refine lv_iload_n hx hb dX8_toasts_77 rfl (lv_at hl 1 rfl) ?_
    refine lv_icmp_ge (tgt := 127) hx hb dX8_toasts_78 (by decide) (fun c2 => ?_) (fun c2 => ?_)
    · have h := fw_t c2 h
      refine lv_iload hx hb dX8_toasts_127 (lv_at hl 6 rfl) ?_
      exact fw_endI (rv := fun b : Int32 × OB × (Nat → OB) => b.1) (wp := fun b : Int32 × OB × (Nat → OB) => ([((xo 0), .inr (6, [.ref (ta 0), .ref xr, .int (xi 2), .ref (sa 0), .ref xm, .ref xg, .ref (tr 0), .ref xs, .ref xp, .ref xq, .ref xe, .ref xt]))] : va_W) ++ (([(xr, hcR k 6 xrr)] : va_W) ++ (([((sa 0), .inr (4, [.ref (xa 0), .ref (ca 0), .ref (na 0), .int (si 3), .int (si 4)]))] : va_W) ++ (rmW k xa rm ++ (rmW k tr b.2.1 ++ (RU k ra b.2.2)))))) hx hb hr hlocks h rfl hP hD hS dX8_toasts_129
    · have h := fw_f c2 h
      refine lv_aload_n hx hb dX8_toasts_81 rfl (lv_at hl 0 rfl) ?_
      refine lv_iload_n hx hb dX8_toasts_82 rfl (lv_at hl 2 rfl) ?_
      refine lv_iload_n hx hb dX8_toasts_83 rfl (lv_at hl 3 rfl) ?_
      refine lv_iload hx hb dX8_toasts_84 (lv_at hl 5 rfl) ?_
      refine fw_Vi (As := [.int a75.2.1, .int a75.2.2.1, .int a75.2.2.2.2.1]) (rest := []) (n := 3) (wr := []) (rv := fun b : Int32 × OB × (Nat → OB) => b.1) (wp := fun b : Int32 × OB × (Nat → OB) => ([((xo 0), .inr (6, [.ref (ta 0), .ref xr, .int (xi 2), .ref (sa 0), .ref xm, .ref xg, .ref (tr 0), .ref xs, .ref xp, .ref xq, .ref xe, .ref xt]))] : va_W) ++ (([(xr, hcR k 6 xrr)] : va_W) ++ (([((sa 0), .inr (4, [.ref (xa 0), .ref (ca 0), .ref (na 0), .int (si 3), .int (si 4)]))] : va_W) ++ (rmW k xa rm ++ (rmW k tr b.2.1 ++ (RU k ra b.2.2)))))) h hx hb hml hown hts hG hA hP hD hS hl.1 (List.range (([((xo 0), .inr (6, [.ref (ta 0), .ref xr, .int (xi 2), .ref (sa 0), .ref xm, .ref xg, .ref (tr 0), .ref xs, .ref xp, .ref xq, .ref xe, .ref xt]))] : va_W) ++ (([(xr, hcR k 6 xrr)] : va_W) ++ (([((sa 0), .inr (4, [.ref (xa 0), .ref (ca 0), .ref (na 0), .int (si 3), .int (si 4)]))] : va_W) ++ (rmW k xa rm ++ (rmW k tr a75.2.2.2.2.2.2.2.1 ++ (RU k ra a75.2.2.2.2.2.2.2.2))))) : va_W).length) [] (fun q hq9 => c_X8_playToasts l D k _  xo ta xr sa xm xg tr xs xp xq xe xt xa ca na ra F a75.2.1 a75.2.2.1 a75.2.2.2.2.1 xi xrr si rm a75.2.2.2.2.2.2.2.1 a75.2.2.2.2.2.2.2.2 hq hq9) (ci := 6) (q0 := 0) rfl rfl gX8_toasts_X8_playToasts rfl ⟨rfl, rfl, Nat.le_of_ble_eq_true rfl, Nat.le_of_ble_eq_true rfl⟩ (by decide +kernel) (al_C _) rfl (al_n _) ⟨rfl, rfl, Nat.le_of_ble_eq_true rfl, Nat.le_of_ble_eq_true rfl, Nat.le_of_ble_eq_true rfl⟩ dX8_toasts_86 (fun q3 H locs h hP hD hS => ?_)
      have hP : va_P D vwCl (([((xo 0), .inr (6, [.ref (ta 0), .ref xr, .int (xi 2), .ref (sa 0), .ref xm, .ref xg, .ref (tr 0), .ref xs, .ref xp, .ref xq, .ref xe, .ref xt]))] : va_W) ++ (([(xr, hcR k 6 xrr)] : va_W) ++ (([((sa 0), .inr (4, [.ref (xa 0), .ref (ca 0), .ref (na 0), .int (si 3), .int (si 4)]))] : va_W) ++ (rmW k xa rm ++ (rmW k tr q3.2.1 ++ (RU k ra q3.2.2)))))) H := hP
      have hD : va_D A (([((xo 0), .inr (6, [.ref (ta 0), .ref xr, .int (xi 2), .ref (sa 0), .ref xm, .ref xg, .ref (tr 0), .ref xs, .ref xp, .ref xq, .ref xe, .ref xt]))] : va_W) ++ (([(xr, hcR k 6 xrr)] : va_W) ++ (([((sa 0), .inr (4, [.ref (xa 0), .ref (ca 0), .ref (na 0), .int (si 3), .int (si 4)]))] : va_W) ++ (rmW k xa rm ++ (rmW k tr q3.2.1 ++ (RU k ra q3.2.2)))))) := hD
      refine hc_is (z := q3.1) rfl ?_
      refine lv_istore (lv' := [(5, .int q3.1), (0, .ref (xo 0)), (1, .int a75.1), (2, .int a75.2.1), (3, .int a75.2.2.1), (4, .int a75.2.2.2.1), (6, .int a75.2.2.2.2.2.1), (7, .int a75.2.2.2.2.2.2.1)]) hx hb dX8_toasts_89 hl (by decide) rfl (fun ls hl => ?_)
      refine lv_iload hx hb dX8_toasts_91 (lv_at hl 6 rfl) ?_
      refine lv_iload hx hb dX8_toasts_93 (lv_at hl 5 rfl) ?_
      refine lv_if_ne (tgt := 108) hx hb dX8_toasts_95 (by decide) (fun c4 => ?_) (fun c4 => ?_)
      · have h := fw_f c4 h
        refine lv_aload_n hx hb dX8_toasts_108 rfl (lv_at hl 1 rfl) ?_
        refine va_get (D := D) (ci := 6) (v := .ref (tr 0)) (C := RX8) (T := TX8) (N := 12) hx hb hts in8 hown hG.1 hP 0 rfl rfl 6 (by decide) (hts (.fieldLink RX8 44 "ChairCane" "trial" "LChairCane$Room;") (mem_b bq_wsX8_toasts 0 4 rfl)) (fun _ h9 => h9) rfl dX8_toasts_109 ?_
        refine va_get (D := D) (ci := 2) (v := .int (q3.2.1.1 10)) (C := RX3) (T := TX3) (N := 17) hx hb hts in3 hown hG.1 hP 12 rfl rfl 10 (by decide) (hts (.fieldLink RX8 200 "ChairCane$Room" "sits" "I") (mem_b bq_wsX8_toasts 0 6 rfl)) (fun _ h9 => h9) rfl dX8_toasts_112 ?_
        exact B115 _ _ _ _ _ _ _ _ _ _ _ _ _ h hP hD hS (lv_sub hl [1, 2, 3, 4, 5, 0, 7] rfl)
      · have h := fw_t c4 h
        refine lv_aload_n hx hb dX8_toasts_98 rfl (lv_at hl 1 rfl) ?_
        refine va_get (D := D) (ci := 6) (v := .ref (tr 0)) (C := RX8) (T := TX8) (N := 12) hx hb hts in8 hown hG.1 hP 0 rfl rfl 6 (by decide) (hts (.fieldLink RX8 44 "ChairCane" "trial" "LChairCane$Room;") (mem_b bq_wsX8_toasts 0 4 rfl)) (fun _ h9 => h9) rfl dX8_toasts_99 ?_
        refine va_get (D := D) (ci := 2) (v := .int (q3.2.1.1 11)) (C := RX3) (T := TX3) (N := 17) hx hb hts in3 hown hG.1 hP 12 rfl rfl 11 (by decide) (hts (.fieldLink RX8 179 "ChairCane$Room" "dropped" "I") (mem_b bq_wsX8_toasts 0 5 rfl)) (fun _ h9 => h9) rfl dX8_toasts_102 ?_
        refine lv_goto (tgt := 115) hx hb dX8_toasts_105 (by decide) ?_
        exact B115 _ _ _ _ _ _ _ _ _ _ _ _ _ h hP hD hS (lv_sub hl [1, 2, 3, 4, 5, 0, 7] rfl)
  have C75 : ∀ (v1 : Int32) (v2 : Int32) (v3 : Int32) (v4 : Int32) (v5 : Int32) (v6 : Int32) (v7 : Int32) (tm : OB) (rz : Nat → OB), lp (b_X8_toasts_75 F xi xrr si rm) F (v1, v2, v3, v4, v5, v6, v7, tm, rz) = some res → ∀ (H : Heap) (locs : List Loc) (ls : Array Slot), va_P D vwCl (([((xo 0), .inr (6, [.ref (ta 0), .ref xr, .int (xi 2), .ref (sa 0), .ref xm, .ref xg, .ref (tr 0), .ref xs, .ref xp, .ref xq, .ref xe, .ref xt]))] : va_W) ++ (([(xr, hcR k 6 xrr)] : va_W) ++ (([((sa 0), .inr (4, [.ref (xa 0), .ref (ca 0), .ref (na 0), .int (si 3), .int (si 4)]))] : va_W) ++ (rmW k xa rm ++ (rmW k tr tm ++ (RU k ra rz)))))) H → va_D A (([((xo 0), .inr (6, [.ref (ta 0), .ref xr, .int (xi 2), .ref (sa 0), .ref xm, .ref xg, .ref (tr 0), .ref xs, .ref xp, .ref xq, .ref xe, .ref xt]))] : va_W) ++ (([(xr, hcR k 6 xrr)] : va_W) ++ (([((sa 0), .inr (4, [.ref (xa 0), .ref (ca 0), .ref (na 0), .int (si 3), .int (si 4)]))] : va_W) ++ (rmW k xa rm ++ (rmW k tr tm ++ (RU k ra rz)))))) → va_S A s.heap H locs → lv_has ls 8 [(0, .ref (xo 0)), (1, .int v1), (2, .int v2), (3, .int v3), (4, .int v4), (5, .int v5), (6, .int v6), (7, .int v7)] → W p l e (rmK 7 0 0) s m (List.toArray [.ref (xo 0), .int x1, .int x2, .int x3, .int x4]) below meth c H locs 0 0 (MQ below (va_Qi (fun r (_ : Unit) => r = res.1) (hcB D (fun _ : Unit => ([((xo 0), .inr (6, [.ref (ta 0), .ref xr, .int (xi 2), .ref (sa 0), .ref xm, .ref xg, .ref (tr 0), .ref xs, .ref xp, .ref xq, .ref xe, .ref xt]))] : va_W) ++ (([(xr, hcR k 6 xrr)] : va_W) ++ (([((sa 0), .inr (4, [.ref (xa 0), .ref (ca 0), .ref (na 0), .int (si 3), .int (si 4)]))] : va_W) ++ (rmW k xa rm ++ (rmW k tr res.2.1 ++ (RU k ra res.2.2)))))) A) A) (List.toArray [.ref (xo 0), .int x1, .int x2, .int x3, .int x4]) s 0 0 A) (F0 m 75 ls []) := fun v1 v2 v3 v4 v5 v6 v7 tm rz => B75 (v1, v2, v3, v4, v5, v6, v7, tm, rz)
  refine lv_aload_n hx hb dX8_toasts_0 rfl (lv_at hl 0 rfl) ?_
  refine va_get (D := D) (ci := 6) (v := .ref (sa 0)) (C := RX8) (T := TX8) (N := 12) hx hb hts in8 hown hG.1 hP 0 rfl rfl 3 (by decide) (hts (.fieldLink RX8 29 "ChairCane" "now" "LChairCane$Standing;") (mem_b bq_wsX8_toasts 0 0 rfl)) (fun _ h9 => h9) rfl dX8_toasts_1 ?_
  refine va_get (D := D) (ci := 4) (v := .ref (xa 0)) (C := RX6) (T := TX6) (N := 5) hx hb hts in6 hown hG.1 hP 2 rfl rfl 0 (by decide) (hts (.fieldLink RX8 81 "ChairCane$Standing" "room" "LChairCane$Room;") (mem_b bq_wsX8_toasts 0 1 rfl)) (fun _ h9 => h9) rfl dX8_toasts_4 ?_
  refine va_get (D := D) (ci := 2) (v := .int (rm.1 0)) (C := RX3) (T := TX3) (N := 17) hx hb hts in3 hown hG.1 hP 3 rfl rfl 0 (by decide) (hts (.fieldLink RX8 150 "ChairCane$Room" "told" "Z") (mem_b bq_wsX8_toasts 0 2 rfl)) (fun _ h9 => h9) rfl dX8_toasts_7 ?_
  refine lv_if_eq (tgt := 35) hx hb dX8_toasts_10 (by decide) (fun c5 => ?_) (fun c5 => ?_)
  · have h := fw_t c5 h
    exact B35 _ _ _ _ _ h hP hD hS (lv_sub hl [] rfl)
  · have h := fw_f c5 h
    refine lv_iload_n hx hb dX8_toasts_13 rfl (lv_at hl 1 rfl) ?_
    refine lv_iconst (v := 1) hx hb dX8_toasts_14 (by decide) ?_
    refine lv_icmp_lt (tgt := 35) hx hb dX8_toasts_15 (by decide) (fun c6 => ?_) (fun c6 => ?_)
    · have h := fw_t c6 h
      exact B35 _ _ _ _ _ h hP hD hS (lv_sub hl [] rfl)
    · have h := fw_f c6 h
      refine lv_iload_n hx hb dX8_toasts_18 rfl (lv_at hl 1 rfl) ?_
      refine lv_bipush (v := 10) hx hb dX8_toasts_19 (by decide) ?_
      refine lv_icmp_gt (tgt := 35) hx hb dX8_toasts_21 (by decide) (fun c7 => ?_) (fun c7 => ?_)
      · have h := fw_t c7 h
        exact B35 _ _ _ _ _ h hP hD hS (lv_sub hl [] rfl)
      · have h := fw_f c7 h
        refine lv_iload_n hx hb dX8_toasts_24 rfl (lv_at hl 2 rfl) ?_
        refine lv_iconst (v := 1) hx hb dX8_toasts_25 (by decide) ?_
        refine lv_icmp_lt (tgt := 35) hx hb dX8_toasts_26 (by decide) (fun c8 => ?_) (fun c8 => ?_)
        · have h := fw_t c8 h
          exact B35 _ _ _ _ _ h hP hD hS (lv_sub hl [] rfl)
        · have h := fw_f c8 h
          refine lv_iload_n hx hb dX8_toasts_29 rfl (lv_at hl 2 rfl) ?_
          refine lv_bipush (v := 60) hx hb dX8_toasts_30 (by decide) ?_
          refine lv_icmp_le (tgt := 37) hx hb dX8_toasts_32 (by decide) (fun c9 => ?_) (fun c9 => ?_)
          · have h := fw_t c9 h
            refine lv_iload_n hx hb dX8_toasts_37 rfl (lv_at hl 3 rfl) ?_
            refine lv_if_lt (tgt := 58) hx hb dX8_toasts_38 (by decide) (fun c10 => ?_) (fun c10 => ?_)
            · have h := fw_t c10 h
              exact B58 _ _ _ _ _ h hP hD hS (lv_sub hl [] rfl)
            · have h := fw_f c10 h
              refine lv_iload_n hx hb dX8_toasts_41 rfl (lv_at hl 3 rfl) ?_
              refine lv_bipush (v := 100) hx hb dX8_toasts_42 (by decide) ?_
              refine lv_icmp_gt (tgt := 58) hx hb dX8_toasts_44 (by decide) (fun c11 => ?_) (fun c11 => ?_)
              · have h := fw_t c11 h
                exact B58 _ _ _ _ _ h hP hD hS (lv_sub hl [] rfl)
              · have h := fw_f c11 h
                refine lv_iload hx hb dX8_toasts_47 (lv_at hl 4 rfl) ?_
                refine lv_if_lt (tgt := 58) hx hb dX8_toasts_49 (by decide) (fun c12 => ?_) (fun c12 => ?_)
                · have h := fw_t c12 h
                  exact B58 _ _ _ _ _ h hP hD hS (lv_sub hl [] rfl)
                · have h := fw_f c12 h
                  refine lv_iload hx hb dX8_toasts_52 (lv_at hl 4 rfl) ?_
                  refine lv_iconst (v := 1) hx hb dX8_toasts_54 (by decide) ?_
                  refine lv_icmp_le (tgt := 60) hx hb dX8_toasts_55 (by decide) (fun c13 => ?_) (fun c13 => ?_)
                  · have h := fw_t c13 h
                    refine lv_aload_n hx hb dX8_toasts_60 rfl (lv_at hl 0 rfl) ?_
                    refine va_get (D := D) (ci := 6) (v := .ref (sa 0)) (C := RX8) (T := TX8) (N := 12) hx hb hts in8 hown hG.1 hP 0 rfl rfl 3 (by decide) (hts (.fieldLink RX8 29 "ChairCane" "now" "LChairCane$Standing;") (mem_b bq_wsX8_toasts 0 0 rfl)) (fun _ h9 => h9) rfl dX8_toasts_61 ?_
                    refine va_get (D := D) (ci := 4) (v := .int (si 4)) (C := RX6) (T := TX6) (N := 5) hx hb hts in6 hown hG.1 hP 2 rfl rfl 4 (by decide) (hts (.fieldLink RX8 292 "ChairCane$Standing" "x" "I") (mem_b bq_wsX8_toasts 0 3 rfl)) (fun _ h9 => h9) rfl dX8_toasts_64 ?_
                    refine lv_istore (lv' := [(5, .int (si 4)), (0, .ref (xo 0)), (1, .int x1), (2, .int x2), (3, .int x3), (4, .int x4)]) hx hb dX8_toasts_67 hl (by decide) rfl (fun ls hl => ?_)
                    refine lv_iconst (v := 0) hx hb dX8_toasts_69 (by decide) ?_
                    refine lv_istore (lv' := [(6, .int 0), (5, .int (si 4)), (0, .ref (xo 0)), (1, .int x1), (2, .int x2), (3, .int x3), (4, .int x4)]) hx hb dX8_toasts_70 hl (by decide) rfl (fun ls hl => ?_)
                    refine lv_iconst (v := 0) hx hb dX8_toasts_72 (by decide) ?_
                    refine lv_istore (lv' := [(7, .int 0), (6, .int 0), (5, .int (si 4)), (0, .ref (xo 0)), (1, .int x1), (2, .int x2), (3, .int x3), (4, .int x4)]) hx hb dX8_toasts_73 hl (by decide) rfl (fun ls hl => ?_)
                    exact C75 _ _ _ _ _ _ _ _ _ h _ _ _ hP hD hS (lv_sub hl [3, 4, 5, 6, 7, 2, 1, 0] rfl)
                  · have h := fw_f c13 h
                    exact B58 _ _ _ _ _ h hP hD hS (lv_sub hl [] rfl)
          · have h := fw_f c9 h
            exact B35 _ _ _ _ _ h hP hD hS (lv_sub hl [] rfl)
noncomputable def f_X8_count (F : Nat)  (x1 : Int32) (xi : Nat → Int32) (tp : OB) (si : Nat → Int32) (rm : OB) (ac : OB) (nt : OB) : Option (Int32) :=
  if x1 = 0 then (some (rm.1 1)) else if x1 = 1 then (some (rm.1 2)) else if x1 = 2 then (some (rm.1 3)) else if x1 = 3 then (some (xi 2)) else if x1 = 4 then (some (si 3)) else if x1 = 5 then (some (rm.1 12)) else if x1 = 6 then (some (rm.1 10)) else if x1 = 7 then (some (rm.1 11)) else if x1 = 8 then (Option.bind (f_X3_givesInAll F rm) (fun q10 => (some q10))) else if x1 = 9 then (some (nt.1 3)) else if x1 = 10 then (some (ac.1 4)) else if x1 = 11 then (some (si 4)) else if x1 = 12 then (some (tp.1 1)) else (some (-1))
set_option maxHeartbeats 4000000 in
set_option maxRecDepth 100000 in
theorem c_X8_count (l : Launch) (D : va_G) (k : Nat → ClassId) (sz : Nat)  (xo : Nat → Nat) (ta : Nat → Nat) (xr : Nat) (sa : Nat → Nat) (xm : Nat) (xg : Nat) (tr : Nat → Nat) (xs : Nat) (xp : Nat) (xq : Nat) (xe : Nat) (xt : Nat) (xa : Nat → Nat) (ca : Nat → Nat) (na : Nat → Nat) (F : Nat)  (x1 : Int32) (xi : Nat → Int32) (tp : OB) (si : Nat → Int32) (rm : OB) (ac : OB) (nt : OB)  {res : Int32} (h : f_X8_count F x1 xi tp si rm ac nt = some res) : CtI l yX8_count wsX8_count (rmK 3 0 0) [.ref (xo 0), .int x1] D k sz (([((xo 0), .inr (6, [.ref (ta 0), .ref xr, .int (xi 2), .ref (sa 0), .ref xm, .ref xg, .ref (tr 0), .ref xs, .ref xp, .ref xq, .ref xe, .ref xt]))] : va_W) ++ (tpW k ta tp ++ (([((sa 0), .inr (4, [.ref (xa 0), .ref (ca 0), .ref (na 0), .int (si 3), .int (si 4)]))] : va_W) ++ (rmW k xa rm ++ (acW k ca ac ++ (ntW k na nt)))))) (fun r (_ : Unit) => r = res) (fun _ : Unit => ([((xo 0), .inr (6, [.ref (ta 0), .ref xr, .int (xi 2), .ref (sa 0), .ref xm, .ref xg, .ref (tr 0), .ref xs, .ref xp, .ref xq, .ref xe, .ref xt]))] : va_W) ++ (tpW k ta tp ++ (([((sa 0), .inr (4, [.ref (xa 0), .ref (ca 0), .ref (na 0), .int (si 3), .int (si 4)]))] : va_W) ++ (rmW k xa rm ++ (acW k ca ac ++ (ntW k na nt)))))) 0 0 := by
  refine CtI.mk (cc := cX8_count) (maxL := 3) (ret := (some .int)) (by decide) rfl (Nat.le_of_ble_eq_true rfl) ?_
  intro p e s m below meth c A ls E hP hD hS hl
  obtain ⟨hx, hb, hr, hml, hown, hts, hlocks, hin, hG, hA⟩ := E
  have hown : s.vm.findClass RX8 = some m.cls := hown
  have in0 : ∀ w ∈ u_ws RX0 TX0 5, w ∈ wsX8_count := fun _ h => List.mem_cons_of_mem _ (List.mem_append_left _ (List.mem_append_right _ h))
  have in2 : ∀ w ∈ u_ws RX2 TX2 4, w ∈ wsX8_count := fun _ h => List.mem_cons_of_mem _ (List.mem_append_left _ (List.mem_append_left _ (List.mem_append_right _ h)))
  have in3 : ∀ w ∈ u_ws RX3 TX3 17, w ∈ wsX8_count := fun _ h => List.mem_cons_of_mem _ (List.mem_append_left _ (List.mem_append_left _ (List.mem_append_left _ (List.mem_append_right _ h))))
  have in6 : ∀ w ∈ u_ws RX6 TX6 5, w ∈ wsX8_count := fun _ h => List.mem_cons_of_mem _ (List.mem_append_left _ (List.mem_append_left _ (List.mem_append_left _ (List.mem_append_left _ (List.mem_append_right _ h)))))
  have in7 : ∀ w ∈ u_ws RX7 TX7 8, w ∈ wsX8_count := fun _ h => List.mem_cons_of_mem _ (List.mem_append_right _ h)
  have in8 : ∀ w ∈ u_ws RX8 TX8 12, w ∈ wsX8_count := fun _ h => List.mem_cons_of_mem _ (List.mem_append_left _ (List.mem_append_left _ (List.mem_append_left _ (List.mem_append_left _ (List.mem_append_left _ (List.mem_append_right _ h))))))
  have hl : lv_has ls 3 [(0, .ref (xo 0)), (1, .int x1)] := hl
  refine lv_aload_n hx hb dX8_count_0 rfl (lv_at hl 0 rfl) ?_
  refine va_get (D := D) (ci := 6) (v := .ref (sa 0)) (C := RX8) (T := TX8) (N := 12) hx hb hts in8 hown hG.1 hP 0 rfl rfl 3 (by decide) (hts (.fieldLink RX8 29 "ChairCane" "now" "LChairCane$Standing;") (mem_b bq_wsX8_count 0 0 rfl)) (fun _ h9 => h9) rfl dX8_count_1 ?_
  refine va_get (D := D) (ci := 4) (v := .ref (xa 0)) (C := RX6) (T := TX6) (N := 5) hx hb hts in6 hown hG.1 hP 6 rfl rfl 0 (by decide) (hts (.fieldLink RX8 81 "ChairCane$Standing" "room" "LChairCane$Room;") (mem_b bq_wsX8_count 0 1 rfl)) (fun _ h9 => h9) rfl dX8_count_4 ?_
  refine lv_astore_n (lv' := [(2, .ref (xa 0)), (0, .ref (xo 0)), (1, .int x1)]) hx hb dX8_count_7 rfl hl (by decide) rfl (fun ls hl => ?_)
  refine lv_iload_n hx hb dX8_count_8 rfl (lv_at hl 2 rfl) ?_
  by_cases c1 : x1 = 0
  · have h := fw_t c1 h
    refine lv_tableIn (off := 67) (tgt := 76) hx hb dX8_count_9 (by rw [c1]; decide) (by rw [c1]; decide) (by rw [c1]; rfl) (by decide) ?_
    refine lv_aload_n hx hb dX8_count_76 rfl (lv_at hl 0 rfl) ?_
    refine va_get (D := D) (ci := 2) (v := .int (rm.1 1)) (C := RX3) (T := TX3) (N := 17) hx hb hts in3 hown hG.1 hP 7 rfl rfl 1 (by decide) (hts (.fieldLink RX8 247 "ChairCane$Room" "strands" "I") (mem_b bq_wsX8_count 0 2 rfl)) (fun _ h9 => h9) rfl dX8_count_77 ?_
    exact fw_endI (rv := fun b : Int32 => b) (wp := fun b : Int32 => ([((xo 0), .inr (6, [.ref (ta 0), .ref xr, .int (xi 2), .ref (sa 0), .ref xm, .ref xg, .ref (tr 0), .ref xs, .ref xp, .ref xq, .ref xe, .ref xt]))] : va_W) ++ (tpW k ta tp ++ (([((sa 0), .inr (4, [.ref (xa 0), .ref (ca 0), .ref (na 0), .int (si 3), .int (si 4)]))] : va_W) ++ (rmW k xa rm ++ (acW k ca ac ++ (ntW k na nt)))))) hx hb hr hlocks h rfl hP hD hS dX8_count_80
  have h := fw_f c1 h
  by_cases c2 : x1 = 1
  · have h := fw_t c2 h
    refine lv_tableIn (off := 72) (tgt := 81) hx hb dX8_count_9 (by rw [c2]; decide) (by rw [c2]; decide) (by rw [c2]; rfl) (by decide) ?_
    refine lv_aload_n hx hb dX8_count_81 rfl (lv_at hl 0 rfl) ?_
    refine va_get (D := D) (ci := 2) (v := .int (rm.1 2)) (C := RX3) (T := TX3) (N := 17) hx hb hts in3 hown hG.1 hP 7 rfl rfl 2 (by decide) (hts (.fieldLink RX8 315 "ChairCane$Room" "chairs" "I") (mem_b bq_wsX8_count 0 3 rfl)) (fun _ h9 => h9) rfl dX8_count_82 ?_
    exact fw_endI (rv := fun b : Int32 => b) (wp := fun b : Int32 => ([((xo 0), .inr (6, [.ref (ta 0), .ref xr, .int (xi 2), .ref (sa 0), .ref xm, .ref xg, .ref (tr 0), .ref xs, .ref xp, .ref xq, .ref xe, .ref xt]))] : va_W) ++ (tpW k ta tp ++ (([((sa 0), .inr (4, [.ref (xa 0), .ref (ca 0), .ref (na 0), .int (si 3), .int (si 4)]))] : va_W) ++ (rmW k xa rm ++ (acW k ca ac ++ (ntW k na nt)))))) hx hb hr hlocks h rfl hP hD hS dX8_count_85
  have h := fw_f c2 h
  by_cases c3 : x1 = 2
  · have h := fw_t c3 h
    refine lv_tableIn (off := 77) (tgt := 86) hx hb dX8_count_9 (by rw [c3]; decide) (by rw [c3]; decide) (by rw [c3]; rfl) (by decide) ?_
    refine lv_aload_n hx hb dX8_count_86 rfl (lv_at hl 0 rfl) ?_
    refine va_get (D := D) (ci := 2) (v := .int (rm.1 3)) (C := RX3) (T := TX3) (N := 17) hx hb hts in3 hown hG.1 hP 7 rfl rfl 3 (by decide) (hts (.fieldLink RX8 104 "ChairCane$Room" "sitters" "I") (mem_b bq_wsX8_count 0 4 rfl)) (fun _ h9 => h9) rfl dX8_count_87 ?_
    exact fw_endI (rv := fun b : Int32 => b) (wp := fun b : Int32 => ([((xo 0), .inr (6, [.ref (ta 0), .ref xr, .int (xi 2), .ref (sa 0), .ref xm, .ref xg, .ref (tr 0), .ref xs, .ref xp, .ref xq, .ref xe, .ref xt]))] : va_W) ++ (tpW k ta tp ++ (([((sa 0), .inr (4, [.ref (xa 0), .ref (ca 0), .ref (na 0), .int (si 3), .int (si 4)]))] : va_W) ++ (rmW k xa rm ++ (acW k ca ac ++ (ntW k na nt)))))) hx hb hr hlocks h rfl hP hD hS dX8_count_90
  have h := fw_f c3 h
  by_cases c4 : x1 = 3
  · have h := fw_t c4 h
    refine lv_tableIn (off := 82) (tgt := 91) hx hb dX8_count_9 (by rw [c4]; decide) (by rw [c4]; decide) (by rw [c4]; rfl) (by decide) ?_
    refine lv_aload_n hx hb dX8_count_91 rfl (lv_at hl 1 rfl) ?_
    refine va_get (D := D) (ci := 6) (v := .int (xi 2)) (C := RX8) (T := TX8) (N := 12) hx hb hts in8 hown hG.1 hP 0 rfl rfl 2 (by decide) (hts (.fieldLink RX8 22 "ChairCane" "ruleCount" "I") (mem_b bq_wsX8_count 0 5 rfl)) (fun _ h9 => h9) rfl dX8_count_92 ?_
    exact fw_endI (rv := fun b : Int32 => b) (wp := fun b : Int32 => ([((xo 0), .inr (6, [.ref (ta 0), .ref xr, .int (xi 2), .ref (sa 0), .ref xm, .ref xg, .ref (tr 0), .ref xs, .ref xp, .ref xq, .ref xe, .ref xt]))] : va_W) ++ (tpW k ta tp ++ (([((sa 0), .inr (4, [.ref (xa 0), .ref (ca 0), .ref (na 0), .int (si 3), .int (si 4)]))] : va_W) ++ (rmW k xa rm ++ (acW k ca ac ++ (ntW k na nt)))))) hx hb hr hlocks h rfl hP hD hS dX8_count_95
  have h := fw_f c4 h
  by_cases c5 : x1 = 4
  · have h := fw_t c5 h
    refine lv_tableIn (off := 87) (tgt := 96) hx hb dX8_count_9 (by rw [c5]; decide) (by rw [c5]; decide) (by rw [c5]; rfl) (by decide) ?_
    refine lv_aload_n hx hb dX8_count_96 rfl (lv_at hl 1 rfl) ?_
    refine va_get (D := D) (ci := 6) (v := .ref (sa 0)) (C := RX8) (T := TX8) (N := 12) hx hb hts in8 hown hG.1 hP 0 rfl rfl 3 (by decide) (hts (.fieldLink RX8 29 "ChairCane" "now" "LChairCane$Standing;") (mem_b bq_wsX8_count 0 0 rfl)) (fun _ h9 => h9) rfl dX8_count_97 ?_
    refine va_get (D := D) (ci := 4) (v := .int (si 3)) (C := RX6) (T := TX6) (N := 5) hx hb hts in6 hown hG.1 hP 6 rfl rfl 3 (by decide) (hts (.fieldLink RX8 112 "ChairCane$Standing" "inForce" "I") (mem_b bq_wsX8_count 0 6 rfl)) (fun _ h9 => h9) rfl dX8_count_100 ?_
    exact fw_endI (rv := fun b : Int32 => b) (wp := fun b : Int32 => ([((xo 0), .inr (6, [.ref (ta 0), .ref xr, .int (xi 2), .ref (sa 0), .ref xm, .ref xg, .ref (tr 0), .ref xs, .ref xp, .ref xq, .ref xe, .ref xt]))] : va_W) ++ (tpW k ta tp ++ (([((sa 0), .inr (4, [.ref (xa 0), .ref (ca 0), .ref (na 0), .int (si 3), .int (si 4)]))] : va_W) ++ (rmW k xa rm ++ (acW k ca ac ++ (ntW k na nt)))))) hx hb hr hlocks h rfl hP hD hS dX8_count_103
  have h := fw_f c5 h
  by_cases c6 : x1 = 5
  · have h := fw_t c6 h
    refine lv_tableIn (off := 95) (tgt := 104) hx hb dX8_count_9 (by rw [c6]; decide) (by rw [c6]; decide) (by rw [c6]; rfl) (by decide) ?_
    refine lv_aload_n hx hb dX8_count_104 rfl (lv_at hl 0 rfl) ?_
    refine va_get (D := D) (ci := 2) (v := .int (rm.1 12)) (C := RX3) (T := TX3) (N := 17) hx hb hts in3 hown hG.1 hP 7 rfl rfl 12 (by decide) (hts (.fieldLink RX8 154 "ChairCane$Room" "minute" "I") (mem_b bq_wsX8_count 0 7 rfl)) (fun _ h9 => h9) rfl dX8_count_105 ?_
    exact fw_endI (rv := fun b : Int32 => b) (wp := fun b : Int32 => ([((xo 0), .inr (6, [.ref (ta 0), .ref xr, .int (xi 2), .ref (sa 0), .ref xm, .ref xg, .ref (tr 0), .ref xs, .ref xp, .ref xq, .ref xe, .ref xt]))] : va_W) ++ (tpW k ta tp ++ (([((sa 0), .inr (4, [.ref (xa 0), .ref (ca 0), .ref (na 0), .int (si 3), .int (si 4)]))] : va_W) ++ (rmW k xa rm ++ (acW k ca ac ++ (ntW k na nt)))))) hx hb hr hlocks h rfl hP hD hS dX8_count_108
  have h := fw_f c6 h
  by_cases c7 : x1 = 6
  · have h := fw_t c7 h
    refine lv_tableIn (off := 100) (tgt := 109) hx hb dX8_count_9 (by rw [c7]; decide) (by rw [c7]; decide) (by rw [c7]; rfl) (by decide) ?_
    refine lv_aload_n hx hb dX8_count_109 rfl (lv_at hl 0 rfl) ?_
    refine va_get (D := D) (ci := 2) (v := .int (rm.1 10)) (C := RX3) (T := TX3) (N := 17) hx hb hts in3 hown hG.1 hP 7 rfl rfl 10 (by decide) (hts (.fieldLink RX8 200 "ChairCane$Room" "sits" "I") (mem_b bq_wsX8_count 0 8 rfl)) (fun _ h9 => h9) rfl dX8_count_110 ?_
    exact fw_endI (rv := fun b : Int32 => b) (wp := fun b : Int32 => ([((xo 0), .inr (6, [.ref (ta 0), .ref xr, .int (xi 2), .ref (sa 0), .ref xm, .ref xg, .ref (tr 0), .ref xs, .ref xp, .ref xq, .ref xe, .ref xt]))] : va_W) ++ (tpW k ta tp ++ (([((sa 0), .inr (4, [.ref (xa 0), .ref (ca 0), .ref (na 0), .int (si 3), .int (si 4)]))] : va_W) ++ (rmW k xa rm ++ (acW k ca ac ++ (ntW k na nt)))))) hx hb hr hlocks h rfl hP hD hS dX8_count_113
  have h := fw_f c7 h
  by_cases c8 : x1 = 7
  · have h := fw_t c8 h
    refine lv_tableIn (off := 105) (tgt := 114) hx hb dX8_count_9 (by rw [c8]; decide) (by rw [c8]; decide) (by rw [c8]; rfl) (by decide) ?_
    refine lv_aload_n hx hb dX8_count_114 rfl (lv_at hl 0 rfl) ?_
    refine va_get (D := D) (ci := 2) (v := .int (rm.1 11)) (C := RX3) (T := TX3) (N := 17) hx hb hts in3 hown hG.1 hP 7 rfl rfl 11 (by decide) (hts (.fieldLink RX8 179 "ChairCane$Room" "dropped" "I") (mem_b bq_wsX8_count 0 9 rfl)) (fun _ h9 => h9) rfl dX8_count_115 ?_
    exact fw_endI (rv := fun b : Int32 => b) (wp := fun b : Int32 => ([((xo 0), .inr (6, [.ref (ta 0), .ref xr, .int (xi 2), .ref (sa 0), .ref xm, .ref xg, .ref (tr 0), .ref xs, .ref xp, .ref xq, .ref xe, .ref xt]))] : va_W) ++ (tpW k ta tp ++ (([((sa 0), .inr (4, [.ref (xa 0), .ref (ca 0), .ref (na 0), .int (si 3), .int (si 4)]))] : va_W) ++ (rmW k xa rm ++ (acW k ca ac ++ (ntW k na nt)))))) hx hb hr hlocks h rfl hP hD hS dX8_count_118
  have h := fw_f c8 h
  by_cases c9 : x1 = 8
  · have h := fw_t c9 h
    refine lv_tableIn (off := 110) (tgt := 119) hx hb dX8_count_9 (by rw [c9]; decide) (by rw [c9]; decide) (by rw [c9]; rfl) (by decide) ?_
    refine lv_aload_n hx hb dX8_count_119 rfl (lv_at hl 0 rfl) ?_
    refine fw_Vi (As := []) (rest := []) (n := 0) (wr := ([((xo 0), .inr (6, [.ref (ta 0), .ref xr, .int (xi 2), .ref (sa 0), .ref xm, .ref xg, .ref (tr 0), .ref xs, .ref xp, .ref xq, .ref xe, .ref xt]))] : va_W) ++ (tpW k ta tp ++ (([((sa 0), .inr (4, [.ref (xa 0), .ref (ca 0), .ref (na 0), .int (si 3), .int (si 4)]))] : va_W) ++ (acW k ca ac ++ (ntW k na nt))))) (rv := fun b : Int32 => b) (wp := fun b : Int32 => rmW k xa rm) h hx hb hml hown hts hG hA hP hD hS hl.1 [7, 8, 9, 10, 11, 12, 13, 14, 15] [0, 1, 2, 3, 4, 5, 6, 16, 17, 18, 19, 20, 21, 22, 23] (fun q hq9 => c_X3_givesInAll l D k _  xa F  rm  hq9) (ci := 2) (q0 := 7) rfl rfl gX8_count_X3_givesInAll rfl ⟨rfl, rfl, Nat.le_of_ble_eq_true rfl, Nat.le_of_ble_eq_true rfl⟩ (by decide +kernel) rfl rfl ⟨by decide +kernel, by decide +kernel, by decide +kernel⟩ ⟨rfl, rfl, Nat.le_of_ble_eq_true rfl, Nat.le_of_ble_eq_true rfl, Nat.le_of_ble_eq_true rfl⟩ dX8_count_120 (fun q10 H locs h hP hD hS => ?_)
    have hP : va_P D vwCl (([((xo 0), .inr (6, [.ref (ta 0), .ref xr, .int (xi 2), .ref (sa 0), .ref xm, .ref xg, .ref (tr 0), .ref xs, .ref xp, .ref xq, .ref xe, .ref xt]))] : va_W) ++ (tpW k ta tp ++ (([((sa 0), .inr (4, [.ref (xa 0), .ref (ca 0), .ref (na 0), .int (si 3), .int (si 4)]))] : va_W) ++ (acW k ca ac ++ (ntW k na nt ++ (rmW k xa rm)))))) H := hP
    have hD : va_D A (([((xo 0), .inr (6, [.ref (ta 0), .ref xr, .int (xi 2), .ref (sa 0), .ref xm, .ref xg, .ref (tr 0), .ref xs, .ref xp, .ref xq, .ref xe, .ref xt]))] : va_W) ++ (tpW k ta tp ++ (([((sa 0), .inr (4, [.ref (xa 0), .ref (ca 0), .ref (na 0), .int (si 3), .int (si 4)]))] : va_W) ++ (acW k ca ac ++ (ntW k na nt ++ (rmW k xa rm)))))) := hD
    refine hc_is (z := q10) rfl ?_
    exact fw_endI (rv := fun b : Int32 => b) (wp := fun b : Int32 => ([((xo 0), .inr (6, [.ref (ta 0), .ref xr, .int (xi 2), .ref (sa 0), .ref xm, .ref xg, .ref (tr 0), .ref xs, .ref xp, .ref xq, .ref xe, .ref xt]))] : va_W) ++ (tpW k ta tp ++ (([((sa 0), .inr (4, [.ref (xa 0), .ref (ca 0), .ref (na 0), .int (si 3), .int (si 4)]))] : va_W) ++ (rmW k xa rm ++ (acW k ca ac ++ (ntW k na nt)))))) hx hb hr hlocks h rfl (hP.sub [0, 1, 2, 3, 4, 5, 6, 15, 16, 17, 18, 19, 20, 21, 22, 23, 7, 8, 9, 10, 11, 12, 13, 14] rfl) (hD.sub [0, 1, 2, 3, 4, 5, 6, 15, 16, 17, 18, 19, 20, 21, 22, 23, 7, 8, 9, 10, 11, 12, 13, 14] (by decide +kernel) rfl) hS dX8_count_123
  have h := fw_f c9 h
  by_cases c11 : x1 = 9
  · have h := fw_t c11 h
    refine lv_tableIn (off := 115) (tgt := 124) hx hb dX8_count_9 (by rw [c11]; decide) (by rw [c11]; decide) (by rw [c11]; rfl) (by decide) ?_
    refine lv_aload_n hx hb dX8_count_124 rfl (lv_at hl 1 rfl) ?_
    refine va_get (D := D) (ci := 6) (v := .ref (sa 0)) (C := RX8) (T := TX8) (N := 12) hx hb hts in8 hown hG.1 hP 0 rfl rfl 3 (by decide) (hts (.fieldLink RX8 29 "ChairCane" "now" "LChairCane$Standing;") (mem_b bq_wsX8_count 0 0 rfl)) (fun _ h9 => h9) rfl dX8_count_125 ?_
    refine va_get (D := D) (ci := 4) (v := .ref (na 0)) (C := RX6) (T := TX6) (N := 5) hx hb hts in6 hown hG.1 hP 6 rfl rfl 2 (by decide) (hts (.fieldLink RX8 97 "ChairCane$Standing" "notes" "LChairCane$Notes;") (mem_b bq_wsX8_count 0 10 rfl)) (fun _ h9 => h9) rfl dX8_count_128 ?_
    refine va_get (D := D) (ci := 1) (v := .int (nt.1 3)) (C := RX2) (T := TX2) (N := 4) hx hb hts in2 hown hG.1 hP 20 rfl rfl 3 (by decide) (hts (.fieldLink RX8 244 "ChairCane$Notes" "many" "I") (mem_b bq_wsX8_count 0 11 rfl)) (fun _ h9 => h9) rfl dX8_count_131 ?_
    exact fw_endI (rv := fun b : Int32 => b) (wp := fun b : Int32 => ([((xo 0), .inr (6, [.ref (ta 0), .ref xr, .int (xi 2), .ref (sa 0), .ref xm, .ref xg, .ref (tr 0), .ref xs, .ref xp, .ref xq, .ref xe, .ref xt]))] : va_W) ++ (tpW k ta tp ++ (([((sa 0), .inr (4, [.ref (xa 0), .ref (ca 0), .ref (na 0), .int (si 3), .int (si 4)]))] : va_W) ++ (rmW k xa rm ++ (acW k ca ac ++ (ntW k na nt)))))) hx hb hr hlocks h rfl hP hD hS dX8_count_134
  have h := fw_f c11 h
  by_cases c12 : x1 = 10
  · have h := fw_t c12 h
    refine lv_tableIn (off := 126) (tgt := 135) hx hb dX8_count_9 (by rw [c12]; decide) (by rw [c12]; decide) (by rw [c12]; rfl) (by decide) ?_
    refine lv_aload_n hx hb dX8_count_135 rfl (lv_at hl 1 rfl) ?_
    refine va_get (D := D) (ci := 6) (v := .ref (sa 0)) (C := RX8) (T := TX8) (N := 12) hx hb hts in8 hown hG.1 hP 0 rfl rfl 3 (by decide) (hts (.fieldLink RX8 29 "ChairCane" "now" "LChairCane$Standing;") (mem_b bq_wsX8_count 0 0 rfl)) (fun _ h9 => h9) rfl dX8_count_136 ?_
    refine va_get (D := D) (ci := 4) (v := .ref (ca 0)) (C := RX6) (T := TX6) (N := 5) hx hb hts in6 hown hG.1 hP 6 rfl rfl 1 (by decide) (hts (.fieldLink RX8 88 "ChairCane$Standing" "acts" "LChairCane$Acts;") (mem_b bq_wsX8_count 0 12 rfl)) (fun _ h9 => h9) rfl dX8_count_139 ?_
    refine va_get (D := D) (ci := 0) (v := .int (ac.1 4)) (C := RX0) (T := TX0) (N := 5) hx hb hts in0 hown hG.1 hP 16 rfl rfl 4 (by decide) (hts (.fieldLink RX8 187 "ChairCane$Acts" "kept" "I") (mem_b bq_wsX8_count 0 13 rfl)) (fun _ h9 => h9) rfl dX8_count_142 ?_
    exact fw_endI (rv := fun b : Int32 => b) (wp := fun b : Int32 => ([((xo 0), .inr (6, [.ref (ta 0), .ref xr, .int (xi 2), .ref (sa 0), .ref xm, .ref xg, .ref (tr 0), .ref xs, .ref xp, .ref xq, .ref xe, .ref xt]))] : va_W) ++ (tpW k ta tp ++ (([((sa 0), .inr (4, [.ref (xa 0), .ref (ca 0), .ref (na 0), .int (si 3), .int (si 4)]))] : va_W) ++ (rmW k xa rm ++ (acW k ca ac ++ (ntW k na nt)))))) hx hb hr hlocks h rfl hP hD hS dX8_count_145
  have h := fw_f c12 h
  by_cases c13 : x1 = 11
  · have h := fw_t c13 h
    refine lv_tableIn (off := 137) (tgt := 146) hx hb dX8_count_9 (by rw [c13]; decide) (by rw [c13]; decide) (by rw [c13]; rfl) (by decide) ?_
    refine lv_aload_n hx hb dX8_count_146 rfl (lv_at hl 1 rfl) ?_
    refine va_get (D := D) (ci := 6) (v := .ref (sa 0)) (C := RX8) (T := TX8) (N := 12) hx hb hts in8 hown hG.1 hP 0 rfl rfl 3 (by decide) (hts (.fieldLink RX8 29 "ChairCane" "now" "LChairCane$Standing;") (mem_b bq_wsX8_count 0 0 rfl)) (fun _ h9 => h9) rfl dX8_count_147 ?_
    refine va_get (D := D) (ci := 4) (v := .int (si 4)) (C := RX6) (T := TX6) (N := 5) hx hb hts in6 hown hG.1 hP 6 rfl rfl 4 (by decide) (hts (.fieldLink RX8 292 "ChairCane$Standing" "x" "I") (mem_b bq_wsX8_count 0 14 rfl)) (fun _ h9 => h9) rfl dX8_count_150 ?_
    exact fw_endI (rv := fun b : Int32 => b) (wp := fun b : Int32 => ([((xo 0), .inr (6, [.ref (ta 0), .ref xr, .int (xi 2), .ref (sa 0), .ref xm, .ref xg, .ref (tr 0), .ref xs, .ref xp, .ref xq, .ref xe, .ref xt]))] : va_W) ++ (tpW k ta tp ++ (([((sa 0), .inr (4, [.ref (xa 0), .ref (ca 0), .ref (na 0), .int (si 3), .int (si 4)]))] : va_W) ++ (rmW k xa rm ++ (acW k ca ac ++ (ntW k na nt)))))) hx hb hr hlocks h rfl hP hD hS dX8_count_153
  have h := fw_f c13 h
  by_cases c14 : x1 = 12
  · have h := fw_t c14 h
    refine lv_tableIn (off := 145) (tgt := 154) hx hb dX8_count_9 (by rw [c14]; decide) (by rw [c14]; decide) (by rw [c14]; rfl) (by decide) ?_
    refine lv_aload_n hx hb dX8_count_154 rfl (lv_at hl 1 rfl) ?_
    refine va_get (D := D) (ci := 6) (v := .ref (ta 0)) (C := RX8) (T := TX8) (N := 12) hx hb hts in8 hown hG.1 hP 0 rfl rfl 0 (by decide) (hts (.fieldLink RX8 10 "ChairCane" "tape" "LChairCane$Tape;") (mem_b bq_wsX8_count 0 15 rfl)) (fun _ h9 => h9) rfl dX8_count_155 ?_
    refine va_get (D := D) (ci := 5) (v := .int (tp.1 1)) (C := RX7) (T := TX7) (N := 8) hx hb hts in7 hown hG.1 hP 1 rfl rfl 1 (by decide) (hts (.fieldLink RX8 65 "ChairCane$Tape" "length" "I") (mem_b bq_wsX8_count 0 16 rfl)) (fun _ h9 => h9) rfl dX8_count_158 ?_
    exact fw_endI (rv := fun b : Int32 => b) (wp := fun b : Int32 => ([((xo 0), .inr (6, [.ref (ta 0), .ref xr, .int (xi 2), .ref (sa 0), .ref xm, .ref xg, .ref (tr 0), .ref xs, .ref xp, .ref xq, .ref xe, .ref xt]))] : va_W) ++ (tpW k ta tp ++ (([((sa 0), .inr (4, [.ref (xa 0), .ref (ca 0), .ref (na 0), .int (si 3), .int (si 4)]))] : va_W) ++ (rmW k xa rm ++ (acW k ca ac ++ (ntW k na nt)))))) hx hb hr hlocks h rfl hP hD hS dX8_count_161
  have h := fw_f c14 h
  simp only [sp_eq, show (0 : Int32).toInt = 0 from by decide, show (1 : Int32).toInt = 1 from by decide, show (2 : Int32).toInt = 2 from by decide, show (3 : Int32).toInt = 3 from by decide, show (4 : Int32).toInt = 4 from by decide, show (5 : Int32).toInt = 5 from by decide, show (6 : Int32).toInt = 6 from by decide, show (7 : Int32).toInt = 7 from by decide, show (8 : Int32).toInt = 8 from by decide, show (9 : Int32).toInt = 9 from by decide, show (10 : Int32).toInt = 10 from by decide, show (11 : Int32).toInt = 11 from by decide, show (12 : Int32).toInt = 12 from by decide] at c1 c2 c3 c4 c5 c6 c7 c8 c9 c11 c12 c13 c14
  refine lv_tableOut (tgt := 162) hx hb dX8_count_9 (by omega) (by decide) ?_
  refine lv_iconst (v := (-1)) hx hb dX8_count_162 (by decide) ?_
  exact fw_endI (rv := fun b : Int32 => b) (wp := fun b : Int32 => ([((xo 0), .inr (6, [.ref (ta 0), .ref xr, .int (xi 2), .ref (sa 0), .ref xm, .ref xg, .ref (tr 0), .ref xs, .ref xp, .ref xq, .ref xe, .ref xt]))] : va_W) ++ (tpW k ta tp ++ (([((sa 0), .inr (4, [.ref (xa 0), .ref (ca 0), .ref (na 0), .int (si 3), .int (si 4)]))] : va_W) ++ (rmW k xa rm ++ (acW k ca ac ++ (ntW k na nt)))))) hx hb hr hlocks h rfl hP hD hS dX8_count_163
