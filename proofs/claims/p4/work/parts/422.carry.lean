/-! rows that are carried to and fro -/
theorem row_cong {D : va_G} {cl : List vw_C} {ws : va_W} {H : Heap} {a n : Nat} {cA : ClassId} {f g : Nat → Int32} (hP : va_P D cl ws H) (i : Nat) (hi : ws[i]? = some (a, .inl (cA, n, .inl f))) (h : ∀ j, j < n → f j = g j) : va_P D cl (ws.set i (a, .inl (cA, n, .inl g))) H := by
  intro k q hq
  by_cases e : k = i
  · subst e
    have hl : k < ws.length := by
      rcases Nat.lt_or_ge k ws.length with h1 | h1
      · exact h1
      · rw [List.getElem?_eq_none h1] at hi; cases hi
    rw [List.getElem?_set_self hl] at hq
    cases hq
    have h2 : H[a]? = some (vp_cell cA (n, .inl f)) := hP k _ hi
    show H[a]? = some (vp_cell cA (n, .inl g))
    rw [h2]
    have h3 : (fun j : Fin n => Value.int (f j.val)) = fun j : Fin n => Value.int (g j.val) := funext (fun j => by rw [h j.val j.isLt])
    show some (arrV cA n (fun j => .int (f j))) = some (arrV cA n (fun j => .int (g j)))
    unfold arrV
    rw [h3]
  · rw [List.getElem?_set_ne (fun q => e q.symm)] at hq
    exact hP k q hq
def CpI (g0 g f : Nat → Int32) (a k : Int) : Prop := ∀ j : Nat, (a ≤ j → (j : Int) < a + k → g j = f ((j : Int) - a).toNat) ∧ (((j : Int) < a ∨ a + k ≤ j) → g j = g0 j)
theorem CpI_0 {g f : Nat → Int32} {a : Int} : CpI g g f a (0 : Int32).toInt := fun j => ⟨fun h1 h2 => by rw [sp0] at h2; omega, fun _ => rfl⟩
theorem CpI_s {g0 g g2 f : Nat → Int32} {a : Int} {k k2 w i : Int32} (h : CpI g0 g f a k.toInt) (h0 : 0 ≤ k.toInt) (ha : 0 ≤ a) (ei : i.toInt = a + k.toInt) (ek : k2.toInt = k.toInt + 1) (ew : w = f (Int32.toNatClampNeg k)) (eg : g2 = upd g (Int32.toNatClampNeg i) w) : CpI g0 g2 f a k2.toInt := by
  intro j
  have e1 := toNatClampNeg_toInt h0
  have e2 := toNatClampNeg_toInt (x := i) (by omega)
  by_cases hq : j = Int32.toNatClampNeg i
  · subst hq
    rw [eg, pk_us, ew]
    refine ⟨fun _ _ => ?_, fun h3 => by omega⟩
    congr 1
    omega
  · rw [eg, pk_un hq]
    exact ⟨fun h1 h2 => (h j).1 h1 (by omega), fun h3 => (h j).2 (by omega)⟩
theorem CpI.out {g0 g f : Nat → Int32} {a n : Int} (h : CpI g0 g f a n) {j : Nat} (hj : (j : Int) < a ∨ a + n ≤ j) : g j = g0 j := (h j).2 hj
theorem CpI.at {g0 g f : Nat → Int32} {a n : Int} (h : CpI g0 g f a n) {b i : Nat} (hb : (b : Int) = a) (hi : (i : Int) < n) : g (b + i) = f i := by
  rw [(h (b + i)).1 (by omega) (by omega)]
  congr 1
  omega
def CpO (f0 f g : Nat → Int32) (a k : Int) : Prop := ∀ j : Nat, ((j : Int) < k → f j = g (a + j).toNat) ∧ (k ≤ j → f j = f0 j)
theorem CpO_0 {f g : Nat → Int32} {a : Int} : CpO f f g a (0 : Int32).toInt := fun j => ⟨fun h => by rw [sp0] at h; omega, fun _ => rfl⟩
theorem CpO_s {f0 f f2 g : Nat → Int32} {a : Int} {k k2 w i : Int32} (h : CpO f0 f g a k.toInt) (h0 : 0 ≤ k.toInt) (ha : 0 ≤ a) (ei : i.toInt = a + k.toInt) (ek : k2.toInt = k.toInt + 1) (ew : w = g (Int32.toNatClampNeg i)) (eg : f2 = upd f (Int32.toNatClampNeg k) w) : CpO f0 f2 g a k2.toInt := by
  intro j
  have e1 := toNatClampNeg_toInt h0
  have e2 := toNatClampNeg_toInt (x := i) (by omega)
  by_cases hq : j = Int32.toNatClampNeg k
  · subst hq
    rw [eg, pk_us, ew]
    refine ⟨fun _ => ?_, fun h3 => by omega⟩
    congr 1
    omega
  · rw [eg, pk_un hq]
    exact ⟨fun h1 => (h j).1 (by omega), fun h3 => (h j).2 (by omega)⟩
theorem CpO.at {f0 f g : Nat → Int32} {a n : Int} (h : CpO f0 f g a n) {b i : Nat} (hb : (b : Int) = a) (hi : (i : Int) < n) : f i = g (b + i) := by
  rw [(h i).1 hi]
  congr 1
  omega
def Reg4 (g : Nat → Int32) (s0 s1 s2 s3 s4 s5 s6 s7 : Int32) (ca is so w : Nat → Int32) : Prop := (∀ j, j < 8 → g (1600 + j) = sc8 s0 s1 s2 s3 s4 s5 s6 s7 j) ∧ (∀ j, j < 4 → g (1608 + j) = ca j) ∧ (∀ j, j < 8 → g (1612 + j) = is j) ∧ (∀ j, j < 8 → g (1620 + j) = so j) ∧ ∀ j, j < 8 → g (1628 + j) = w j
/-! orders of entries that can be reckoned -/
def run (so nu : Nat → Int32) : Nat → Nat → Nat → Nat → Prop
  | 0, _, h, h2 => h = h2
  | n + 1, b, h, h2 => (((so b).toInt = 0 ∨ ((so b).toInt = 1 ∧ 0 ≤ (nu b).toInt ∧ (nu b).toInt ≤ 10)) ∧ run so nu n (b + 1) (h + 1) h2) ∨ ((so b).toInt = 9 ∧ 1 ≤ h ∧ run so nu n (b + 1) h h2) ∨ ((so b).toInt ≠ 0 ∧ (so b).toInt ≠ 1 ∧ (so b).toInt ≠ 9 ∧ 2 ≤ h ∧ run so nu n (b + 1) (h - 1) h2)
def RunFrom (so nu : Nat → Int32) (w k u n : Int) : Prop := ∃ h, run so nu (u - k).toNat (300 * w + k).toNat n.toNat h
/-- the next entry -/
theorem RunFrom.step {so nu : Nat → Int32} {w k u n : Int} {z v y : Int32} (h : RunFrom so nu w k u n) (hw : 0 ≤ w) (hk : 0 ≤ k) (hu : k < u) (hn : 0 ≤ n) (hz : z.toInt = 300 * w + k) (ev : v = so (Int32.toNatClampNeg z)) (ey : y = nu (Int32.toNatClampNeg z)) : ((v.toInt = 0 ∨ (v.toInt = 1 ∧ 0 ≤ y.toInt ∧ y.toInt ≤ 10)) ∧ RunFrom so nu w (k + 1) u (n + 1)) ∨ (v.toInt = 9 ∧ 1 ≤ n ∧ RunFrom so nu w (k + 1) u n) ∨ (v.toInt ≠ 0 ∧ v.toInt ≠ 1 ∧ v.toInt ≠ 9 ∧ 2 ≤ n ∧ RunFrom so nu w (k + 1) u (n - 1)) := by
  obtain ⟨h2, hr⟩ := h
  have e1 : (u - k).toNat = (u - (k + 1)).toNat + 1 := by omega
  have e2 := toNatClampNeg_toInt (x := z) (by omega)
  have e3 : (300 * w + k).toNat = Int32.toNatClampNeg z := by omega
  have e4 : (300 * w + (k + 1)).toNat = Int32.toNatClampNeg z + 1 := by omega
  rw [e1, e3] at hr
  unfold run at hr
  rw [← ev, ← ey] at hr
  unfold RunFrom
  rw [e4]
  rcases hr with ⟨q1, q2⟩ | ⟨q1, q2, q3⟩ | ⟨q1, q2, q3, q4, q5⟩
  · refine Or.inl ⟨q1, h2, ?_⟩
    rw [show (n + 1).toNat = n.toNat + 1 from by omega]
    exact q2
  · exact Or.inr (Or.inl ⟨q1, by omega, h2, q3⟩)
  · refine Or.inr (Or.inr ⟨q1, q2, q3, by omega, h2, ?_⟩)
    rw [show (n - 1).toNat = n.toNat - 1 from by omega]
    exact q5
def RulesOk (rl : Int32) (cl sa ta ea so nu : Nat → Int32) : Prop := ∀ r : Nat, (r : Int) < rl.toInt → (cl r).toInt ≤ 12 ∧ ∀ c : Nat, (c : Int) < (cl r).toInt → RunFrom so nu r (sa (12 * r + c)).toInt (ta (12 * r + c)).toInt 0 ∧ RunFrom so nu r (ta (12 * r + c)).toInt (ea (12 * r + c)).toInt 0
theorem RulesOk.cl {rl r z : Int32} {cl sa ta ea so nu : Nat → Int32} (h : RulesOk rl cl sa ta ea so nu) (h0 : 0 ≤ r.toInt) (h1 : r.toInt < rl.toInt) (ez : z = cl (Int32.toNatClampNeg r)) : z.toInt ≤ 12 := by
  have e := toNatClampNeg_toInt h0
  rw [ez]
  exact (h _ (by omega)).1
theorem RulesOk.two {rl r c z x y t : Int32} {cl sa ta ea so nu : Nat → Int32} (h : RulesOk rl cl sa ta ea so nu) (h0 : 0 ≤ r.toInt) (h1 : r.toInt < rl.toInt) (ez : z = cl (Int32.toNatClampNeg r)) (h2 : 12 * r.toInt ≤ c.toInt) (h3 : c.toInt < 12 * r.toInt + z.toInt) : RunFrom so nu r.toInt (sa (Int32.toNatClampNeg c)).toInt (ta (Int32.toNatClampNeg c)).toInt 0 ∧ RunFrom so nu r.toInt (ta (Int32.toNatClampNeg c)).toInt (ea (Int32.toNatClampNeg c)).toInt 0 := by
  have e := toNatClampNeg_toInt h0
  have e2 := toNatClampNeg_toInt (x := c) (by omega)
  have e3 : Int32.toNatClampNeg c = 12 * Int32.toNatClampNeg r + (Int32.toNatClampNeg c - 12 * Int32.toNatClampNeg r) := by omega
  have e4 := (h (Int32.toNatClampNeg r) (by omega)).2 (Int32.toNatClampNeg c - 12 * Int32.toNatClampNeg r) (by rw [← ez]; omega)
  rw [← e3, ← e] at e4
  exact e4
theorem dX9_carriesAll_0 : decode cX9_carriesAll 0 = .ok (.aload_n 0, 1) := by decide +kernel
theorem dX9_carriesAll_1 : decode cX9_carriesAll 1 = .ok (.sipush 400, 3) := by decide +kernel
theorem dX9_carriesAll_4 : decode cX9_carriesAll 4 = .ok (.iload_n 1, 1) := by decide +kernel
theorem dX9_carriesAll_5 : decode cX9_carriesAll 5 = .ok (.imul, 1) := by decide +kernel
theorem dX9_carriesAll_6 : decode cX9_carriesAll 6 = .ok (.putfield 486, 3) := by decide +kernel
theorem dX9_carriesAll_9 : decode cX9_carriesAll 9 = .ok (.aload_n 0, 1) := by decide +kernel
theorem dX9_carriesAll_10 : decode cX9_carriesAll 10 = .ok (.iload_n 2, 1) := by decide +kernel
theorem dX9_carriesAll_11 : decode cX9_carriesAll 11 = .ok (.putfield 483, 3) := by decide +kernel
theorem dX9_carriesAll_14 : decode cX9_carriesAll 14 = .ok (.aload_n 0, 1) := by decide +kernel
theorem dX9_carriesAll_15 : decode cX9_carriesAll 15 = .ok (.aload_n 0, 1) := by decide +kernel
theorem dX9_carriesAll_16 : decode cX9_carriesAll 16 = .ok (.getfield 9, 3) := by decide +kernel
theorem dX9_carriesAll_19 : decode cX9_carriesAll 19 = .ok (.invokevirtual 489, 3) := by decide +kernel
theorem dX9_carriesAll_22 : decode cX9_carriesAll 22 = .ok (.aload_n 0, 1) := by decide +kernel
theorem dX9_carriesAll_23 : decode cX9_carriesAll 23 = .ok (.aload_n 0, 1) := by decide +kernel
theorem dX9_carriesAll_24 : decode cX9_carriesAll 24 = .ok (.getfield 13, 3) := by decide +kernel
theorem dX9_carriesAll_27 : decode cX9_carriesAll 27 = .ok (.invokevirtual 489, 3) := by decide +kernel
theorem dX9_carriesAll_30 : decode cX9_carriesAll 30 = .ok (.aload_n 0, 1) := by decide +kernel
theorem dX9_carriesAll_31 : decode cX9_carriesAll 31 = .ok (.aload_n 0, 1) := by decide +kernel
theorem dX9_carriesAll_32 : decode cX9_carriesAll 32 = .ok (.getfield 16, 3) := by decide +kernel
theorem dX9_carriesAll_35 : decode cX9_carriesAll 35 = .ok (.invokevirtual 489, 3) := by decide +kernel
theorem dX9_carriesAll_38 : decode cX9_carriesAll 38 = .ok (.aload_n 0, 1) := by decide +kernel
theorem dX9_carriesAll_39 : decode cX9_carriesAll 39 = .ok (.aload_n 0, 1) := by decide +kernel
theorem dX9_carriesAll_40 : decode cX9_carriesAll 40 = .ok (.getfield 19, 3) := by decide +kernel
theorem dX9_carriesAll_43 : decode cX9_carriesAll 43 = .ok (.invokevirtual 489, 3) := by decide +kernel
theorem dX9_carriesAll_46 : decode cX9_carriesAll 46 = .ok (.aload_n 0, 1) := by decide +kernel
theorem dX9_carriesAll_47 : decode cX9_carriesAll 47 = .ok (.aload_n 0, 1) := by decide +kernel
theorem dX9_carriesAll_48 : decode cX9_carriesAll 48 = .ok (.getfield 22, 3) := by decide +kernel
theorem dX9_carriesAll_51 : decode cX9_carriesAll 51 = .ok (.invokevirtual 489, 3) := by decide +kernel
theorem dX9_carriesAll_54 : decode cX9_carriesAll 54 = .ok (.iload_n 1, 1) := by decide +kernel
theorem dX9_carriesAll_55 : decode cX9_carriesAll 55 = .ok (.iconst 4, 1) := by decide +kernel
theorem dX9_carriesAll_56 : decode cX9_carriesAll 56 = .ok (.if_icmp .ne 4, 3) := by decide +kernel
theorem dX9_carriesAll_59 : decode cX9_carriesAll 59 = .ok (.return_, 1) := by decide +kernel
theorem dX9_carryRow_0 : decode cX9_carryRow 0 = .ok (.iconst 0, 1) := by decide +kernel
theorem dX9_carryRow_1 : decode cX9_carryRow 1 = .ok (.istore_n 2, 1) := by decide +kernel
theorem dX9_carryRow_2 : decode cX9_carryRow 2 = .ok (.iload_n 2, 1) := by decide +kernel
theorem dX9_carryRow_3 : decode cX9_carryRow 3 = .ok (.aload_n 1, 1) := by decide +kernel
theorem dX9_carryRow_4 : decode cX9_carryRow 4 = .ok (.arraylength, 1) := by decide +kernel
theorem dX9_carryRow_5 : decode cX9_carryRow 5 = .ok (.if_icmp .ge 53, 3) := by decide +kernel
theorem dX9_carryRow_8 : decode cX9_carryRow 8 = .ok (.aload_n 0, 1) := by decide +kernel
theorem dX9_carryRow_9 : decode cX9_carryRow 9 = .ok (.getfield 483, 3) := by decide +kernel
theorem dX9_carryRow_12 : decode cX9_carryRow 12 = .ok (.ifCond .eq 18, 3) := by decide +kernel
theorem dX9_carryRow_15 : decode cX9_carryRow 15 = .ok (.aload_n 1, 1) := by decide +kernel
theorem dX9_carryRow_16 : decode cX9_carryRow 16 = .ok (.iload_n 2, 1) := by decide +kernel
theorem dX9_carryRow_17 : decode cX9_carryRow 17 = .ok (.aload_n 0, 1) := by decide +kernel
theorem dX9_carryRow_18 : decode cX9_carryRow 18 = .ok (.getfield 122, 3) := by decide +kernel
theorem dX9_carryRow_21 : decode cX9_carryRow 21 = .ok (.aload_n 0, 1) := by decide +kernel
theorem dX9_carryRow_22 : decode cX9_carryRow 22 = .ok (.getfield 486, 3) := by decide +kernel
theorem dX9_carryRow_25 : decode cX9_carryRow 25 = .ok (.iaload, 1) := by decide +kernel
theorem dX9_carryRow_26 : decode cX9_carryRow 26 = .ok (.iastore, 1) := by decide +kernel
theorem dX9_carryRow_27 : decode cX9_carryRow 27 = .ok (.goto 15, 3) := by decide +kernel
theorem dX9_carryRow_30 : decode cX9_carryRow 30 = .ok (.aload_n 0, 1) := by decide +kernel
theorem dX9_carryRow_31 : decode cX9_carryRow 31 = .ok (.getfield 122, 3) := by decide +kernel
theorem dX9_carryRow_34 : decode cX9_carryRow 34 = .ok (.aload_n 0, 1) := by decide +kernel
theorem dX9_carryRow_35 : decode cX9_carryRow 35 = .ok (.getfield 486, 3) := by decide +kernel
theorem dX9_carryRow_38 : decode cX9_carryRow 38 = .ok (.aload_n 1, 1) := by decide +kernel
theorem dX9_carryRow_39 : decode cX9_carryRow 39 = .ok (.iload_n 2, 1) := by decide +kernel
theorem dX9_carryRow_40 : decode cX9_carryRow 40 = .ok (.iaload, 1) := by decide +kernel
theorem dX9_carryRow_41 : decode cX9_carryRow 41 = .ok (.iastore, 1) := by decide +kernel
theorem dX9_carryRow_42 : decode cX9_carryRow 42 = .ok (.aload_n 0, 1) := by decide +kernel
theorem dX9_carryRow_43 : decode cX9_carryRow 43 = .ok (.dup, 1) := by decide +kernel
theorem dX9_carryRow_44 : decode cX9_carryRow 44 = .ok (.getfield 486, 3) := by decide +kernel
theorem dX9_carryRow_47 : decode cX9_carryRow 47 = .ok (.iconst 1, 1) := by decide +kernel
theorem dX9_carryRow_48 : decode cX9_carryRow 48 = .ok (.iadd, 1) := by decide +kernel
theorem dX9_carryRow_49 : decode cX9_carryRow 49 = .ok (.putfield 486, 3) := by decide +kernel
theorem dX9_carryRow_52 : decode cX9_carryRow 52 = .ok (.iinc 2 1, 3) := by decide +kernel
theorem dX9_carryRow_55 : decode cX9_carryRow 55 = .ok (.goto (-53), 3) := by decide +kernel
theorem dX9_carryRow_58 : decode cX9_carryRow 58 = .ok (.return_, 1) := by decide +kernel
theorem dX9_keepsAll_0 : decode cX9_keepsAll 0 = .ok (.aload_n 0, 1) := by decide +kernel
theorem dX9_keepsAll_1 : decode cX9_keepsAll 1 = .ok (.iconst 4, 1) := by decide +kernel
theorem dX9_keepsAll_2 : decode cX9_keepsAll 2 = .ok (.iconst 0, 1) := by decide +kernel
theorem dX9_keepsAll_3 : decode cX9_keepsAll 3 = .ok (.invokevirtual 415, 3) := by decide +kernel
theorem dX9_keepsAll_6 : decode cX9_keepsAll 6 = .ok (.return_, 1) := by decide +kernel
theorem dX9_laysBack_0 : decode cX9_laysBack 0 = .ok (.aload_n 0, 1) := by decide +kernel
theorem dX9_laysBack_1 : decode cX9_laysBack 1 = .ok (.iconst 4, 1) := by decide +kernel
theorem dX9_laysBack_2 : decode cX9_laysBack 2 = .ok (.iconst 1, 1) := by decide +kernel
theorem dX9_laysBack_3 : decode cX9_laysBack 3 = .ok (.invokevirtual 415, 3) := by decide +kernel
theorem dX9_laysBack_6 : decode cX9_laysBack 6 = .ok (.return_, 1) := by decide +kernel
set_option maxRecDepth 20000 in
theorem ggX9_carriesAll_X9_carryRow : GoodIn wsX9_carriesAll wsX9_carryRow := goodIn_r _ [21, 2, 22, 1, 23, 24, 25, 26, 27, 28, 29, 30, 31, 32, 33, 34, 35, 36, 37, 38, 39, 40, 41, 42, 43, 44, 45, 46, 47, 48, 49, 50, 51, 52, 53, 54, 55, 56, 57, 58, 59, 60, 61, 62, 63, 64, 65, 66, 67, 68, 69, 70, 71, 72, 73, 74, 75] (by decide +kernel) (by decide +kernel)
set_option maxRecDepth 20000 in
theorem gX9_carriesAll_X9_carryRow : GoodIn wsX9_carriesAll (wsV RX9 489 RX9 yX9_carryRow wsX9_carryRow) := goodIn_app (goodIn_of _ (by decide +kernel)) ggX9_carriesAll_X9_carryRow
set_option maxRecDepth 20000 in
theorem ggX9_keepsAll_X9_carriesAll : GoodIn wsX9_keepsAll wsX9_carriesAll := goodIn_r _ [5, 6, 7, 8, 9, 10, 11, 12, 13, 14, 15, 16, 17, 18, 19, 20, 21, 22, 23, 24, 4, 25, 26, 27, 28, 29, 30, 31, 32, 33, 34, 35, 36, 37, 38, 39, 40, 41, 42, 43, 44, 45, 46, 47, 48, 49, 50, 51, 52, 53, 54, 55, 56, 57, 58, 59, 60, 61, 62, 63, 64, 65, 66, 67, 68, 69, 70, 71, 72, 73, 74, 75, 76, 77, 78, 79] (by decide +kernel) (by decide +kernel)
set_option maxRecDepth 20000 in
theorem gX9_keepsAll_X9_carriesAll : GoodIn wsX9_keepsAll (wsV RX9 415 RX9 yX9_carriesAll wsX9_carriesAll) := goodIn_app (goodIn_of _ (by decide +kernel)) ggX9_keepsAll_X9_carriesAll
set_option maxRecDepth 20000 in
theorem ggX9_laysBack_X9_carriesAll : GoodIn wsX9_laysBack wsX9_carriesAll := goodIn_r _ [5, 6, 7, 8, 9, 10, 11, 12, 13, 14, 15, 16, 17, 18, 19, 20, 21, 22, 23, 24, 4, 25, 26, 27, 28, 29, 30, 31, 32, 33, 34, 35, 36, 37, 38, 39, 40, 41, 42, 43, 44, 45, 46, 47, 48, 49, 50, 51, 52, 53, 54, 55, 56, 57, 58, 59, 60, 61, 62, 63, 64, 65, 66, 67, 68, 69, 70, 71, 72, 73, 74, 75, 76, 77, 78, 79] (by decide +kernel) (by decide +kernel)
set_option maxRecDepth 20000 in
theorem gX9_laysBack_X9_carriesAll : GoodIn wsX9_laysBack (wsV RX9 415 RX9 yX9_carriesAll wsX9_carriesAll) := goodIn_app (goodIn_of _ (by decide +kernel)) ggX9_laysBack_X9_carriesAll
set_option maxHeartbeats 4000000 in
set_option maxRecDepth 100000 in
theorem i_X9_carryRow_8_0 (l : Launch) (D : va_G) (k : Nat → ClassId) (sz : Nat) (ca : Int) (mo : Nat) (mo_thrown : Int32) (mo_ascalar : Nat) (mo_acane : Nat) (mo_ais : Nat) (mo_astrandOf : Nat) (mo_aweight : Nat) (mo_aheight : Nat) (mo_achairOf : Nat) (mo_anoteMinute : Nat) (mo_anoteWho : Nat) (mo_anoteIs : Nat) (mo_atoldCane : Nat) (mo_anewScalar : Nat) (mo_anewCane : Nat) (mo_anewHeight : Nat) (mo_anewStrand : Nat) (mo_anewChair : Nat) (mo_anewWeight : Nat) (mo_taped : Int32) (mo_p : Int32) (mo_fault : Int32) (mo_slot : Int32) (mo_rules : Int32) (mo_entries : Int32) (mo_deep : Int32) (mo_counted : Int32) (mo_opened : Int32) (mo_words : Int32) (mo_atape : Nat) (mo_asort : Nat) (mo_anumber : Nat) (mo_aclauses : Nat) (mo_asumAt : Nat) (mo_atestAt : Nat) (mo_aendAt : Nat) (mo_aopen : Nat) (mo_aasked : Nat) (mo_astack : Nat) (mo_amust : Nat) (mo_apast : Nat) (mo_apastOf : Nat) (mo_pastMany : Int32) (mo_pastAt : Int32) (mo_takesBack : Int32) (mo_acanRise : Nat) (mo_afirstHas : Nat) (mo_asecondHas : Nat) (mo_alay : Nat) (mo_ashows : Nat) (mo_aimages : Nat) (mo_aisMade : Nat) (mo_imageAt : Int32) (mo_rimages : Nat → Int32) (a : Nat) (a_r : Nat → Int32) (h_mo_taped : iv (0) (400) mo_taped) (h_mo_p : iv (0) (402) mo_p) (h_mo_fault : iv (0) (4000) mo_fault) (h_mo_slot : iv (0) (5) mo_slot) (h_mo_rules : iv (0) (6) mo_rules) (h_mo_entries : iv (0) (300) mo_entries) (h_mo_counted : iv (0) (70) mo_counted) (h_mo_opened : iv (0) (402) mo_opened) (h_mo_words : iv (11) (11) mo_words) (h_mo_pastMany : iv (0) (20) mo_pastMany) (h_mo_pastAt : iv (0) (260) mo_pastAt) (h_mo_takesBack : iv (0) (1) mo_takesBack) (h_mo_imageAt : iv (0) (2000) mo_imageAt) (hr_a : mo_imageAt.toInt = ca) (hr_n : ca + 8 ≤ 2000) : CtV l yX9_carryRow wsX9_carryRow (rmK 1 0 0) [.ref mo, .ref a] D k sz ([(mo, .inr (7, [.int mo_thrown, .ref mo_ascalar, .ref mo_acane, .ref mo_ais, .ref mo_astrandOf, .ref mo_aweight, .ref mo_aheight, .ref mo_achairOf, .ref mo_anoteMinute, .ref mo_anoteWho, .ref mo_anoteIs, .ref mo_atoldCane, .ref mo_anewScalar, .ref mo_anewCane, .ref mo_anewHeight, .ref mo_anewStrand, .ref mo_anewChair, .ref mo_anewWeight, .int mo_taped, .int mo_p, .int mo_fault, .int mo_slot, .int mo_rules, .int mo_entries, .int mo_deep, .int mo_counted, .int mo_opened, .int mo_words, .ref mo_atape, .ref mo_asort, .ref mo_anumber, .ref mo_aclauses, .ref mo_asumAt, .ref mo_atestAt, .ref mo_aendAt, .ref mo_aopen, .ref mo_aasked, .ref mo_astack, .ref mo_amust, .ref mo_apast, .ref mo_apastOf, .int mo_pastMany, .int mo_pastAt, .int mo_takesBack, .ref mo_acanRise, .ref mo_afirstHas, .ref mo_asecondHas, .ref mo_alay, .ref mo_ashows, .ref mo_aimages, .ref mo_aisMade, .int mo_imageAt, .int 0])), (mo_aimages, hcI k 2000 mo_rimages), (a, hcI k 8 a_r)]) (fun u : (Int32) × (Nat → Int32) => iv (0) (2000) (u.1) ∧ (CpI mo_rimages (u.2) a_r ca 8 ∧ (u.1).toInt = ca + 8)) (fun u : (Int32) × (Nat → Int32) => [(mo, .inr (7, [.int mo_thrown, .ref mo_ascalar, .ref mo_acane, .ref mo_ais, .ref mo_astrandOf, .ref mo_aweight, .ref mo_aheight, .ref mo_achairOf, .ref mo_anoteMinute, .ref mo_anoteWho, .ref mo_anoteIs, .ref mo_atoldCane, .ref mo_anewScalar, .ref mo_anewCane, .ref mo_anewHeight, .ref mo_anewStrand, .ref mo_anewChair, .ref mo_anewWeight, .int mo_taped, .int mo_p, .int mo_fault, .int mo_slot, .int mo_rules, .int mo_entries, .int mo_deep, .int mo_counted, .int mo_opened, .int mo_words, .ref mo_atape, .ref mo_asort, .ref mo_anumber, .ref mo_aclauses, .ref mo_asumAt, .ref mo_atestAt, .ref mo_aendAt, .ref mo_aopen, .ref mo_aasked, .ref mo_astack, .ref mo_amust, .ref mo_apast, .ref mo_apastOf, .int mo_pastMany, .int mo_pastAt, .int mo_takesBack, .ref mo_acanRise, .ref mo_afirstHas, .ref mo_asecondHas, .ref mo_alay, .ref mo_ashows, .ref mo_aimages, .ref mo_aisMade, .int (u.1), .int 0])), (mo_aimages, hcI k 2000 (u.2)), (a, hcI k 8 a_r)]) 0 0 := by
  have h_mo_taped_l := h_mo_taped.1
  have h_mo_taped_u := h_mo_taped.2
  have h_mo_p_l := h_mo_p.1
  have h_mo_p_u := h_mo_p.2
  have h_mo_fault_l := h_mo_fault.1
  have h_mo_fault_u := h_mo_fault.2
  have h_mo_slot_l := h_mo_slot.1
  have h_mo_slot_u := h_mo_slot.2
  have h_mo_rules_l := h_mo_rules.1
  have h_mo_rules_u := h_mo_rules.2
  have h_mo_entries_l := h_mo_entries.1
  have h_mo_entries_u := h_mo_entries.2
  have h_mo_counted_l := h_mo_counted.1
  have h_mo_counted_u := h_mo_counted.2
  have h_mo_opened_l := h_mo_opened.1
  have h_mo_opened_u := h_mo_opened.2
  have h_mo_words_l := h_mo_words.1
  have h_mo_words_u := h_mo_words.2
  have h_mo_pastMany_l := h_mo_pastMany.1
  have h_mo_pastMany_u := h_mo_pastMany.2
  have h_mo_pastAt_l := h_mo_pastAt.1
  have h_mo_pastAt_u := h_mo_pastAt.2
  have h_mo_takesBack_l := h_mo_takesBack.1
  have h_mo_takesBack_u := h_mo_takesBack.2
  have h_mo_imageAt_l := h_mo_imageAt.1
  have h_mo_imageAt_u := h_mo_imageAt.2
  refine CtV.mk (cc := cX9_carryRow) (maxL := 3) (ret := none) (by decide) rfl (Nat.le_of_ble_eq_true rfl) ?_
  intro p e s m below meth c A ls E hP hD hS hl
  obtain ⟨hx, hb, hr, hml, hown, hts, hlocks, hin, hG, hA⟩ := E
  have hown : s.vm.findClass RX9 = some m.cls := hown
  have in9 : ∀ w ∈ u_ws RX9 TX9 53, w ∈ wsX9_carryRow := fun _ h => List.mem_cons_of_mem _ (List.mem_append_right _ h)
  have hl : lv_has ls 3 [(0, .ref mo), (1, .ref a)] := hl
  refine lv_iconst (v := 0) hx hb dX9_carryRow_0 (by decide) ?_
  refine lv_istore_n (lv' := [(2, .int 0), (0, .ref mo), (1, .ref a)]) hx hb dX9_carryRow_1 rfl hl (by decide) rfl (fun ls hl => ?_)
  have loop1 : ∀ (fu : Nat) (L2_1 : Int32) (K51_1mo : Int32) (g_1mo_aimages : Nat → Int32), iv (0) (8) L2_1 → iv (0) (2000) K51_1mo → K51_1mo.toInt = ca + L2_1.toInt → CpI mo_rimages g_1mo_aimages a_r ca L2_1.toInt → 9 - L2_1.toInt < (fu : Int) → ∀ (H : Heap) (locs : List Loc) (ls : Array Slot), va_P D vwCl ([(mo, .inr (7, [.int mo_thrown, .ref mo_ascalar, .ref mo_acane, .ref mo_ais, .ref mo_astrandOf, .ref mo_aweight, .ref mo_aheight, .ref mo_achairOf, .ref mo_anoteMinute, .ref mo_anoteWho, .ref mo_anoteIs, .ref mo_atoldCane, .ref mo_anewScalar, .ref mo_anewCane, .ref mo_anewHeight, .ref mo_anewStrand, .ref mo_anewChair, .ref mo_anewWeight, .int mo_taped, .int mo_p, .int mo_fault, .int mo_slot, .int mo_rules, .int mo_entries, .int mo_deep, .int mo_counted, .int mo_opened, .int mo_words, .ref mo_atape, .ref mo_asort, .ref mo_anumber, .ref mo_aclauses, .ref mo_asumAt, .ref mo_atestAt, .ref mo_aendAt, .ref mo_aopen, .ref mo_aasked, .ref mo_astack, .ref mo_amust, .ref mo_apast, .ref mo_apastOf, .int mo_pastMany, .int mo_pastAt, .int mo_takesBack, .ref mo_acanRise, .ref mo_afirstHas, .ref mo_asecondHas, .ref mo_alay, .ref mo_ashows, .ref mo_aimages, .ref mo_aisMade, .int K51_1mo, .int 0])), (mo_aimages, hcI k 2000 g_1mo_aimages), (a, hcI k 8 a_r)]) H → va_D A ([(mo, .inr (7, [.int mo_thrown, .ref mo_ascalar, .ref mo_acane, .ref mo_ais, .ref mo_astrandOf, .ref mo_aweight, .ref mo_aheight, .ref mo_achairOf, .ref mo_anoteMinute, .ref mo_anoteWho, .ref mo_anoteIs, .ref mo_atoldCane, .ref mo_anewScalar, .ref mo_anewCane, .ref mo_anewHeight, .ref mo_anewStrand, .ref mo_anewChair, .ref mo_anewWeight, .int mo_taped, .int mo_p, .int mo_fault, .int mo_slot, .int mo_rules, .int mo_entries, .int mo_deep, .int mo_counted, .int mo_opened, .int mo_words, .ref mo_atape, .ref mo_asort, .ref mo_anumber, .ref mo_aclauses, .ref mo_asumAt, .ref mo_atestAt, .ref mo_aendAt, .ref mo_aopen, .ref mo_aasked, .ref mo_astack, .ref mo_amust, .ref mo_apast, .ref mo_apastOf, .int mo_pastMany, .int mo_pastAt, .int mo_takesBack, .ref mo_acanRise, .ref mo_afirstHas, .ref mo_asecondHas, .ref mo_alay, .ref mo_ashows, .ref mo_aimages, .ref mo_aisMade, .int K51_1mo, .int 0])), (mo_aimages, hcI k 2000 g_1mo_aimages), (a, hcI k 8 a_r)]) → va_S A s.heap H locs → lv_has ls 3 [(2, .int L2_1), (0, .ref mo), (1, .ref a)] → W p l e (rmK 1 0 0) s m (List.toArray [.ref mo, .ref a]) below meth c H locs 0 0 (MQ below (va_Qv (fun u : (Int32) × (Nat → Int32) => iv (0) (2000) (u.1) ∧ (CpI mo_rimages (u.2) a_r ca 8 ∧ (u.1).toInt = ca + 8)) (hcB D (fun u : (Int32) × (Nat → Int32) => [(mo, .inr (7, [.int mo_thrown, .ref mo_ascalar, .ref mo_acane, .ref mo_ais, .ref mo_astrandOf, .ref mo_aweight, .ref mo_aheight, .ref mo_achairOf, .ref mo_anoteMinute, .ref mo_anoteWho, .ref mo_anoteIs, .ref mo_atoldCane, .ref mo_anewScalar, .ref mo_anewCane, .ref mo_anewHeight, .ref mo_anewStrand, .ref mo_anewChair, .ref mo_anewWeight, .int mo_taped, .int mo_p, .int mo_fault, .int mo_slot, .int mo_rules, .int mo_entries, .int mo_deep, .int mo_counted, .int mo_opened, .int mo_words, .ref mo_atape, .ref mo_asort, .ref mo_anumber, .ref mo_aclauses, .ref mo_asumAt, .ref mo_atestAt, .ref mo_aendAt, .ref mo_aopen, .ref mo_aasked, .ref mo_astack, .ref mo_amust, .ref mo_apast, .ref mo_apastOf, .int mo_pastMany, .int mo_pastAt, .int mo_takesBack, .ref mo_acanRise, .ref mo_afirstHas, .ref mo_asecondHas, .ref mo_alay, .ref mo_ashows, .ref mo_aimages, .ref mo_aisMade, .int (u.1), .int 0])), (mo_aimages, hcI k 2000 (u.2)), (a, hcI k 8 a_r)]) A) A) (List.toArray [.ref mo, .ref a]) s 0 0 A) (F0 m 2 ls []) := by
    intro fu
    induction fu with
    | zero =>
      intro L2_1 K51_1mo g_1mo_aimages bL2_1 bK51_1mo hI1_1 hp1_1 hm
      have bL2_1_l := bL2_1.1
      have bL2_1_u := bL2_1.2
      have bK51_1mo_l := bK51_1mo.1
      have bK51_1mo_u := bK51_1mo.2
      exact absurd hm (by omega)
    | succ fu ih1 =>
      intro L2_1 K51_1mo g_1mo_aimages bL2_1 bK51_1mo hI1_1 hp1_1 hm H locs ls hP hD hS hl
      have bL2_1_l := bL2_1.1
      have bL2_1_u := bL2_1.2
      have bK51_1mo_l := bK51_1mo.1
      have bK51_1mo_u := bK51_1mo.2
      refine lv_iload_n hx hb dX9_carryRow_2 rfl (lv_at hl 0 rfl) ?_
      refine lv_aload_n hx hb dX9_carryRow_3 rfl (lv_at hl 2 rfl) ?_
      refine va_alen hx hb hG.1 hP 2 0 rfl rfl (v := 8) rfl dX9_carryRow_4 ?_
      refine lv_icmp_ge (tgt := 58) hx hb dX9_carryRow_5 (by decide) (fun c2 => ?_) (fun c2 => ?_)
      · have fc2 := cx_ge_t (a := L2_1.toInt) (b := 8) rfl (by decide) c2
        exact hc_endV hx hb hr hlocks (K51_1mo, g_1mo_aimages) ⟨(show iv (0) (2000) K51_1mo from ⟨by omega, by omega⟩), (by (try dsimp only); exact (by have e9 : L2_1.toInt = 8 := (by omega); rw [← e9]; exact ⟨hp1_1, by omega⟩))⟩ hP hD hS dX9_carryRow_58
      · have fc2 := cx_ge_f (a := L2_1.toInt) (b := 8) rfl (by decide) c2
        refine lv_aload_n hx hb dX9_carryRow_8 rfl (lv_at hl 1 rfl) ?_
        refine va_get (D := D) (ci := 7) (v := .int 0) (C := RX9) (T := TX9) (N := 53) hx hb hts in9 hown hG.1 hP 0 rfl rfl 52 (by decide) (hts (.fieldLink RX9 483 "ChairCaneModel" "goesBack" "Z") (by decide +kernel)) (fun _ h9 => h9) rfl dX9_carryRow_9 ?_
        refine lv_if_eq (tgt := 30) hx hb dX9_carryRow_12 (by decide) (fun _ => ?_) (fun h => absurd (by decide) h)
        refine lv_aload_n hx hb dX9_carryRow_30 rfl (lv_at hl 1 rfl) ?_
        refine va_get (D := D) (ci := 7) (v := .ref mo_aimages) (C := RX9) (T := TX9) (N := 53) hx hb hts in9 hown hG.1 hP 0 rfl rfl 49 (by decide) (hts (.fieldLink RX9 122 "ChairCaneModel" "images" "[I") (by decide +kernel)) (fun _ h9 => h9) rfl dX9_carryRow_31 ?_
        refine lv_aload_n hx hb dX9_carryRow_34 rfl (lv_at hl 1 rfl) ?_
        refine va_get (D := D) (ci := 7) (v := .int K51_1mo) (C := RX9) (T := TX9) (N := 53) hx hb hts in9 hown hG.1 hP 0 rfl rfl 51 (by decide) (hts (.fieldLink RX9 486 "ChairCaneModel" "imageAt" "I") (by decide +kernel)) (fun _ h9 => h9) rfl dX9_carryRow_35 ?_
        refine lv_aload_n hx hb dX9_carryRow_38 rfl (lv_at hl 2 rfl) ?_
        refine lv_iload_n hx hb dX9_carryRow_39 rfl (lv_at hl 0 rfl) ?_
        refine va_iald hx hb hG.1 hP 2 0 rfl rfl (vp_in_iff.mpr ⟨by omega, by omega⟩) dX9_carryRow_40 ?_
        refine lv_topi (fun z3 ez3 => ?_)
        refine va_iast hx hb hG.1 hP hD hS 1 0 rfl rfl (vp_in_iff.mpr ⟨by omega, by omega⟩) dX9_carryRow_41 (fun H locs hP hD hS => ?_)
        obtain ⟨f4, ef4⟩ : ∃ f, f = upd g_1mo_aimages (Int32.toNatClampNeg K51_1mo) (z3) := ⟨_, rfl⟩
        rw [← ef4] at hP hD
        have hP : va_P D vwCl ([(mo, .inr (7, [.int mo_thrown, .ref mo_ascalar, .ref mo_acane, .ref mo_ais, .ref mo_astrandOf, .ref mo_aweight, .ref mo_aheight, .ref mo_achairOf, .ref mo_anoteMinute, .ref mo_anoteWho, .ref mo_anoteIs, .ref mo_atoldCane, .ref mo_anewScalar, .ref mo_anewCane, .ref mo_anewHeight, .ref mo_anewStrand, .ref mo_anewChair, .ref mo_anewWeight, .int mo_taped, .int mo_p, .int mo_fault, .int mo_slot, .int mo_rules, .int mo_entries, .int mo_deep, .int mo_counted, .int mo_opened, .int mo_words, .ref mo_atape, .ref mo_asort, .ref mo_anumber, .ref mo_aclauses, .ref mo_asumAt, .ref mo_atestAt, .ref mo_aendAt, .ref mo_aopen, .ref mo_aasked, .ref mo_astack, .ref mo_amust, .ref mo_apast, .ref mo_apastOf, .int mo_pastMany, .int mo_pastAt, .int mo_takesBack, .ref mo_acanRise, .ref mo_afirstHas, .ref mo_asecondHas, .ref mo_alay, .ref mo_ashows, .ref mo_aimages, .ref mo_aisMade, .int K51_1mo, .int 0])), (mo_aimages, hcI k 2000 f4), (a, hcI k 8 a_r)]) H := hP
        have hD : va_D A ([(mo, .inr (7, [.int mo_thrown, .ref mo_ascalar, .ref mo_acane, .ref mo_ais, .ref mo_astrandOf, .ref mo_aweight, .ref mo_aheight, .ref mo_achairOf, .ref mo_anoteMinute, .ref mo_anoteWho, .ref mo_anoteIs, .ref mo_atoldCane, .ref mo_anewScalar, .ref mo_anewCane, .ref mo_anewHeight, .ref mo_anewStrand, .ref mo_anewChair, .ref mo_anewWeight, .int mo_taped, .int mo_p, .int mo_fault, .int mo_slot, .int mo_rules, .int mo_entries, .int mo_deep, .int mo_counted, .int mo_opened, .int mo_words, .ref mo_atape, .ref mo_asort, .ref mo_anumber, .ref mo_aclauses, .ref mo_asumAt, .ref mo_atestAt, .ref mo_aendAt, .ref mo_aopen, .ref mo_aasked, .ref mo_astack, .ref mo_amust, .ref mo_apast, .ref mo_apastOf, .int mo_pastMany, .int mo_pastAt, .int mo_takesBack, .ref mo_acanRise, .ref mo_afirstHas, .ref mo_asecondHas, .ref mo_alay, .ref mo_ashows, .ref mo_aimages, .ref mo_aisMade, .int K51_1mo, .int 0])), (mo_aimages, hcI k 2000 f4), (a, hcI k 8 a_r)]) := hD
        refine lv_aload_n hx hb dX9_carryRow_42 rfl (lv_at hl 1 rfl) ?_
        refine lv_dup hx hb dX9_carryRow_43 rfl ?_
        refine va_get (D := D) (ci := 7) (v := .int K51_1mo) (C := RX9) (T := TX9) (N := 53) hx hb hts in9 hown hG.1 hP 0 rfl rfl 51 (by decide) (hts (.fieldLink RX9 486 "ChairCaneModel" "imageAt" "I") (by decide +kernel)) (fun _ h9 => h9) rfl dX9_carryRow_44 ?_
        refine lv_iconst (v := 1) hx hb dX9_carryRow_47 (by decide) ?_
        refine lv_iadd hx hb dX9_carryRow_48 ?_
        refine lv_topi (fun z5 ez5 => ?_)
        have tz5 : z5.toInt = K51_1mo.toInt + 1 := ai_add rfl (by decide) ez5 (by omega) (by omega)
        refine va_put (D := D) (ci := 7) (v := .int z5) (C := RX9) (T := TX9) (N := 53) hx hb hts in9 tyX9 tyX9_ok nmX9 hown hG.1 hP hD hS 0 rfl rfl 51 (by decide) (hts (.fieldLink RX9 486 "ChairCaneModel" "imageAt" "I") (by decide +kernel)) (fun _ h9 => h9) rfl (tyX9_ok 51 (by decide)) rfl rfl (Nat.le_of_ble_eq_true rfl) dX9_carryRow_49 (fun H locs hP hD hS => ?_)
        have hP : va_P D vwCl ([(mo, .inr (7, [.int mo_thrown, .ref mo_ascalar, .ref mo_acane, .ref mo_ais, .ref mo_astrandOf, .ref mo_aweight, .ref mo_aheight, .ref mo_achairOf, .ref mo_anoteMinute, .ref mo_anoteWho, .ref mo_anoteIs, .ref mo_atoldCane, .ref mo_anewScalar, .ref mo_anewCane, .ref mo_anewHeight, .ref mo_anewStrand, .ref mo_anewChair, .ref mo_anewWeight, .int mo_taped, .int mo_p, .int mo_fault, .int mo_slot, .int mo_rules, .int mo_entries, .int mo_deep, .int mo_counted, .int mo_opened, .int mo_words, .ref mo_atape, .ref mo_asort, .ref mo_anumber, .ref mo_aclauses, .ref mo_asumAt, .ref mo_atestAt, .ref mo_aendAt, .ref mo_aopen, .ref mo_aasked, .ref mo_astack, .ref mo_amust, .ref mo_apast, .ref mo_apastOf, .int mo_pastMany, .int mo_pastAt, .int mo_takesBack, .ref mo_acanRise, .ref mo_afirstHas, .ref mo_asecondHas, .ref mo_alay, .ref mo_ashows, .ref mo_aimages, .ref mo_aisMade, .int z5, .int 0])), (mo_aimages, hcI k 2000 f4), (a, hcI k 8 a_r)]) H := hP
        have hD : va_D A ([(mo, .inr (7, [.int mo_thrown, .ref mo_ascalar, .ref mo_acane, .ref mo_ais, .ref mo_astrandOf, .ref mo_aweight, .ref mo_aheight, .ref mo_achairOf, .ref mo_anoteMinute, .ref mo_anoteWho, .ref mo_anoteIs, .ref mo_atoldCane, .ref mo_anewScalar, .ref mo_anewCane, .ref mo_anewHeight, .ref mo_anewStrand, .ref mo_anewChair, .ref mo_anewWeight, .int mo_taped, .int mo_p, .int mo_fault, .int mo_slot, .int mo_rules, .int mo_entries, .int mo_deep, .int mo_counted, .int mo_opened, .int mo_words, .ref mo_atape, .ref mo_asort, .ref mo_anumber, .ref mo_aclauses, .ref mo_asumAt, .ref mo_atestAt, .ref mo_aendAt, .ref mo_aopen, .ref mo_aasked, .ref mo_astack, .ref mo_amust, .ref mo_apast, .ref mo_apastOf, .int mo_pastMany, .int mo_pastAt, .int mo_takesBack, .ref mo_acanRise, .ref mo_afirstHas, .ref mo_asecondHas, .ref mo_alay, .ref mo_ashows, .ref mo_aimages, .ref mo_aisMade, .int z5, .int 0])), (mo_aimages, hcI k 2000 f4), (a, hcI k 8 a_r)]) := hD
        obtain ⟨z6, ez6⟩ : ∃ z : Int32, z = L2_1 + 1 := ⟨_, rfl⟩
        have tz6 : z6.toInt = L2_1.toInt + (1) := ai_add rfl (by decide) ez6 (by omega) (by omega)
        refine lv_iinc (v := z6) (lv' := [(2, .int z6), (0, .ref mo), (1, .ref a)]) hx hb dX9_carryRow_52 hl (k := 0) rfl (by rw [ez6]; rfl) (by decide) rfl (fun ls hl => ?_)
        refine lv_goto (tgt := 2) hx hb dX9_carryRow_55 (by decide) ?_
        exact ih1 z6 z5 f4 ⟨by omega, by omega⟩ ⟨by omega, by omega⟩ (by omega) (CpI_s hp1_1 (by omega) (by omega) (i := K51_1mo) (by omega) tz6 ez3 ef4) (by omega) _ _ _ hP hD hS (lv_sub hl [0, 1, 2] rfl)
  exact loop1 300 0 mo_imageAt mo_rimages (iv_lit (by decide) (by decide)) ⟨by omega, by omega⟩ (by have q0 : (0 : Int32).toInt = 0 := (by decide); omega) (CpI_0) (by have q0 : (0 : Int32).toInt = 0 := (by decide); omega) _ _ _ hP hD hS hl
set_option maxHeartbeats 4000000 in
set_option maxRecDepth 100000 in
theorem i_X9_carryRow_8_1 (l : Launch) (D : va_G) (k : Nat → ClassId) (sz : Nat) (ca : Int) (mo : Nat) (mo_thrown : Int32) (mo_ascalar : Nat) (mo_acane : Nat) (mo_ais : Nat) (mo_astrandOf : Nat) (mo_aweight : Nat) (mo_aheight : Nat) (mo_achairOf : Nat) (mo_anoteMinute : Nat) (mo_anoteWho : Nat) (mo_anoteIs : Nat) (mo_atoldCane : Nat) (mo_anewScalar : Nat) (mo_anewCane : Nat) (mo_anewHeight : Nat) (mo_anewStrand : Nat) (mo_anewChair : Nat) (mo_anewWeight : Nat) (mo_taped : Int32) (mo_p : Int32) (mo_fault : Int32) (mo_slot : Int32) (mo_rules : Int32) (mo_entries : Int32) (mo_deep : Int32) (mo_counted : Int32) (mo_opened : Int32) (mo_words : Int32) (mo_atape : Nat) (mo_asort : Nat) (mo_anumber : Nat) (mo_aclauses : Nat) (mo_asumAt : Nat) (mo_atestAt : Nat) (mo_aendAt : Nat) (mo_aopen : Nat) (mo_aasked : Nat) (mo_astack : Nat) (mo_amust : Nat) (mo_apast : Nat) (mo_apastOf : Nat) (mo_pastMany : Int32) (mo_pastAt : Int32) (mo_takesBack : Int32) (mo_acanRise : Nat) (mo_afirstHas : Nat) (mo_asecondHas : Nat) (mo_alay : Nat) (mo_ashows : Nat) (mo_aimages : Nat) (mo_aisMade : Nat) (mo_imageAt : Int32) (mo_rimages : Nat → Int32) (a : Nat) (a_r : Nat → Int32) (h_mo_taped : iv (0) (400) mo_taped) (h_mo_p : iv (0) (402) mo_p) (h_mo_fault : iv (0) (4000) mo_fault) (h_mo_slot : iv (0) (5) mo_slot) (h_mo_rules : iv (0) (6) mo_rules) (h_mo_entries : iv (0) (300) mo_entries) (h_mo_counted : iv (0) (70) mo_counted) (h_mo_opened : iv (0) (402) mo_opened) (h_mo_words : iv (11) (11) mo_words) (h_mo_pastMany : iv (0) (20) mo_pastMany) (h_mo_pastAt : iv (0) (260) mo_pastAt) (h_mo_takesBack : iv (0) (1) mo_takesBack) (h_mo_imageAt : iv (0) (2000) mo_imageAt) (hr_a : mo_imageAt.toInt = ca) (hr_n : ca + 8 ≤ 2000) : CtV l yX9_carryRow wsX9_carryRow (rmK 1 0 0) [.ref mo, .ref a] D k sz ([(mo, .inr (7, [.int mo_thrown, .ref mo_ascalar, .ref mo_acane, .ref mo_ais, .ref mo_astrandOf, .ref mo_aweight, .ref mo_aheight, .ref mo_achairOf, .ref mo_anoteMinute, .ref mo_anoteWho, .ref mo_anoteIs, .ref mo_atoldCane, .ref mo_anewScalar, .ref mo_anewCane, .ref mo_anewHeight, .ref mo_anewStrand, .ref mo_anewChair, .ref mo_anewWeight, .int mo_taped, .int mo_p, .int mo_fault, .int mo_slot, .int mo_rules, .int mo_entries, .int mo_deep, .int mo_counted, .int mo_opened, .int mo_words, .ref mo_atape, .ref mo_asort, .ref mo_anumber, .ref mo_aclauses, .ref mo_asumAt, .ref mo_atestAt, .ref mo_aendAt, .ref mo_aopen, .ref mo_aasked, .ref mo_astack, .ref mo_amust, .ref mo_apast, .ref mo_apastOf, .int mo_pastMany, .int mo_pastAt, .int mo_takesBack, .ref mo_acanRise, .ref mo_afirstHas, .ref mo_asecondHas, .ref mo_alay, .ref mo_ashows, .ref mo_aimages, .ref mo_aisMade, .int mo_imageAt, .int 1])), (mo_aimages, hcI k 2000 mo_rimages), (a, hcI k 8 a_r)]) (fun u : (Int32) × (Nat → Int32) => iv (0) (2000) (u.1) ∧ (CpO a_r (u.2) mo_rimages ca 8 ∧ (u.1).toInt = ca + 8)) (fun u : (Int32) × (Nat → Int32) => [(mo, .inr (7, [.int mo_thrown, .ref mo_ascalar, .ref mo_acane, .ref mo_ais, .ref mo_astrandOf, .ref mo_aweight, .ref mo_aheight, .ref mo_achairOf, .ref mo_anoteMinute, .ref mo_anoteWho, .ref mo_anoteIs, .ref mo_atoldCane, .ref mo_anewScalar, .ref mo_anewCane, .ref mo_anewHeight, .ref mo_anewStrand, .ref mo_anewChair, .ref mo_anewWeight, .int mo_taped, .int mo_p, .int mo_fault, .int mo_slot, .int mo_rules, .int mo_entries, .int mo_deep, .int mo_counted, .int mo_opened, .int mo_words, .ref mo_atape, .ref mo_asort, .ref mo_anumber, .ref mo_aclauses, .ref mo_asumAt, .ref mo_atestAt, .ref mo_aendAt, .ref mo_aopen, .ref mo_aasked, .ref mo_astack, .ref mo_amust, .ref mo_apast, .ref mo_apastOf, .int mo_pastMany, .int mo_pastAt, .int mo_takesBack, .ref mo_acanRise, .ref mo_afirstHas, .ref mo_asecondHas, .ref mo_alay, .ref mo_ashows, .ref mo_aimages, .ref mo_aisMade, .int (u.1), .int 1])), (mo_aimages, hcI k 2000 mo_rimages), (a, hcI k 8 (u.2))]) 0 0 := by
  have h_mo_taped_l := h_mo_taped.1
  have h_mo_taped_u := h_mo_taped.2
  have h_mo_p_l := h_mo_p.1
  have h_mo_p_u := h_mo_p.2
  have h_mo_fault_l := h_mo_fault.1
  have h_mo_fault_u := h_mo_fault.2
  have h_mo_slot_l := h_mo_slot.1
  have h_mo_slot_u := h_mo_slot.2
  have h_mo_rules_l := h_mo_rules.1
  have h_mo_rules_u := h_mo_rules.2
  have h_mo_entries_l := h_mo_entries.1
  have h_mo_entries_u := h_mo_entries.2
  have h_mo_counted_l := h_mo_counted.1
  have h_mo_counted_u := h_mo_counted.2
  have h_mo_opened_l := h_mo_opened.1
  have h_mo_opened_u := h_mo_opened.2
  have h_mo_words_l := h_mo_words.1
  have h_mo_words_u := h_mo_words.2
  have h_mo_pastMany_l := h_mo_pastMany.1
  have h_mo_pastMany_u := h_mo_pastMany.2
  have h_mo_pastAt_l := h_mo_pastAt.1
  have h_mo_pastAt_u := h_mo_pastAt.2
  have h_mo_takesBack_l := h_mo_takesBack.1
  have h_mo_takesBack_u := h_mo_takesBack.2
  have h_mo_imageAt_l := h_mo_imageAt.1
  have h_mo_imageAt_u := h_mo_imageAt.2
  refine CtV.mk (cc := cX9_carryRow) (maxL := 3) (ret := none) (by decide) rfl (Nat.le_of_ble_eq_true rfl) ?_
  intro p e s m below meth c A ls E hP hD hS hl
  obtain ⟨hx, hb, hr, hml, hown, hts, hlocks, hin, hG, hA⟩ := E
  have hown : s.vm.findClass RX9 = some m.cls := hown
  have in9 : ∀ w ∈ u_ws RX9 TX9 53, w ∈ wsX9_carryRow := fun _ h => List.mem_cons_of_mem _ (List.mem_append_right _ h)
  have hl : lv_has ls 3 [(0, .ref mo), (1, .ref a)] := hl
  refine lv_iconst (v := 0) hx hb dX9_carryRow_0 (by decide) ?_
  refine lv_istore_n (lv' := [(2, .int 0), (0, .ref mo), (1, .ref a)]) hx hb dX9_carryRow_1 rfl hl (by decide) rfl (fun ls hl => ?_)
  have loop1 : ∀ (fu : Nat) (L2_1 : Int32) (K51_1mo : Int32) (g_1a : Nat → Int32), iv (0) (8) L2_1 → iv (0) (2000) K51_1mo → K51_1mo.toInt = ca + L2_1.toInt → CpO a_r g_1a mo_rimages ca L2_1.toInt → 9 - L2_1.toInt < (fu : Int) → ∀ (H : Heap) (locs : List Loc) (ls : Array Slot), va_P D vwCl ([(mo, .inr (7, [.int mo_thrown, .ref mo_ascalar, .ref mo_acane, .ref mo_ais, .ref mo_astrandOf, .ref mo_aweight, .ref mo_aheight, .ref mo_achairOf, .ref mo_anoteMinute, .ref mo_anoteWho, .ref mo_anoteIs, .ref mo_atoldCane, .ref mo_anewScalar, .ref mo_anewCane, .ref mo_anewHeight, .ref mo_anewStrand, .ref mo_anewChair, .ref mo_anewWeight, .int mo_taped, .int mo_p, .int mo_fault, .int mo_slot, .int mo_rules, .int mo_entries, .int mo_deep, .int mo_counted, .int mo_opened, .int mo_words, .ref mo_atape, .ref mo_asort, .ref mo_anumber, .ref mo_aclauses, .ref mo_asumAt, .ref mo_atestAt, .ref mo_aendAt, .ref mo_aopen, .ref mo_aasked, .ref mo_astack, .ref mo_amust, .ref mo_apast, .ref mo_apastOf, .int mo_pastMany, .int mo_pastAt, .int mo_takesBack, .ref mo_acanRise, .ref mo_afirstHas, .ref mo_asecondHas, .ref mo_alay, .ref mo_ashows, .ref mo_aimages, .ref mo_aisMade, .int K51_1mo, .int 1])), (mo_aimages, hcI k 2000 mo_rimages), (a, hcI k 8 g_1a)]) H → va_D A ([(mo, .inr (7, [.int mo_thrown, .ref mo_ascalar, .ref mo_acane, .ref mo_ais, .ref mo_astrandOf, .ref mo_aweight, .ref mo_aheight, .ref mo_achairOf, .ref mo_anoteMinute, .ref mo_anoteWho, .ref mo_anoteIs, .ref mo_atoldCane, .ref mo_anewScalar, .ref mo_anewCane, .ref mo_anewHeight, .ref mo_anewStrand, .ref mo_anewChair, .ref mo_anewWeight, .int mo_taped, .int mo_p, .int mo_fault, .int mo_slot, .int mo_rules, .int mo_entries, .int mo_deep, .int mo_counted, .int mo_opened, .int mo_words, .ref mo_atape, .ref mo_asort, .ref mo_anumber, .ref mo_aclauses, .ref mo_asumAt, .ref mo_atestAt, .ref mo_aendAt, .ref mo_aopen, .ref mo_aasked, .ref mo_astack, .ref mo_amust, .ref mo_apast, .ref mo_apastOf, .int mo_pastMany, .int mo_pastAt, .int mo_takesBack, .ref mo_acanRise, .ref mo_afirstHas, .ref mo_asecondHas, .ref mo_alay, .ref mo_ashows, .ref mo_aimages, .ref mo_aisMade, .int K51_1mo, .int 1])), (mo_aimages, hcI k 2000 mo_rimages), (a, hcI k 8 g_1a)]) → va_S A s.heap H locs → lv_has ls 3 [(2, .int L2_1), (0, .ref mo), (1, .ref a)] → W p l e (rmK 1 0 0) s m (List.toArray [.ref mo, .ref a]) below meth c H locs 0 0 (MQ below (va_Qv (fun u : (Int32) × (Nat → Int32) => iv (0) (2000) (u.1) ∧ (CpO a_r (u.2) mo_rimages ca 8 ∧ (u.1).toInt = ca + 8)) (hcB D (fun u : (Int32) × (Nat → Int32) => [(mo, .inr (7, [.int mo_thrown, .ref mo_ascalar, .ref mo_acane, .ref mo_ais, .ref mo_astrandOf, .ref mo_aweight, .ref mo_aheight, .ref mo_achairOf, .ref mo_anoteMinute, .ref mo_anoteWho, .ref mo_anoteIs, .ref mo_atoldCane, .ref mo_anewScalar, .ref mo_anewCane, .ref mo_anewHeight, .ref mo_anewStrand, .ref mo_anewChair, .ref mo_anewWeight, .int mo_taped, .int mo_p, .int mo_fault, .int mo_slot, .int mo_rules, .int mo_entries, .int mo_deep, .int mo_counted, .int mo_opened, .int mo_words, .ref mo_atape, .ref mo_asort, .ref mo_anumber, .ref mo_aclauses, .ref mo_asumAt, .ref mo_atestAt, .ref mo_aendAt, .ref mo_aopen, .ref mo_aasked, .ref mo_astack, .ref mo_amust, .ref mo_apast, .ref mo_apastOf, .int mo_pastMany, .int mo_pastAt, .int mo_takesBack, .ref mo_acanRise, .ref mo_afirstHas, .ref mo_asecondHas, .ref mo_alay, .ref mo_ashows, .ref mo_aimages, .ref mo_aisMade, .int (u.1), .int 1])), (mo_aimages, hcI k 2000 mo_rimages), (a, hcI k 8 (u.2))]) A) A) (List.toArray [.ref mo, .ref a]) s 0 0 A) (F0 m 2 ls []) := by
    intro fu
    induction fu with
    | zero =>
      intro L2_1 K51_1mo g_1a bL2_1 bK51_1mo hI1_1 hp1_1 hm
      have bL2_1_l := bL2_1.1
      have bL2_1_u := bL2_1.2
      have bK51_1mo_l := bK51_1mo.1
      have bK51_1mo_u := bK51_1mo.2
      exact absurd hm (by omega)
    | succ fu ih1 =>
      intro L2_1 K51_1mo g_1a bL2_1 bK51_1mo hI1_1 hp1_1 hm H locs ls hP hD hS hl
      have bL2_1_l := bL2_1.1
      have bL2_1_u := bL2_1.2
      have bK51_1mo_l := bK51_1mo.1
      have bK51_1mo_u := bK51_1mo.2
      refine lv_iload_n hx hb dX9_carryRow_2 rfl (lv_at hl 0 rfl) ?_
      refine lv_aload_n hx hb dX9_carryRow_3 rfl (lv_at hl 2 rfl) ?_
      refine va_alen hx hb hG.1 hP 2 0 rfl rfl (v := 8) rfl dX9_carryRow_4 ?_
      refine lv_icmp_ge (tgt := 58) hx hb dX9_carryRow_5 (by decide) (fun c2 => ?_) (fun c2 => ?_)
      · have fc2 := cx_ge_t (a := L2_1.toInt) (b := 8) rfl (by decide) c2
        exact hc_endV hx hb hr hlocks (K51_1mo, g_1a) ⟨(show iv (0) (2000) K51_1mo from ⟨by omega, by omega⟩), (by (try dsimp only); exact (by have e9 : L2_1.toInt = 8 := (by omega); rw [← e9]; exact ⟨hp1_1, by omega⟩))⟩ hP hD hS dX9_carryRow_58
      · have fc2 := cx_ge_f (a := L2_1.toInt) (b := 8) rfl (by decide) c2
        refine lv_aload_n hx hb dX9_carryRow_8 rfl (lv_at hl 1 rfl) ?_
        refine va_get (D := D) (ci := 7) (v := .int 1) (C := RX9) (T := TX9) (N := 53) hx hb hts in9 hown hG.1 hP 0 rfl rfl 52 (by decide) (hts (.fieldLink RX9 483 "ChairCaneModel" "goesBack" "Z") (by decide +kernel)) (fun _ h9 => h9) rfl dX9_carryRow_9 ?_
        refine lv_if_eq (tgt := 30) hx hb dX9_carryRow_12 (by decide) (fun h => absurd h (by decide)) (fun _ => ?_)
        refine lv_aload_n hx hb dX9_carryRow_15 rfl (lv_at hl 2 rfl) ?_
        refine lv_iload_n hx hb dX9_carryRow_16 rfl (lv_at hl 0 rfl) ?_
        refine lv_aload_n hx hb dX9_carryRow_17 rfl (lv_at hl 1 rfl) ?_
        refine va_get (D := D) (ci := 7) (v := .ref mo_aimages) (C := RX9) (T := TX9) (N := 53) hx hb hts in9 hown hG.1 hP 0 rfl rfl 49 (by decide) (hts (.fieldLink RX9 122 "ChairCaneModel" "images" "[I") (by decide +kernel)) (fun _ h9 => h9) rfl dX9_carryRow_18 ?_
        refine lv_aload_n hx hb dX9_carryRow_21 rfl (lv_at hl 1 rfl) ?_
        refine va_get (D := D) (ci := 7) (v := .int K51_1mo) (C := RX9) (T := TX9) (N := 53) hx hb hts in9 hown hG.1 hP 0 rfl rfl 51 (by decide) (hts (.fieldLink RX9 486 "ChairCaneModel" "imageAt" "I") (by decide +kernel)) (fun _ h9 => h9) rfl dX9_carryRow_22 ?_
        refine va_iald hx hb hG.1 hP 1 0 rfl rfl (vp_in_iff.mpr ⟨by omega, by omega⟩) dX9_carryRow_25 ?_
        refine lv_topi (fun z3 ez3 => ?_)
        refine va_iast hx hb hG.1 hP hD hS 2 0 rfl rfl (vp_in_iff.mpr ⟨by omega, by omega⟩) dX9_carryRow_26 (fun H locs hP hD hS => ?_)
        obtain ⟨f4, ef4⟩ : ∃ f, f = upd g_1a (Int32.toNatClampNeg L2_1) (z3) := ⟨_, rfl⟩
        rw [← ef4] at hP hD
        have hP : va_P D vwCl ([(mo, .inr (7, [.int mo_thrown, .ref mo_ascalar, .ref mo_acane, .ref mo_ais, .ref mo_astrandOf, .ref mo_aweight, .ref mo_aheight, .ref mo_achairOf, .ref mo_anoteMinute, .ref mo_anoteWho, .ref mo_anoteIs, .ref mo_atoldCane, .ref mo_anewScalar, .ref mo_anewCane, .ref mo_anewHeight, .ref mo_anewStrand, .ref mo_anewChair, .ref mo_anewWeight, .int mo_taped, .int mo_p, .int mo_fault, .int mo_slot, .int mo_rules, .int mo_entries, .int mo_deep, .int mo_counted, .int mo_opened, .int mo_words, .ref mo_atape, .ref mo_asort, .ref mo_anumber, .ref mo_aclauses, .ref mo_asumAt, .ref mo_atestAt, .ref mo_aendAt, .ref mo_aopen, .ref mo_aasked, .ref mo_astack, .ref mo_amust, .ref mo_apast, .ref mo_apastOf, .int mo_pastMany, .int mo_pastAt, .int mo_takesBack, .ref mo_acanRise, .ref mo_afirstHas, .ref mo_asecondHas, .ref mo_alay, .ref mo_ashows, .ref mo_aimages, .ref mo_aisMade, .int K51_1mo, .int 1])), (mo_aimages, hcI k 2000 mo_rimages), (a, hcI k 8 f4)]) H := hP
        have hD : va_D A ([(mo, .inr (7, [.int mo_thrown, .ref mo_ascalar, .ref mo_acane, .ref mo_ais, .ref mo_astrandOf, .ref mo_aweight, .ref mo_aheight, .ref mo_achairOf, .ref mo_anoteMinute, .ref mo_anoteWho, .ref mo_anoteIs, .ref mo_atoldCane, .ref mo_anewScalar, .ref mo_anewCane, .ref mo_anewHeight, .ref mo_anewStrand, .ref mo_anewChair, .ref mo_anewWeight, .int mo_taped, .int mo_p, .int mo_fault, .int mo_slot, .int mo_rules, .int mo_entries, .int mo_deep, .int mo_counted, .int mo_opened, .int mo_words, .ref mo_atape, .ref mo_asort, .ref mo_anumber, .ref mo_aclauses, .ref mo_asumAt, .ref mo_atestAt, .ref mo_aendAt, .ref mo_aopen, .ref mo_aasked, .ref mo_astack, .ref mo_amust, .ref mo_apast, .ref mo_apastOf, .int mo_pastMany, .int mo_pastAt, .int mo_takesBack, .ref mo_acanRise, .ref mo_afirstHas, .ref mo_asecondHas, .ref mo_alay, .ref mo_ashows, .ref mo_aimages, .ref mo_aisMade, .int K51_1mo, .int 1])), (mo_aimages, hcI k 2000 mo_rimages), (a, hcI k 8 f4)]) := hD
        refine lv_goto (tgt := 42) hx hb dX9_carryRow_27 (by decide) ?_
        refine lv_aload_n hx hb dX9_carryRow_42 rfl (lv_at hl 1 rfl) ?_
        refine lv_dup hx hb dX9_carryRow_43 rfl ?_
        refine va_get (D := D) (ci := 7) (v := .int K51_1mo) (C := RX9) (T := TX9) (N := 53) hx hb hts in9 hown hG.1 hP 0 rfl rfl 51 (by decide) (hts (.fieldLink RX9 486 "ChairCaneModel" "imageAt" "I") (by decide +kernel)) (fun _ h9 => h9) rfl dX9_carryRow_44 ?_
        refine lv_iconst (v := 1) hx hb dX9_carryRow_47 (by decide) ?_
        refine lv_iadd hx hb dX9_carryRow_48 ?_
        refine lv_topi (fun z5 ez5 => ?_)
        have tz5 : z5.toInt = K51_1mo.toInt + 1 := ai_add rfl (by decide) ez5 (by omega) (by omega)
        refine va_put (D := D) (ci := 7) (v := .int z5) (C := RX9) (T := TX9) (N := 53) hx hb hts in9 tyX9 tyX9_ok nmX9 hown hG.1 hP hD hS 0 rfl rfl 51 (by decide) (hts (.fieldLink RX9 486 "ChairCaneModel" "imageAt" "I") (by decide +kernel)) (fun _ h9 => h9) rfl (tyX9_ok 51 (by decide)) rfl rfl (Nat.le_of_ble_eq_true rfl) dX9_carryRow_49 (fun H locs hP hD hS => ?_)
        have hP : va_P D vwCl ([(mo, .inr (7, [.int mo_thrown, .ref mo_ascalar, .ref mo_acane, .ref mo_ais, .ref mo_astrandOf, .ref mo_aweight, .ref mo_aheight, .ref mo_achairOf, .ref mo_anoteMinute, .ref mo_anoteWho, .ref mo_anoteIs, .ref mo_atoldCane, .ref mo_anewScalar, .ref mo_anewCane, .ref mo_anewHeight, .ref mo_anewStrand, .ref mo_anewChair, .ref mo_anewWeight, .int mo_taped, .int mo_p, .int mo_fault, .int mo_slot, .int mo_rules, .int mo_entries, .int mo_deep, .int mo_counted, .int mo_opened, .int mo_words, .ref mo_atape, .ref mo_asort, .ref mo_anumber, .ref mo_aclauses, .ref mo_asumAt, .ref mo_atestAt, .ref mo_aendAt, .ref mo_aopen, .ref mo_aasked, .ref mo_astack, .ref mo_amust, .ref mo_apast, .ref mo_apastOf, .int mo_pastMany, .int mo_pastAt, .int mo_takesBack, .ref mo_acanRise, .ref mo_afirstHas, .ref mo_asecondHas, .ref mo_alay, .ref mo_ashows, .ref mo_aimages, .ref mo_aisMade, .int z5, .int 1])), (mo_aimages, hcI k 2000 mo_rimages), (a, hcI k 8 f4)]) H := hP
        have hD : va_D A ([(mo, .inr (7, [.int mo_thrown, .ref mo_ascalar, .ref mo_acane, .ref mo_ais, .ref mo_astrandOf, .ref mo_aweight, .ref mo_aheight, .ref mo_achairOf, .ref mo_anoteMinute, .ref mo_anoteWho, .ref mo_anoteIs, .ref mo_atoldCane, .ref mo_anewScalar, .ref mo_anewCane, .ref mo_anewHeight, .ref mo_anewStrand, .ref mo_anewChair, .ref mo_anewWeight, .int mo_taped, .int mo_p, .int mo_fault, .int mo_slot, .int mo_rules, .int mo_entries, .int mo_deep, .int mo_counted, .int mo_opened, .int mo_words, .ref mo_atape, .ref mo_asort, .ref mo_anumber, .ref mo_aclauses, .ref mo_asumAt, .ref mo_atestAt, .ref mo_aendAt, .ref mo_aopen, .ref mo_aasked, .ref mo_astack, .ref mo_amust, .ref mo_apast, .ref mo_apastOf, .int mo_pastMany, .int mo_pastAt, .int mo_takesBack, .ref mo_acanRise, .ref mo_afirstHas, .ref mo_asecondHas, .ref mo_alay, .ref mo_ashows, .ref mo_aimages, .ref mo_aisMade, .int z5, .int 1])), (mo_aimages, hcI k 2000 mo_rimages), (a, hcI k 8 f4)]) := hD
        obtain ⟨z6, ez6⟩ : ∃ z : Int32, z = L2_1 + 1 := ⟨_, rfl⟩
        have tz6 : z6.toInt = L2_1.toInt + (1) := ai_add rfl (by decide) ez6 (by omega) (by omega)
        refine lv_iinc (v := z6) (lv' := [(2, .int z6), (0, .ref mo), (1, .ref a)]) hx hb dX9_carryRow_52 hl (k := 0) rfl (by rw [ez6]; rfl) (by decide) rfl (fun ls hl => ?_)
        refine lv_goto (tgt := 2) hx hb dX9_carryRow_55 (by decide) ?_
        exact ih1 z6 z5 f4 ⟨by omega, by omega⟩ ⟨by omega, by omega⟩ (by omega) (CpO_s hp1_1 (by omega) (by omega) (i := K51_1mo) (by omega) tz6 ez3 ef4) (by omega) _ _ _ hP hD hS (lv_sub hl [0, 1, 2] rfl)
  exact loop1 300 0 mo_imageAt a_r (iv_lit (by decide) (by decide)) ⟨by omega, by omega⟩ (by have q0 : (0 : Int32).toInt = 0 := (by decide); omega) (CpO_0) (by have q0 : (0 : Int32).toInt = 0 := (by decide); omega) _ _ _ hP hD hS hl
set_option maxHeartbeats 4000000 in
set_option maxRecDepth 100000 in
theorem i_X9_carryRow_4_0 (l : Launch) (D : va_G) (k : Nat → ClassId) (sz : Nat) (ca : Int) (mo : Nat) (mo_thrown : Int32) (mo_ascalar : Nat) (mo_acane : Nat) (mo_ais : Nat) (mo_astrandOf : Nat) (mo_aweight : Nat) (mo_aheight : Nat) (mo_achairOf : Nat) (mo_anoteMinute : Nat) (mo_anoteWho : Nat) (mo_anoteIs : Nat) (mo_atoldCane : Nat) (mo_anewScalar : Nat) (mo_anewCane : Nat) (mo_anewHeight : Nat) (mo_anewStrand : Nat) (mo_anewChair : Nat) (mo_anewWeight : Nat) (mo_taped : Int32) (mo_p : Int32) (mo_fault : Int32) (mo_slot : Int32) (mo_rules : Int32) (mo_entries : Int32) (mo_deep : Int32) (mo_counted : Int32) (mo_opened : Int32) (mo_words : Int32) (mo_atape : Nat) (mo_asort : Nat) (mo_anumber : Nat) (mo_aclauses : Nat) (mo_asumAt : Nat) (mo_atestAt : Nat) (mo_aendAt : Nat) (mo_aopen : Nat) (mo_aasked : Nat) (mo_astack : Nat) (mo_amust : Nat) (mo_apast : Nat) (mo_apastOf : Nat) (mo_pastMany : Int32) (mo_pastAt : Int32) (mo_takesBack : Int32) (mo_acanRise : Nat) (mo_afirstHas : Nat) (mo_asecondHas : Nat) (mo_alay : Nat) (mo_ashows : Nat) (mo_aimages : Nat) (mo_aisMade : Nat) (mo_imageAt : Int32) (mo_rimages : Nat → Int32) (a : Nat) (a_r : Nat → Int32) (h_mo_taped : iv (0) (400) mo_taped) (h_mo_p : iv (0) (402) mo_p) (h_mo_fault : iv (0) (4000) mo_fault) (h_mo_slot : iv (0) (5) mo_slot) (h_mo_rules : iv (0) (6) mo_rules) (h_mo_entries : iv (0) (300) mo_entries) (h_mo_counted : iv (0) (70) mo_counted) (h_mo_opened : iv (0) (402) mo_opened) (h_mo_words : iv (11) (11) mo_words) (h_mo_pastMany : iv (0) (20) mo_pastMany) (h_mo_pastAt : iv (0) (260) mo_pastAt) (h_mo_takesBack : iv (0) (1) mo_takesBack) (h_mo_imageAt : iv (0) (2000) mo_imageAt) (hr_a : mo_imageAt.toInt = ca) (hr_n : ca + 4 ≤ 2000) : CtV l yX9_carryRow wsX9_carryRow (rmK 1 0 0) [.ref mo, .ref a] D k sz ([(mo, .inr (7, [.int mo_thrown, .ref mo_ascalar, .ref mo_acane, .ref mo_ais, .ref mo_astrandOf, .ref mo_aweight, .ref mo_aheight, .ref mo_achairOf, .ref mo_anoteMinute, .ref mo_anoteWho, .ref mo_anoteIs, .ref mo_atoldCane, .ref mo_anewScalar, .ref mo_anewCane, .ref mo_anewHeight, .ref mo_anewStrand, .ref mo_anewChair, .ref mo_anewWeight, .int mo_taped, .int mo_p, .int mo_fault, .int mo_slot, .int mo_rules, .int mo_entries, .int mo_deep, .int mo_counted, .int mo_opened, .int mo_words, .ref mo_atape, .ref mo_asort, .ref mo_anumber, .ref mo_aclauses, .ref mo_asumAt, .ref mo_atestAt, .ref mo_aendAt, .ref mo_aopen, .ref mo_aasked, .ref mo_astack, .ref mo_amust, .ref mo_apast, .ref mo_apastOf, .int mo_pastMany, .int mo_pastAt, .int mo_takesBack, .ref mo_acanRise, .ref mo_afirstHas, .ref mo_asecondHas, .ref mo_alay, .ref mo_ashows, .ref mo_aimages, .ref mo_aisMade, .int mo_imageAt, .int 0])), (mo_aimages, hcI k 2000 mo_rimages), (a, hcI k 4 a_r)]) (fun u : (Int32) × (Nat → Int32) => iv (0) (2000) (u.1) ∧ (CpI mo_rimages (u.2) a_r ca 4 ∧ (u.1).toInt = ca + 4)) (fun u : (Int32) × (Nat → Int32) => [(mo, .inr (7, [.int mo_thrown, .ref mo_ascalar, .ref mo_acane, .ref mo_ais, .ref mo_astrandOf, .ref mo_aweight, .ref mo_aheight, .ref mo_achairOf, .ref mo_anoteMinute, .ref mo_anoteWho, .ref mo_anoteIs, .ref mo_atoldCane, .ref mo_anewScalar, .ref mo_anewCane, .ref mo_anewHeight, .ref mo_anewStrand, .ref mo_anewChair, .ref mo_anewWeight, .int mo_taped, .int mo_p, .int mo_fault, .int mo_slot, .int mo_rules, .int mo_entries, .int mo_deep, .int mo_counted, .int mo_opened, .int mo_words, .ref mo_atape, .ref mo_asort, .ref mo_anumber, .ref mo_aclauses, .ref mo_asumAt, .ref mo_atestAt, .ref mo_aendAt, .ref mo_aopen, .ref mo_aasked, .ref mo_astack, .ref mo_amust, .ref mo_apast, .ref mo_apastOf, .int mo_pastMany, .int mo_pastAt, .int mo_takesBack, .ref mo_acanRise, .ref mo_afirstHas, .ref mo_asecondHas, .ref mo_alay, .ref mo_ashows, .ref mo_aimages, .ref mo_aisMade, .int (u.1), .int 0])), (mo_aimages, hcI k 2000 (u.2)), (a, hcI k 4 a_r)]) 0 0 := by
  have h_mo_taped_l := h_mo_taped.1
  have h_mo_taped_u := h_mo_taped.2
  have h_mo_p_l := h_mo_p.1
  have h_mo_p_u := h_mo_p.2
  have h_mo_fault_l := h_mo_fault.1
  have h_mo_fault_u := h_mo_fault.2
  have h_mo_slot_l := h_mo_slot.1
  have h_mo_slot_u := h_mo_slot.2
  have h_mo_rules_l := h_mo_rules.1
  have h_mo_rules_u := h_mo_rules.2
  have h_mo_entries_l := h_mo_entries.1
  have h_mo_entries_u := h_mo_entries.2
  have h_mo_counted_l := h_mo_counted.1
  have h_mo_counted_u := h_mo_counted.2
  have h_mo_opened_l := h_mo_opened.1
  have h_mo_opened_u := h_mo_opened.2
  have h_mo_words_l := h_mo_words.1
  have h_mo_words_u := h_mo_words.2
  have h_mo_pastMany_l := h_mo_pastMany.1
  have h_mo_pastMany_u := h_mo_pastMany.2
  have h_mo_pastAt_l := h_mo_pastAt.1
  have h_mo_pastAt_u := h_mo_pastAt.2
  have h_mo_takesBack_l := h_mo_takesBack.1
  have h_mo_takesBack_u := h_mo_takesBack.2
  have h_mo_imageAt_l := h_mo_imageAt.1
  have h_mo_imageAt_u := h_mo_imageAt.2
  refine CtV.mk (cc := cX9_carryRow) (maxL := 3) (ret := none) (by decide) rfl (Nat.le_of_ble_eq_true rfl) ?_
  intro p e s m below meth c A ls E hP hD hS hl
  obtain ⟨hx, hb, hr, hml, hown, hts, hlocks, hin, hG, hA⟩ := E
  have hown : s.vm.findClass RX9 = some m.cls := hown
  have in9 : ∀ w ∈ u_ws RX9 TX9 53, w ∈ wsX9_carryRow := fun _ h => List.mem_cons_of_mem _ (List.mem_append_right _ h)
  have hl : lv_has ls 3 [(0, .ref mo), (1, .ref a)] := hl
  refine lv_iconst (v := 0) hx hb dX9_carryRow_0 (by decide) ?_
  refine lv_istore_n (lv' := [(2, .int 0), (0, .ref mo), (1, .ref a)]) hx hb dX9_carryRow_1 rfl hl (by decide) rfl (fun ls hl => ?_)
  have loop1 : ∀ (fu : Nat) (L2_1 : Int32) (K51_1mo : Int32) (g_1mo_aimages : Nat → Int32), iv (0) (4) L2_1 → iv (0) (2000) K51_1mo → K51_1mo.toInt = ca + L2_1.toInt → CpI mo_rimages g_1mo_aimages a_r ca L2_1.toInt → 5 - L2_1.toInt < (fu : Int) → ∀ (H : Heap) (locs : List Loc) (ls : Array Slot), va_P D vwCl ([(mo, .inr (7, [.int mo_thrown, .ref mo_ascalar, .ref mo_acane, .ref mo_ais, .ref mo_astrandOf, .ref mo_aweight, .ref mo_aheight, .ref mo_achairOf, .ref mo_anoteMinute, .ref mo_anoteWho, .ref mo_anoteIs, .ref mo_atoldCane, .ref mo_anewScalar, .ref mo_anewCane, .ref mo_anewHeight, .ref mo_anewStrand, .ref mo_anewChair, .ref mo_anewWeight, .int mo_taped, .int mo_p, .int mo_fault, .int mo_slot, .int mo_rules, .int mo_entries, .int mo_deep, .int mo_counted, .int mo_opened, .int mo_words, .ref mo_atape, .ref mo_asort, .ref mo_anumber, .ref mo_aclauses, .ref mo_asumAt, .ref mo_atestAt, .ref mo_aendAt, .ref mo_aopen, .ref mo_aasked, .ref mo_astack, .ref mo_amust, .ref mo_apast, .ref mo_apastOf, .int mo_pastMany, .int mo_pastAt, .int mo_takesBack, .ref mo_acanRise, .ref mo_afirstHas, .ref mo_asecondHas, .ref mo_alay, .ref mo_ashows, .ref mo_aimages, .ref mo_aisMade, .int K51_1mo, .int 0])), (mo_aimages, hcI k 2000 g_1mo_aimages), (a, hcI k 4 a_r)]) H → va_D A ([(mo, .inr (7, [.int mo_thrown, .ref mo_ascalar, .ref mo_acane, .ref mo_ais, .ref mo_astrandOf, .ref mo_aweight, .ref mo_aheight, .ref mo_achairOf, .ref mo_anoteMinute, .ref mo_anoteWho, .ref mo_anoteIs, .ref mo_atoldCane, .ref mo_anewScalar, .ref mo_anewCane, .ref mo_anewHeight, .ref mo_anewStrand, .ref mo_anewChair, .ref mo_anewWeight, .int mo_taped, .int mo_p, .int mo_fault, .int mo_slot, .int mo_rules, .int mo_entries, .int mo_deep, .int mo_counted, .int mo_opened, .int mo_words, .ref mo_atape, .ref mo_asort, .ref mo_anumber, .ref mo_aclauses, .ref mo_asumAt, .ref mo_atestAt, .ref mo_aendAt, .ref mo_aopen, .ref mo_aasked, .ref mo_astack, .ref mo_amust, .ref mo_apast, .ref mo_apastOf, .int mo_pastMany, .int mo_pastAt, .int mo_takesBack, .ref mo_acanRise, .ref mo_afirstHas, .ref mo_asecondHas, .ref mo_alay, .ref mo_ashows, .ref mo_aimages, .ref mo_aisMade, .int K51_1mo, .int 0])), (mo_aimages, hcI k 2000 g_1mo_aimages), (a, hcI k 4 a_r)]) → va_S A s.heap H locs → lv_has ls 3 [(2, .int L2_1), (0, .ref mo), (1, .ref a)] → W p l e (rmK 1 0 0) s m (List.toArray [.ref mo, .ref a]) below meth c H locs 0 0 (MQ below (va_Qv (fun u : (Int32) × (Nat → Int32) => iv (0) (2000) (u.1) ∧ (CpI mo_rimages (u.2) a_r ca 4 ∧ (u.1).toInt = ca + 4)) (hcB D (fun u : (Int32) × (Nat → Int32) => [(mo, .inr (7, [.int mo_thrown, .ref mo_ascalar, .ref mo_acane, .ref mo_ais, .ref mo_astrandOf, .ref mo_aweight, .ref mo_aheight, .ref mo_achairOf, .ref mo_anoteMinute, .ref mo_anoteWho, .ref mo_anoteIs, .ref mo_atoldCane, .ref mo_anewScalar, .ref mo_anewCane, .ref mo_anewHeight, .ref mo_anewStrand, .ref mo_anewChair, .ref mo_anewWeight, .int mo_taped, .int mo_p, .int mo_fault, .int mo_slot, .int mo_rules, .int mo_entries, .int mo_deep, .int mo_counted, .int mo_opened, .int mo_words, .ref mo_atape, .ref mo_asort, .ref mo_anumber, .ref mo_aclauses, .ref mo_asumAt, .ref mo_atestAt, .ref mo_aendAt, .ref mo_aopen, .ref mo_aasked, .ref mo_astack, .ref mo_amust, .ref mo_apast, .ref mo_apastOf, .int mo_pastMany, .int mo_pastAt, .int mo_takesBack, .ref mo_acanRise, .ref mo_afirstHas, .ref mo_asecondHas, .ref mo_alay, .ref mo_ashows, .ref mo_aimages, .ref mo_aisMade, .int (u.1), .int 0])), (mo_aimages, hcI k 2000 (u.2)), (a, hcI k 4 a_r)]) A) A) (List.toArray [.ref mo, .ref a]) s 0 0 A) (F0 m 2 ls []) := by
    intro fu
    induction fu with
    | zero =>
      intro L2_1 K51_1mo g_1mo_aimages bL2_1 bK51_1mo hI1_1 hp1_1 hm
      have bL2_1_l := bL2_1.1
      have bL2_1_u := bL2_1.2
      have bK51_1mo_l := bK51_1mo.1
      have bK51_1mo_u := bK51_1mo.2
      exact absurd hm (by omega)
    | succ fu ih1 =>
      intro L2_1 K51_1mo g_1mo_aimages bL2_1 bK51_1mo hI1_1 hp1_1 hm H locs ls hP hD hS hl
      have bL2_1_l := bL2_1.1
      have bL2_1_u := bL2_1.2
      have bK51_1mo_l := bK51_1mo.1
      have bK51_1mo_u := bK51_1mo.2
      refine lv_iload_n hx hb dX9_carryRow_2 rfl (lv_at hl 0 rfl) ?_
      refine lv_aload_n hx hb dX9_carryRow_3 rfl (lv_at hl 2 rfl) ?_
      refine va_alen hx hb hG.1 hP 2 0 rfl rfl (v := 4) rfl dX9_carryRow_4 ?_
      refine lv_icmp_ge (tgt := 58) hx hb dX9_carryRow_5 (by decide) (fun c2 => ?_) (fun c2 => ?_)
      · have fc2 := cx_ge_t (a := L2_1.toInt) (b := 4) rfl (by decide) c2
        exact hc_endV hx hb hr hlocks (K51_1mo, g_1mo_aimages) ⟨(show iv (0) (2000) K51_1mo from ⟨by omega, by omega⟩), (by (try dsimp only); exact (by have e9 : L2_1.toInt = 4 := (by omega); rw [← e9]; exact ⟨hp1_1, by omega⟩))⟩ hP hD hS dX9_carryRow_58
      · have fc2 := cx_ge_f (a := L2_1.toInt) (b := 4) rfl (by decide) c2
        refine lv_aload_n hx hb dX9_carryRow_8 rfl (lv_at hl 1 rfl) ?_
        refine va_get (D := D) (ci := 7) (v := .int 0) (C := RX9) (T := TX9) (N := 53) hx hb hts in9 hown hG.1 hP 0 rfl rfl 52 (by decide) (hts (.fieldLink RX9 483 "ChairCaneModel" "goesBack" "Z") (by decide +kernel)) (fun _ h9 => h9) rfl dX9_carryRow_9 ?_
        refine lv_if_eq (tgt := 30) hx hb dX9_carryRow_12 (by decide) (fun _ => ?_) (fun h => absurd (by decide) h)
        refine lv_aload_n hx hb dX9_carryRow_30 rfl (lv_at hl 1 rfl) ?_
        refine va_get (D := D) (ci := 7) (v := .ref mo_aimages) (C := RX9) (T := TX9) (N := 53) hx hb hts in9 hown hG.1 hP 0 rfl rfl 49 (by decide) (hts (.fieldLink RX9 122 "ChairCaneModel" "images" "[I") (by decide +kernel)) (fun _ h9 => h9) rfl dX9_carryRow_31 ?_
        refine lv_aload_n hx hb dX9_carryRow_34 rfl (lv_at hl 1 rfl) ?_
        refine va_get (D := D) (ci := 7) (v := .int K51_1mo) (C := RX9) (T := TX9) (N := 53) hx hb hts in9 hown hG.1 hP 0 rfl rfl 51 (by decide) (hts (.fieldLink RX9 486 "ChairCaneModel" "imageAt" "I") (by decide +kernel)) (fun _ h9 => h9) rfl dX9_carryRow_35 ?_
        refine lv_aload_n hx hb dX9_carryRow_38 rfl (lv_at hl 2 rfl) ?_
        refine lv_iload_n hx hb dX9_carryRow_39 rfl (lv_at hl 0 rfl) ?_
        refine va_iald hx hb hG.1 hP 2 0 rfl rfl (vp_in_iff.mpr ⟨by omega, by omega⟩) dX9_carryRow_40 ?_
        refine lv_topi (fun z3 ez3 => ?_)
        refine va_iast hx hb hG.1 hP hD hS 1 0 rfl rfl (vp_in_iff.mpr ⟨by omega, by omega⟩) dX9_carryRow_41 (fun H locs hP hD hS => ?_)
        obtain ⟨f4, ef4⟩ : ∃ f, f = upd g_1mo_aimages (Int32.toNatClampNeg K51_1mo) (z3) := ⟨_, rfl⟩
        rw [← ef4] at hP hD
        have hP : va_P D vwCl ([(mo, .inr (7, [.int mo_thrown, .ref mo_ascalar, .ref mo_acane, .ref mo_ais, .ref mo_astrandOf, .ref mo_aweight, .ref mo_aheight, .ref mo_achairOf, .ref mo_anoteMinute, .ref mo_anoteWho, .ref mo_anoteIs, .ref mo_atoldCane, .ref mo_anewScalar, .ref mo_anewCane, .ref mo_anewHeight, .ref mo_anewStrand, .ref mo_anewChair, .ref mo_anewWeight, .int mo_taped, .int mo_p, .int mo_fault, .int mo_slot, .int mo_rules, .int mo_entries, .int mo_deep, .int mo_counted, .int mo_opened, .int mo_words, .ref mo_atape, .ref mo_asort, .ref mo_anumber, .ref mo_aclauses, .ref mo_asumAt, .ref mo_atestAt, .ref mo_aendAt, .ref mo_aopen, .ref mo_aasked, .ref mo_astack, .ref mo_amust, .ref mo_apast, .ref mo_apastOf, .int mo_pastMany, .int mo_pastAt, .int mo_takesBack, .ref mo_acanRise, .ref mo_afirstHas, .ref mo_asecondHas, .ref mo_alay, .ref mo_ashows, .ref mo_aimages, .ref mo_aisMade, .int K51_1mo, .int 0])), (mo_aimages, hcI k 2000 f4), (a, hcI k 4 a_r)]) H := hP
        have hD : va_D A ([(mo, .inr (7, [.int mo_thrown, .ref mo_ascalar, .ref mo_acane, .ref mo_ais, .ref mo_astrandOf, .ref mo_aweight, .ref mo_aheight, .ref mo_achairOf, .ref mo_anoteMinute, .ref mo_anoteWho, .ref mo_anoteIs, .ref mo_atoldCane, .ref mo_anewScalar, .ref mo_anewCane, .ref mo_anewHeight, .ref mo_anewStrand, .ref mo_anewChair, .ref mo_anewWeight, .int mo_taped, .int mo_p, .int mo_fault, .int mo_slot, .int mo_rules, .int mo_entries, .int mo_deep, .int mo_counted, .int mo_opened, .int mo_words, .ref mo_atape, .ref mo_asort, .ref mo_anumber, .ref mo_aclauses, .ref mo_asumAt, .ref mo_atestAt, .ref mo_aendAt, .ref mo_aopen, .ref mo_aasked, .ref mo_astack, .ref mo_amust, .ref mo_apast, .ref mo_apastOf, .int mo_pastMany, .int mo_pastAt, .int mo_takesBack, .ref mo_acanRise, .ref mo_afirstHas, .ref mo_asecondHas, .ref mo_alay, .ref mo_ashows, .ref mo_aimages, .ref mo_aisMade, .int K51_1mo, .int 0])), (mo_aimages, hcI k 2000 f4), (a, hcI k 4 a_r)]) := hD
        refine lv_aload_n hx hb dX9_carryRow_42 rfl (lv_at hl 1 rfl) ?_
        refine lv_dup hx hb dX9_carryRow_43 rfl ?_
        refine va_get (D := D) (ci := 7) (v := .int K51_1mo) (C := RX9) (T := TX9) (N := 53) hx hb hts in9 hown hG.1 hP 0 rfl rfl 51 (by decide) (hts (.fieldLink RX9 486 "ChairCaneModel" "imageAt" "I") (by decide +kernel)) (fun _ h9 => h9) rfl dX9_carryRow_44 ?_
        refine lv_iconst (v := 1) hx hb dX9_carryRow_47 (by decide) ?_
        refine lv_iadd hx hb dX9_carryRow_48 ?_
        refine lv_topi (fun z5 ez5 => ?_)
        have tz5 : z5.toInt = K51_1mo.toInt + 1 := ai_add rfl (by decide) ez5 (by omega) (by omega)
        refine va_put (D := D) (ci := 7) (v := .int z5) (C := RX9) (T := TX9) (N := 53) hx hb hts in9 tyX9 tyX9_ok nmX9 hown hG.1 hP hD hS 0 rfl rfl 51 (by decide) (hts (.fieldLink RX9 486 "ChairCaneModel" "imageAt" "I") (by decide +kernel)) (fun _ h9 => h9) rfl (tyX9_ok 51 (by decide)) rfl rfl (Nat.le_of_ble_eq_true rfl) dX9_carryRow_49 (fun H locs hP hD hS => ?_)
        have hP : va_P D vwCl ([(mo, .inr (7, [.int mo_thrown, .ref mo_ascalar, .ref mo_acane, .ref mo_ais, .ref mo_astrandOf, .ref mo_aweight, .ref mo_aheight, .ref mo_achairOf, .ref mo_anoteMinute, .ref mo_anoteWho, .ref mo_anoteIs, .ref mo_atoldCane, .ref mo_anewScalar, .ref mo_anewCane, .ref mo_anewHeight, .ref mo_anewStrand, .ref mo_anewChair, .ref mo_anewWeight, .int mo_taped, .int mo_p, .int mo_fault, .int mo_slot, .int mo_rules, .int mo_entries, .int mo_deep, .int mo_counted, .int mo_opened, .int mo_words, .ref mo_atape, .ref mo_asort, .ref mo_anumber, .ref mo_aclauses, .ref mo_asumAt, .ref mo_atestAt, .ref mo_aendAt, .ref mo_aopen, .ref mo_aasked, .ref mo_astack, .ref mo_amust, .ref mo_apast, .ref mo_apastOf, .int mo_pastMany, .int mo_pastAt, .int mo_takesBack, .ref mo_acanRise, .ref mo_afirstHas, .ref mo_asecondHas, .ref mo_alay, .ref mo_ashows, .ref mo_aimages, .ref mo_aisMade, .int z5, .int 0])), (mo_aimages, hcI k 2000 f4), (a, hcI k 4 a_r)]) H := hP
        have hD : va_D A ([(mo, .inr (7, [.int mo_thrown, .ref mo_ascalar, .ref mo_acane, .ref mo_ais, .ref mo_astrandOf, .ref mo_aweight, .ref mo_aheight, .ref mo_achairOf, .ref mo_anoteMinute, .ref mo_anoteWho, .ref mo_anoteIs, .ref mo_atoldCane, .ref mo_anewScalar, .ref mo_anewCane, .ref mo_anewHeight, .ref mo_anewStrand, .ref mo_anewChair, .ref mo_anewWeight, .int mo_taped, .int mo_p, .int mo_fault, .int mo_slot, .int mo_rules, .int mo_entries, .int mo_deep, .int mo_counted, .int mo_opened, .int mo_words, .ref mo_atape, .ref mo_asort, .ref mo_anumber, .ref mo_aclauses, .ref mo_asumAt, .ref mo_atestAt, .ref mo_aendAt, .ref mo_aopen, .ref mo_aasked, .ref mo_astack, .ref mo_amust, .ref mo_apast, .ref mo_apastOf, .int mo_pastMany, .int mo_pastAt, .int mo_takesBack, .ref mo_acanRise, .ref mo_afirstHas, .ref mo_asecondHas, .ref mo_alay, .ref mo_ashows, .ref mo_aimages, .ref mo_aisMade, .int z5, .int 0])), (mo_aimages, hcI k 2000 f4), (a, hcI k 4 a_r)]) := hD
        obtain ⟨z6, ez6⟩ : ∃ z : Int32, z = L2_1 + 1 := ⟨_, rfl⟩
        have tz6 : z6.toInt = L2_1.toInt + (1) := ai_add rfl (by decide) ez6 (by omega) (by omega)
        refine lv_iinc (v := z6) (lv' := [(2, .int z6), (0, .ref mo), (1, .ref a)]) hx hb dX9_carryRow_52 hl (k := 0) rfl (by rw [ez6]; rfl) (by decide) rfl (fun ls hl => ?_)
        refine lv_goto (tgt := 2) hx hb dX9_carryRow_55 (by decide) ?_
        exact ih1 z6 z5 f4 ⟨by omega, by omega⟩ ⟨by omega, by omega⟩ (by omega) (CpI_s hp1_1 (by omega) (by omega) (i := K51_1mo) (by omega) tz6 ez3 ef4) (by omega) _ _ _ hP hD hS (lv_sub hl [0, 1, 2] rfl)
  exact loop1 300 0 mo_imageAt mo_rimages (iv_lit (by decide) (by decide)) ⟨by omega, by omega⟩ (by have q0 : (0 : Int32).toInt = 0 := (by decide); omega) (CpI_0) (by have q0 : (0 : Int32).toInt = 0 := (by decide); omega) _ _ _ hP hD hS hl
set_option maxHeartbeats 4000000 in
set_option maxRecDepth 100000 in
theorem i_X9_carryRow_4_1 (l : Launch) (D : va_G) (k : Nat → ClassId) (sz : Nat) (ca : Int) (mo : Nat) (mo_thrown : Int32) (mo_ascalar : Nat) (mo_acane : Nat) (mo_ais : Nat) (mo_astrandOf : Nat) (mo_aweight : Nat) (mo_aheight : Nat) (mo_achairOf : Nat) (mo_anoteMinute : Nat) (mo_anoteWho : Nat) (mo_anoteIs : Nat) (mo_atoldCane : Nat) (mo_anewScalar : Nat) (mo_anewCane : Nat) (mo_anewHeight : Nat) (mo_anewStrand : Nat) (mo_anewChair : Nat) (mo_anewWeight : Nat) (mo_taped : Int32) (mo_p : Int32) (mo_fault : Int32) (mo_slot : Int32) (mo_rules : Int32) (mo_entries : Int32) (mo_deep : Int32) (mo_counted : Int32) (mo_opened : Int32) (mo_words : Int32) (mo_atape : Nat) (mo_asort : Nat) (mo_anumber : Nat) (mo_aclauses : Nat) (mo_asumAt : Nat) (mo_atestAt : Nat) (mo_aendAt : Nat) (mo_aopen : Nat) (mo_aasked : Nat) (mo_astack : Nat) (mo_amust : Nat) (mo_apast : Nat) (mo_apastOf : Nat) (mo_pastMany : Int32) (mo_pastAt : Int32) (mo_takesBack : Int32) (mo_acanRise : Nat) (mo_afirstHas : Nat) (mo_asecondHas : Nat) (mo_alay : Nat) (mo_ashows : Nat) (mo_aimages : Nat) (mo_aisMade : Nat) (mo_imageAt : Int32) (mo_rimages : Nat → Int32) (a : Nat) (a_r : Nat → Int32) (h_mo_taped : iv (0) (400) mo_taped) (h_mo_p : iv (0) (402) mo_p) (h_mo_fault : iv (0) (4000) mo_fault) (h_mo_slot : iv (0) (5) mo_slot) (h_mo_rules : iv (0) (6) mo_rules) (h_mo_entries : iv (0) (300) mo_entries) (h_mo_counted : iv (0) (70) mo_counted) (h_mo_opened : iv (0) (402) mo_opened) (h_mo_words : iv (11) (11) mo_words) (h_mo_pastMany : iv (0) (20) mo_pastMany) (h_mo_pastAt : iv (0) (260) mo_pastAt) (h_mo_takesBack : iv (0) (1) mo_takesBack) (h_mo_imageAt : iv (0) (2000) mo_imageAt) (hr_a : mo_imageAt.toInt = ca) (hr_n : ca + 4 ≤ 2000) : CtV l yX9_carryRow wsX9_carryRow (rmK 1 0 0) [.ref mo, .ref a] D k sz ([(mo, .inr (7, [.int mo_thrown, .ref mo_ascalar, .ref mo_acane, .ref mo_ais, .ref mo_astrandOf, .ref mo_aweight, .ref mo_aheight, .ref mo_achairOf, .ref mo_anoteMinute, .ref mo_anoteWho, .ref mo_anoteIs, .ref mo_atoldCane, .ref mo_anewScalar, .ref mo_anewCane, .ref mo_anewHeight, .ref mo_anewStrand, .ref mo_anewChair, .ref mo_anewWeight, .int mo_taped, .int mo_p, .int mo_fault, .int mo_slot, .int mo_rules, .int mo_entries, .int mo_deep, .int mo_counted, .int mo_opened, .int mo_words, .ref mo_atape, .ref mo_asort, .ref mo_anumber, .ref mo_aclauses, .ref mo_asumAt, .ref mo_atestAt, .ref mo_aendAt, .ref mo_aopen, .ref mo_aasked, .ref mo_astack, .ref mo_amust, .ref mo_apast, .ref mo_apastOf, .int mo_pastMany, .int mo_pastAt, .int mo_takesBack, .ref mo_acanRise, .ref mo_afirstHas, .ref mo_asecondHas, .ref mo_alay, .ref mo_ashows, .ref mo_aimages, .ref mo_aisMade, .int mo_imageAt, .int 1])), (mo_aimages, hcI k 2000 mo_rimages), (a, hcI k 4 a_r)]) (fun u : (Int32) × (Nat → Int32) => iv (0) (2000) (u.1) ∧ (CpO a_r (u.2) mo_rimages ca 4 ∧ (u.1).toInt = ca + 4)) (fun u : (Int32) × (Nat → Int32) => [(mo, .inr (7, [.int mo_thrown, .ref mo_ascalar, .ref mo_acane, .ref mo_ais, .ref mo_astrandOf, .ref mo_aweight, .ref mo_aheight, .ref mo_achairOf, .ref mo_anoteMinute, .ref mo_anoteWho, .ref mo_anoteIs, .ref mo_atoldCane, .ref mo_anewScalar, .ref mo_anewCane, .ref mo_anewHeight, .ref mo_anewStrand, .ref mo_anewChair, .ref mo_anewWeight, .int mo_taped, .int mo_p, .int mo_fault, .int mo_slot, .int mo_rules, .int mo_entries, .int mo_deep, .int mo_counted, .int mo_opened, .int mo_words, .ref mo_atape, .ref mo_asort, .ref mo_anumber, .ref mo_aclauses, .ref mo_asumAt, .ref mo_atestAt, .ref mo_aendAt, .ref mo_aopen, .ref mo_aasked, .ref mo_astack, .ref mo_amust, .ref mo_apast, .ref mo_apastOf, .int mo_pastMany, .int mo_pastAt, .int mo_takesBack, .ref mo_acanRise, .ref mo_afirstHas, .ref mo_asecondHas, .ref mo_alay, .ref mo_ashows, .ref mo_aimages, .ref mo_aisMade, .int (u.1), .int 1])), (mo_aimages, hcI k 2000 mo_rimages), (a, hcI k 4 (u.2))]) 0 0 := by
  have h_mo_taped_l := h_mo_taped.1
  have h_mo_taped_u := h_mo_taped.2
  have h_mo_p_l := h_mo_p.1
  have h_mo_p_u := h_mo_p.2
  have h_mo_fault_l := h_mo_fault.1
  have h_mo_fault_u := h_mo_fault.2
  have h_mo_slot_l := h_mo_slot.1
  have h_mo_slot_u := h_mo_slot.2
  have h_mo_rules_l := h_mo_rules.1
  have h_mo_rules_u := h_mo_rules.2
  have h_mo_entries_l := h_mo_entries.1
  have h_mo_entries_u := h_mo_entries.2
  have h_mo_counted_l := h_mo_counted.1
  have h_mo_counted_u := h_mo_counted.2
  have h_mo_opened_l := h_mo_opened.1
  have h_mo_opened_u := h_mo_opened.2
  have h_mo_words_l := h_mo_words.1
  have h_mo_words_u := h_mo_words.2
  have h_mo_pastMany_l := h_mo_pastMany.1
  have h_mo_pastMany_u := h_mo_pastMany.2
  have h_mo_pastAt_l := h_mo_pastAt.1
  have h_mo_pastAt_u := h_mo_pastAt.2
  have h_mo_takesBack_l := h_mo_takesBack.1
  have h_mo_takesBack_u := h_mo_takesBack.2
  have h_mo_imageAt_l := h_mo_imageAt.1
  have h_mo_imageAt_u := h_mo_imageAt.2
  refine CtV.mk (cc := cX9_carryRow) (maxL := 3) (ret := none) (by decide) rfl (Nat.le_of_ble_eq_true rfl) ?_
  intro p e s m below meth c A ls E hP hD hS hl
  obtain ⟨hx, hb, hr, hml, hown, hts, hlocks, hin, hG, hA⟩ := E
  have hown : s.vm.findClass RX9 = some m.cls := hown
  have in9 : ∀ w ∈ u_ws RX9 TX9 53, w ∈ wsX9_carryRow := fun _ h => List.mem_cons_of_mem _ (List.mem_append_right _ h)
  have hl : lv_has ls 3 [(0, .ref mo), (1, .ref a)] := hl
  refine lv_iconst (v := 0) hx hb dX9_carryRow_0 (by decide) ?_
  refine lv_istore_n (lv' := [(2, .int 0), (0, .ref mo), (1, .ref a)]) hx hb dX9_carryRow_1 rfl hl (by decide) rfl (fun ls hl => ?_)
  have loop1 : ∀ (fu : Nat) (L2_1 : Int32) (K51_1mo : Int32) (g_1a : Nat → Int32), iv (0) (4) L2_1 → iv (0) (2000) K51_1mo → K51_1mo.toInt = ca + L2_1.toInt → CpO a_r g_1a mo_rimages ca L2_1.toInt → 5 - L2_1.toInt < (fu : Int) → ∀ (H : Heap) (locs : List Loc) (ls : Array Slot), va_P D vwCl ([(mo, .inr (7, [.int mo_thrown, .ref mo_ascalar, .ref mo_acane, .ref mo_ais, .ref mo_astrandOf, .ref mo_aweight, .ref mo_aheight, .ref mo_achairOf, .ref mo_anoteMinute, .ref mo_anoteWho, .ref mo_anoteIs, .ref mo_atoldCane, .ref mo_anewScalar, .ref mo_anewCane, .ref mo_anewHeight, .ref mo_anewStrand, .ref mo_anewChair, .ref mo_anewWeight, .int mo_taped, .int mo_p, .int mo_fault, .int mo_slot, .int mo_rules, .int mo_entries, .int mo_deep, .int mo_counted, .int mo_opened, .int mo_words, .ref mo_atape, .ref mo_asort, .ref mo_anumber, .ref mo_aclauses, .ref mo_asumAt, .ref mo_atestAt, .ref mo_aendAt, .ref mo_aopen, .ref mo_aasked, .ref mo_astack, .ref mo_amust, .ref mo_apast, .ref mo_apastOf, .int mo_pastMany, .int mo_pastAt, .int mo_takesBack, .ref mo_acanRise, .ref mo_afirstHas, .ref mo_asecondHas, .ref mo_alay, .ref mo_ashows, .ref mo_aimages, .ref mo_aisMade, .int K51_1mo, .int 1])), (mo_aimages, hcI k 2000 mo_rimages), (a, hcI k 4 g_1a)]) H → va_D A ([(mo, .inr (7, [.int mo_thrown, .ref mo_ascalar, .ref mo_acane, .ref mo_ais, .ref mo_astrandOf, .ref mo_aweight, .ref mo_aheight, .ref mo_achairOf, .ref mo_anoteMinute, .ref mo_anoteWho, .ref mo_anoteIs, .ref mo_atoldCane, .ref mo_anewScalar, .ref mo_anewCane, .ref mo_anewHeight, .ref mo_anewStrand, .ref mo_anewChair, .ref mo_anewWeight, .int mo_taped, .int mo_p, .int mo_fault, .int mo_slot, .int mo_rules, .int mo_entries, .int mo_deep, .int mo_counted, .int mo_opened, .int mo_words, .ref mo_atape, .ref mo_asort, .ref mo_anumber, .ref mo_aclauses, .ref mo_asumAt, .ref mo_atestAt, .ref mo_aendAt, .ref mo_aopen, .ref mo_aasked, .ref mo_astack, .ref mo_amust, .ref mo_apast, .ref mo_apastOf, .int mo_pastMany, .int mo_pastAt, .int mo_takesBack, .ref mo_acanRise, .ref mo_afirstHas, .ref mo_asecondHas, .ref mo_alay, .ref mo_ashows, .ref mo_aimages, .ref mo_aisMade, .int K51_1mo, .int 1])), (mo_aimages, hcI k 2000 mo_rimages), (a, hcI k 4 g_1a)]) → va_S A s.heap H locs → lv_has ls 3 [(2, .int L2_1), (0, .ref mo), (1, .ref a)] → W p l e (rmK 1 0 0) s m (List.toArray [.ref mo, .ref a]) below meth c H locs 0 0 (MQ below (va_Qv (fun u : (Int32) × (Nat → Int32) => iv (0) (2000) (u.1) ∧ (CpO a_r (u.2) mo_rimages ca 4 ∧ (u.1).toInt = ca + 4)) (hcB D (fun u : (Int32) × (Nat → Int32) => [(mo, .inr (7, [.int mo_thrown, .ref mo_ascalar, .ref mo_acane, .ref mo_ais, .ref mo_astrandOf, .ref mo_aweight, .ref mo_aheight, .ref mo_achairOf, .ref mo_anoteMinute, .ref mo_anoteWho, .ref mo_anoteIs, .ref mo_atoldCane, .ref mo_anewScalar, .ref mo_anewCane, .ref mo_anewHeight, .ref mo_anewStrand, .ref mo_anewChair, .ref mo_anewWeight, .int mo_taped, .int mo_p, .int mo_fault, .int mo_slot, .int mo_rules, .int mo_entries, .int mo_deep, .int mo_counted, .int mo_opened, .int mo_words, .ref mo_atape, .ref mo_asort, .ref mo_anumber, .ref mo_aclauses, .ref mo_asumAt, .ref mo_atestAt, .ref mo_aendAt, .ref mo_aopen, .ref mo_aasked, .ref mo_astack, .ref mo_amust, .ref mo_apast, .ref mo_apastOf, .int mo_pastMany, .int mo_pastAt, .int mo_takesBack, .ref mo_acanRise, .ref mo_afirstHas, .ref mo_asecondHas, .ref mo_alay, .ref mo_ashows, .ref mo_aimages, .ref mo_aisMade, .int (u.1), .int 1])), (mo_aimages, hcI k 2000 mo_rimages), (a, hcI k 4 (u.2))]) A) A) (List.toArray [.ref mo, .ref a]) s 0 0 A) (F0 m 2 ls []) := by
    intro fu
    induction fu with
    | zero =>
      intro L2_1 K51_1mo g_1a bL2_1 bK51_1mo hI1_1 hp1_1 hm
      have bL2_1_l := bL2_1.1
      have bL2_1_u := bL2_1.2
      have bK51_1mo_l := bK51_1mo.1
      have bK51_1mo_u := bK51_1mo.2
      exact absurd hm (by omega)
    | succ fu ih1 =>
      intro L2_1 K51_1mo g_1a bL2_1 bK51_1mo hI1_1 hp1_1 hm H locs ls hP hD hS hl
      have bL2_1_l := bL2_1.1
      have bL2_1_u := bL2_1.2
      have bK51_1mo_l := bK51_1mo.1
      have bK51_1mo_u := bK51_1mo.2
      refine lv_iload_n hx hb dX9_carryRow_2 rfl (lv_at hl 0 rfl) ?_
      refine lv_aload_n hx hb dX9_carryRow_3 rfl (lv_at hl 2 rfl) ?_
      refine va_alen hx hb hG.1 hP 2 0 rfl rfl (v := 4) rfl dX9_carryRow_4 ?_
      refine lv_icmp_ge (tgt := 58) hx hb dX9_carryRow_5 (by decide) (fun c2 => ?_) (fun c2 => ?_)
      · have fc2 := cx_ge_t (a := L2_1.toInt) (b := 4) rfl (by decide) c2
        exact hc_endV hx hb hr hlocks (K51_1mo, g_1a) ⟨(show iv (0) (2000) K51_1mo from ⟨by omega, by omega⟩), (by (try dsimp only); exact (by have e9 : L2_1.toInt = 4 := (by omega); rw [← e9]; exact ⟨hp1_1, by omega⟩))⟩ hP hD hS dX9_carryRow_58
      · have fc2 := cx_ge_f (a := L2_1.toInt) (b := 4) rfl (by decide) c2
        refine lv_aload_n hx hb dX9_carryRow_8 rfl (lv_at hl 1 rfl) ?_
        refine va_get (D := D) (ci := 7) (v := .int 1) (C := RX9) (T := TX9) (N := 53) hx hb hts in9 hown hG.1 hP 0 rfl rfl 52 (by decide) (hts (.fieldLink RX9 483 "ChairCaneModel" "goesBack" "Z") (by decide +kernel)) (fun _ h9 => h9) rfl dX9_carryRow_9 ?_
        refine lv_if_eq (tgt := 30) hx hb dX9_carryRow_12 (by decide) (fun h => absurd h (by decide)) (fun _ => ?_)
        refine lv_aload_n hx hb dX9_carryRow_15 rfl (lv_at hl 2 rfl) ?_
        refine lv_iload_n hx hb dX9_carryRow_16 rfl (lv_at hl 0 rfl) ?_
        refine lv_aload_n hx hb dX9_carryRow_17 rfl (lv_at hl 1 rfl) ?_
        refine va_get (D := D) (ci := 7) (v := .ref mo_aimages) (C := RX9) (T := TX9) (N := 53) hx hb hts in9 hown hG.1 hP 0 rfl rfl 49 (by decide) (hts (.fieldLink RX9 122 "ChairCaneModel" "images" "[I") (by decide +kernel)) (fun _ h9 => h9) rfl dX9_carryRow_18 ?_
        refine lv_aload_n hx hb dX9_carryRow_21 rfl (lv_at hl 1 rfl) ?_
        refine va_get (D := D) (ci := 7) (v := .int K51_1mo) (C := RX9) (T := TX9) (N := 53) hx hb hts in9 hown hG.1 hP 0 rfl rfl 51 (by decide) (hts (.fieldLink RX9 486 "ChairCaneModel" "imageAt" "I") (by decide +kernel)) (fun _ h9 => h9) rfl dX9_carryRow_22 ?_
        refine va_iald hx hb hG.1 hP 1 0 rfl rfl (vp_in_iff.mpr ⟨by omega, by omega⟩) dX9_carryRow_25 ?_
        refine lv_topi (fun z3 ez3 => ?_)
        refine va_iast hx hb hG.1 hP hD hS 2 0 rfl rfl (vp_in_iff.mpr ⟨by omega, by omega⟩) dX9_carryRow_26 (fun H locs hP hD hS => ?_)
        obtain ⟨f4, ef4⟩ : ∃ f, f = upd g_1a (Int32.toNatClampNeg L2_1) (z3) := ⟨_, rfl⟩
        rw [← ef4] at hP hD
        have hP : va_P D vwCl ([(mo, .inr (7, [.int mo_thrown, .ref mo_ascalar, .ref mo_acane, .ref mo_ais, .ref mo_astrandOf, .ref mo_aweight, .ref mo_aheight, .ref mo_achairOf, .ref mo_anoteMinute, .ref mo_anoteWho, .ref mo_anoteIs, .ref mo_atoldCane, .ref mo_anewScalar, .ref mo_anewCane, .ref mo_anewHeight, .ref mo_anewStrand, .ref mo_anewChair, .ref mo_anewWeight, .int mo_taped, .int mo_p, .int mo_fault, .int mo_slot, .int mo_rules, .int mo_entries, .int mo_deep, .int mo_counted, .int mo_opened, .int mo_words, .ref mo_atape, .ref mo_asort, .ref mo_anumber, .ref mo_aclauses, .ref mo_asumAt, .ref mo_atestAt, .ref mo_aendAt, .ref mo_aopen, .ref mo_aasked, .ref mo_astack, .ref mo_amust, .ref mo_apast, .ref mo_apastOf, .int mo_pastMany, .int mo_pastAt, .int mo_takesBack, .ref mo_acanRise, .ref mo_afirstHas, .ref mo_asecondHas, .ref mo_alay, .ref mo_ashows, .ref mo_aimages, .ref mo_aisMade, .int K51_1mo, .int 1])), (mo_aimages, hcI k 2000 mo_rimages), (a, hcI k 4 f4)]) H := hP
        have hD : va_D A ([(mo, .inr (7, [.int mo_thrown, .ref mo_ascalar, .ref mo_acane, .ref mo_ais, .ref mo_astrandOf, .ref mo_aweight, .ref mo_aheight, .ref mo_achairOf, .ref mo_anoteMinute, .ref mo_anoteWho, .ref mo_anoteIs, .ref mo_atoldCane, .ref mo_anewScalar, .ref mo_anewCane, .ref mo_anewHeight, .ref mo_anewStrand, .ref mo_anewChair, .ref mo_anewWeight, .int mo_taped, .int mo_p, .int mo_fault, .int mo_slot, .int mo_rules, .int mo_entries, .int mo_deep, .int mo_counted, .int mo_opened, .int mo_words, .ref mo_atape, .ref mo_asort, .ref mo_anumber, .ref mo_aclauses, .ref mo_asumAt, .ref mo_atestAt, .ref mo_aendAt, .ref mo_aopen, .ref mo_aasked, .ref mo_astack, .ref mo_amust, .ref mo_apast, .ref mo_apastOf, .int mo_pastMany, .int mo_pastAt, .int mo_takesBack, .ref mo_acanRise, .ref mo_afirstHas, .ref mo_asecondHas, .ref mo_alay, .ref mo_ashows, .ref mo_aimages, .ref mo_aisMade, .int K51_1mo, .int 1])), (mo_aimages, hcI k 2000 mo_rimages), (a, hcI k 4 f4)]) := hD
        refine lv_goto (tgt := 42) hx hb dX9_carryRow_27 (by decide) ?_
        refine lv_aload_n hx hb dX9_carryRow_42 rfl (lv_at hl 1 rfl) ?_
        refine lv_dup hx hb dX9_carryRow_43 rfl ?_
        refine va_get (D := D) (ci := 7) (v := .int K51_1mo) (C := RX9) (T := TX9) (N := 53) hx hb hts in9 hown hG.1 hP 0 rfl rfl 51 (by decide) (hts (.fieldLink RX9 486 "ChairCaneModel" "imageAt" "I") (by decide +kernel)) (fun _ h9 => h9) rfl dX9_carryRow_44 ?_
        refine lv_iconst (v := 1) hx hb dX9_carryRow_47 (by decide) ?_
        refine lv_iadd hx hb dX9_carryRow_48 ?_
        refine lv_topi (fun z5 ez5 => ?_)
        have tz5 : z5.toInt = K51_1mo.toInt + 1 := ai_add rfl (by decide) ez5 (by omega) (by omega)
        refine va_put (D := D) (ci := 7) (v := .int z5) (C := RX9) (T := TX9) (N := 53) hx hb hts in9 tyX9 tyX9_ok nmX9 hown hG.1 hP hD hS 0 rfl rfl 51 (by decide) (hts (.fieldLink RX9 486 "ChairCaneModel" "imageAt" "I") (by decide +kernel)) (fun _ h9 => h9) rfl (tyX9_ok 51 (by decide)) rfl rfl (Nat.le_of_ble_eq_true rfl) dX9_carryRow_49 (fun H locs hP hD hS => ?_)
        have hP : va_P D vwCl ([(mo, .inr (7, [.int mo_thrown, .ref mo_ascalar, .ref mo_acane, .ref mo_ais, .ref mo_astrandOf, .ref mo_aweight, .ref mo_aheight, .ref mo_achairOf, .ref mo_anoteMinute, .ref mo_anoteWho, .ref mo_anoteIs, .ref mo_atoldCane, .ref mo_anewScalar, .ref mo_anewCane, .ref mo_anewHeight, .ref mo_anewStrand, .ref mo_anewChair, .ref mo_anewWeight, .int mo_taped, .int mo_p, .int mo_fault, .int mo_slot, .int mo_rules, .int mo_entries, .int mo_deep, .int mo_counted, .int mo_opened, .int mo_words, .ref mo_atape, .ref mo_asort, .ref mo_anumber, .ref mo_aclauses, .ref mo_asumAt, .ref mo_atestAt, .ref mo_aendAt, .ref mo_aopen, .ref mo_aasked, .ref mo_astack, .ref mo_amust, .ref mo_apast, .ref mo_apastOf, .int mo_pastMany, .int mo_pastAt, .int mo_takesBack, .ref mo_acanRise, .ref mo_afirstHas, .ref mo_asecondHas, .ref mo_alay, .ref mo_ashows, .ref mo_aimages, .ref mo_aisMade, .int z5, .int 1])), (mo_aimages, hcI k 2000 mo_rimages), (a, hcI k 4 f4)]) H := hP
        have hD : va_D A ([(mo, .inr (7, [.int mo_thrown, .ref mo_ascalar, .ref mo_acane, .ref mo_ais, .ref mo_astrandOf, .ref mo_aweight, .ref mo_aheight, .ref mo_achairOf, .ref mo_anoteMinute, .ref mo_anoteWho, .ref mo_anoteIs, .ref mo_atoldCane, .ref mo_anewScalar, .ref mo_anewCane, .ref mo_anewHeight, .ref mo_anewStrand, .ref mo_anewChair, .ref mo_anewWeight, .int mo_taped, .int mo_p, .int mo_fault, .int mo_slot, .int mo_rules, .int mo_entries, .int mo_deep, .int mo_counted, .int mo_opened, .int mo_words, .ref mo_atape, .ref mo_asort, .ref mo_anumber, .ref mo_aclauses, .ref mo_asumAt, .ref mo_atestAt, .ref mo_aendAt, .ref mo_aopen, .ref mo_aasked, .ref mo_astack, .ref mo_amust, .ref mo_apast, .ref mo_apastOf, .int mo_pastMany, .int mo_pastAt, .int mo_takesBack, .ref mo_acanRise, .ref mo_afirstHas, .ref mo_asecondHas, .ref mo_alay, .ref mo_ashows, .ref mo_aimages, .ref mo_aisMade, .int z5, .int 1])), (mo_aimages, hcI k 2000 mo_rimages), (a, hcI k 4 f4)]) := hD
        obtain ⟨z6, ez6⟩ : ∃ z : Int32, z = L2_1 + 1 := ⟨_, rfl⟩
        have tz6 : z6.toInt = L2_1.toInt + (1) := ai_add rfl (by decide) ez6 (by omega) (by omega)
        refine lv_iinc (v := z6) (lv' := [(2, .int z6), (0, .ref mo), (1, .ref a)]) hx hb dX9_carryRow_52 hl (k := 0) rfl (by rw [ez6]; rfl) (by decide) rfl (fun ls hl => ?_)
        refine lv_goto (tgt := 2) hx hb dX9_carryRow_55 (by decide) ?_
        exact ih1 z6 z5 f4 ⟨by omega, by omega⟩ ⟨by omega, by omega⟩ (by omega) (CpO_s hp1_1 (by omega) (by omega) (i := K51_1mo) (by omega) tz6 ez3 ef4) (by omega) _ _ _ hP hD hS (lv_sub hl [0, 1, 2] rfl)
  exact loop1 300 0 mo_imageAt a_r (iv_lit (by decide) (by decide)) ⟨by omega, by omega⟩ (by have q0 : (0 : Int32).toInt = 0 := (by decide); omega) (CpO_0) (by have q0 : (0 : Int32).toInt = 0 := (by decide); omega) _ _ _ hP hD hS hl
set_option maxHeartbeats 4000000 in
set_option maxRecDepth 100000 in
theorem i_X9_carryRow_1_0 (l : Launch) (D : va_G) (k : Nat → ClassId) (sz : Nat) (ca : Int) (mo : Nat) (mo_thrown : Int32) (mo_ascalar : Nat) (mo_acane : Nat) (mo_ais : Nat) (mo_astrandOf : Nat) (mo_aweight : Nat) (mo_aheight : Nat) (mo_achairOf : Nat) (mo_anoteMinute : Nat) (mo_anoteWho : Nat) (mo_anoteIs : Nat) (mo_atoldCane : Nat) (mo_anewScalar : Nat) (mo_anewCane : Nat) (mo_anewHeight : Nat) (mo_anewStrand : Nat) (mo_anewChair : Nat) (mo_anewWeight : Nat) (mo_taped : Int32) (mo_p : Int32) (mo_fault : Int32) (mo_slot : Int32) (mo_rules : Int32) (mo_entries : Int32) (mo_deep : Int32) (mo_counted : Int32) (mo_opened : Int32) (mo_words : Int32) (mo_atape : Nat) (mo_asort : Nat) (mo_anumber : Nat) (mo_aclauses : Nat) (mo_asumAt : Nat) (mo_atestAt : Nat) (mo_aendAt : Nat) (mo_aopen : Nat) (mo_aasked : Nat) (mo_astack : Nat) (mo_amust : Nat) (mo_apast : Nat) (mo_apastOf : Nat) (mo_pastMany : Int32) (mo_pastAt : Int32) (mo_takesBack : Int32) (mo_acanRise : Nat) (mo_afirstHas : Nat) (mo_asecondHas : Nat) (mo_alay : Nat) (mo_ashows : Nat) (mo_aimages : Nat) (mo_aisMade : Nat) (mo_imageAt : Int32) (mo_rimages : Nat → Int32) (a : Nat) (a_r : Nat → Int32) (h_mo_taped : iv (0) (400) mo_taped) (h_mo_p : iv (0) (402) mo_p) (h_mo_fault : iv (0) (4000) mo_fault) (h_mo_slot : iv (0) (5) mo_slot) (h_mo_rules : iv (0) (6) mo_rules) (h_mo_entries : iv (0) (300) mo_entries) (h_mo_counted : iv (0) (70) mo_counted) (h_mo_opened : iv (0) (402) mo_opened) (h_mo_words : iv (11) (11) mo_words) (h_mo_pastMany : iv (0) (20) mo_pastMany) (h_mo_pastAt : iv (0) (260) mo_pastAt) (h_mo_takesBack : iv (0) (1) mo_takesBack) (h_mo_imageAt : iv (0) (2000) mo_imageAt) (hr_a : mo_imageAt.toInt = ca) (hr_n : ca + 1 ≤ 2000) : CtV l yX9_carryRow wsX9_carryRow (rmK 1 0 0) [.ref mo, .ref a] D k sz ([(mo, .inr (7, [.int mo_thrown, .ref mo_ascalar, .ref mo_acane, .ref mo_ais, .ref mo_astrandOf, .ref mo_aweight, .ref mo_aheight, .ref mo_achairOf, .ref mo_anoteMinute, .ref mo_anoteWho, .ref mo_anoteIs, .ref mo_atoldCane, .ref mo_anewScalar, .ref mo_anewCane, .ref mo_anewHeight, .ref mo_anewStrand, .ref mo_anewChair, .ref mo_anewWeight, .int mo_taped, .int mo_p, .int mo_fault, .int mo_slot, .int mo_rules, .int mo_entries, .int mo_deep, .int mo_counted, .int mo_opened, .int mo_words, .ref mo_atape, .ref mo_asort, .ref mo_anumber, .ref mo_aclauses, .ref mo_asumAt, .ref mo_atestAt, .ref mo_aendAt, .ref mo_aopen, .ref mo_aasked, .ref mo_astack, .ref mo_amust, .ref mo_apast, .ref mo_apastOf, .int mo_pastMany, .int mo_pastAt, .int mo_takesBack, .ref mo_acanRise, .ref mo_afirstHas, .ref mo_asecondHas, .ref mo_alay, .ref mo_ashows, .ref mo_aimages, .ref mo_aisMade, .int mo_imageAt, .int 0])), (mo_aimages, hcI k 2000 mo_rimages), (a, hcI k 1 a_r)]) (fun u : (Int32) × (Nat → Int32) => iv (0) (2000) (u.1) ∧ (CpI mo_rimages (u.2) a_r ca 1 ∧ (u.1).toInt = ca + 1)) (fun u : (Int32) × (Nat → Int32) => [(mo, .inr (7, [.int mo_thrown, .ref mo_ascalar, .ref mo_acane, .ref mo_ais, .ref mo_astrandOf, .ref mo_aweight, .ref mo_aheight, .ref mo_achairOf, .ref mo_anoteMinute, .ref mo_anoteWho, .ref mo_anoteIs, .ref mo_atoldCane, .ref mo_anewScalar, .ref mo_anewCane, .ref mo_anewHeight, .ref mo_anewStrand, .ref mo_anewChair, .ref mo_anewWeight, .int mo_taped, .int mo_p, .int mo_fault, .int mo_slot, .int mo_rules, .int mo_entries, .int mo_deep, .int mo_counted, .int mo_opened, .int mo_words, .ref mo_atape, .ref mo_asort, .ref mo_anumber, .ref mo_aclauses, .ref mo_asumAt, .ref mo_atestAt, .ref mo_aendAt, .ref mo_aopen, .ref mo_aasked, .ref mo_astack, .ref mo_amust, .ref mo_apast, .ref mo_apastOf, .int mo_pastMany, .int mo_pastAt, .int mo_takesBack, .ref mo_acanRise, .ref mo_afirstHas, .ref mo_asecondHas, .ref mo_alay, .ref mo_ashows, .ref mo_aimages, .ref mo_aisMade, .int (u.1), .int 0])), (mo_aimages, hcI k 2000 (u.2)), (a, hcI k 1 a_r)]) 0 0 := by
  have h_mo_taped_l := h_mo_taped.1
  have h_mo_taped_u := h_mo_taped.2
  have h_mo_p_l := h_mo_p.1
  have h_mo_p_u := h_mo_p.2
  have h_mo_fault_l := h_mo_fault.1
  have h_mo_fault_u := h_mo_fault.2
  have h_mo_slot_l := h_mo_slot.1
  have h_mo_slot_u := h_mo_slot.2
  have h_mo_rules_l := h_mo_rules.1
  have h_mo_rules_u := h_mo_rules.2
  have h_mo_entries_l := h_mo_entries.1
  have h_mo_entries_u := h_mo_entries.2
  have h_mo_counted_l := h_mo_counted.1
  have h_mo_counted_u := h_mo_counted.2
  have h_mo_opened_l := h_mo_opened.1
  have h_mo_opened_u := h_mo_opened.2
  have h_mo_words_l := h_mo_words.1
  have h_mo_words_u := h_mo_words.2
  have h_mo_pastMany_l := h_mo_pastMany.1
  have h_mo_pastMany_u := h_mo_pastMany.2
  have h_mo_pastAt_l := h_mo_pastAt.1
  have h_mo_pastAt_u := h_mo_pastAt.2
  have h_mo_takesBack_l := h_mo_takesBack.1
  have h_mo_takesBack_u := h_mo_takesBack.2
  have h_mo_imageAt_l := h_mo_imageAt.1
  have h_mo_imageAt_u := h_mo_imageAt.2
  refine CtV.mk (cc := cX9_carryRow) (maxL := 3) (ret := none) (by decide) rfl (Nat.le_of_ble_eq_true rfl) ?_
  intro p e s m below meth c A ls E hP hD hS hl
  obtain ⟨hx, hb, hr, hml, hown, hts, hlocks, hin, hG, hA⟩ := E
  have hown : s.vm.findClass RX9 = some m.cls := hown
  have in9 : ∀ w ∈ u_ws RX9 TX9 53, w ∈ wsX9_carryRow := fun _ h => List.mem_cons_of_mem _ (List.mem_append_right _ h)
  have hl : lv_has ls 3 [(0, .ref mo), (1, .ref a)] := hl
  refine lv_iconst (v := 0) hx hb dX9_carryRow_0 (by decide) ?_
  refine lv_istore_n (lv' := [(2, .int 0), (0, .ref mo), (1, .ref a)]) hx hb dX9_carryRow_1 rfl hl (by decide) rfl (fun ls hl => ?_)
  have loop1 : ∀ (fu : Nat) (L2_1 : Int32) (K51_1mo : Int32) (g_1mo_aimages : Nat → Int32), iv (0) (1) L2_1 → iv (0) (2000) K51_1mo → K51_1mo.toInt = ca + L2_1.toInt → CpI mo_rimages g_1mo_aimages a_r ca L2_1.toInt → 2 - L2_1.toInt < (fu : Int) → ∀ (H : Heap) (locs : List Loc) (ls : Array Slot), va_P D vwCl ([(mo, .inr (7, [.int mo_thrown, .ref mo_ascalar, .ref mo_acane, .ref mo_ais, .ref mo_astrandOf, .ref mo_aweight, .ref mo_aheight, .ref mo_achairOf, .ref mo_anoteMinute, .ref mo_anoteWho, .ref mo_anoteIs, .ref mo_atoldCane, .ref mo_anewScalar, .ref mo_anewCane, .ref mo_anewHeight, .ref mo_anewStrand, .ref mo_anewChair, .ref mo_anewWeight, .int mo_taped, .int mo_p, .int mo_fault, .int mo_slot, .int mo_rules, .int mo_entries, .int mo_deep, .int mo_counted, .int mo_opened, .int mo_words, .ref mo_atape, .ref mo_asort, .ref mo_anumber, .ref mo_aclauses, .ref mo_asumAt, .ref mo_atestAt, .ref mo_aendAt, .ref mo_aopen, .ref mo_aasked, .ref mo_astack, .ref mo_amust, .ref mo_apast, .ref mo_apastOf, .int mo_pastMany, .int mo_pastAt, .int mo_takesBack, .ref mo_acanRise, .ref mo_afirstHas, .ref mo_asecondHas, .ref mo_alay, .ref mo_ashows, .ref mo_aimages, .ref mo_aisMade, .int K51_1mo, .int 0])), (mo_aimages, hcI k 2000 g_1mo_aimages), (a, hcI k 1 a_r)]) H → va_D A ([(mo, .inr (7, [.int mo_thrown, .ref mo_ascalar, .ref mo_acane, .ref mo_ais, .ref mo_astrandOf, .ref mo_aweight, .ref mo_aheight, .ref mo_achairOf, .ref mo_anoteMinute, .ref mo_anoteWho, .ref mo_anoteIs, .ref mo_atoldCane, .ref mo_anewScalar, .ref mo_anewCane, .ref mo_anewHeight, .ref mo_anewStrand, .ref mo_anewChair, .ref mo_anewWeight, .int mo_taped, .int mo_p, .int mo_fault, .int mo_slot, .int mo_rules, .int mo_entries, .int mo_deep, .int mo_counted, .int mo_opened, .int mo_words, .ref mo_atape, .ref mo_asort, .ref mo_anumber, .ref mo_aclauses, .ref mo_asumAt, .ref mo_atestAt, .ref mo_aendAt, .ref mo_aopen, .ref mo_aasked, .ref mo_astack, .ref mo_amust, .ref mo_apast, .ref mo_apastOf, .int mo_pastMany, .int mo_pastAt, .int mo_takesBack, .ref mo_acanRise, .ref mo_afirstHas, .ref mo_asecondHas, .ref mo_alay, .ref mo_ashows, .ref mo_aimages, .ref mo_aisMade, .int K51_1mo, .int 0])), (mo_aimages, hcI k 2000 g_1mo_aimages), (a, hcI k 1 a_r)]) → va_S A s.heap H locs → lv_has ls 3 [(2, .int L2_1), (0, .ref mo), (1, .ref a)] → W p l e (rmK 1 0 0) s m (List.toArray [.ref mo, .ref a]) below meth c H locs 0 0 (MQ below (va_Qv (fun u : (Int32) × (Nat → Int32) => iv (0) (2000) (u.1) ∧ (CpI mo_rimages (u.2) a_r ca 1 ∧ (u.1).toInt = ca + 1)) (hcB D (fun u : (Int32) × (Nat → Int32) => [(mo, .inr (7, [.int mo_thrown, .ref mo_ascalar, .ref mo_acane, .ref mo_ais, .ref mo_astrandOf, .ref mo_aweight, .ref mo_aheight, .ref mo_achairOf, .ref mo_anoteMinute, .ref mo_anoteWho, .ref mo_anoteIs, .ref mo_atoldCane, .ref mo_anewScalar, .ref mo_anewCane, .ref mo_anewHeight, .ref mo_anewStrand, .ref mo_anewChair, .ref mo_anewWeight, .int mo_taped, .int mo_p, .int mo_fault, .int mo_slot, .int mo_rules, .int mo_entries, .int mo_deep, .int mo_counted, .int mo_opened, .int mo_words, .ref mo_atape, .ref mo_asort, .ref mo_anumber, .ref mo_aclauses, .ref mo_asumAt, .ref mo_atestAt, .ref mo_aendAt, .ref mo_aopen, .ref mo_aasked, .ref mo_astack, .ref mo_amust, .ref mo_apast, .ref mo_apastOf, .int mo_pastMany, .int mo_pastAt, .int mo_takesBack, .ref mo_acanRise, .ref mo_afirstHas, .ref mo_asecondHas, .ref mo_alay, .ref mo_ashows, .ref mo_aimages, .ref mo_aisMade, .int (u.1), .int 0])), (mo_aimages, hcI k 2000 (u.2)), (a, hcI k 1 a_r)]) A) A) (List.toArray [.ref mo, .ref a]) s 0 0 A) (F0 m 2 ls []) := by
    intro fu
    induction fu with
    | zero =>
      intro L2_1 K51_1mo g_1mo_aimages bL2_1 bK51_1mo hI1_1 hp1_1 hm
      have bL2_1_l := bL2_1.1
      have bL2_1_u := bL2_1.2
      have bK51_1mo_l := bK51_1mo.1
      have bK51_1mo_u := bK51_1mo.2
      exact absurd hm (by omega)
    | succ fu ih1 =>
      intro L2_1 K51_1mo g_1mo_aimages bL2_1 bK51_1mo hI1_1 hp1_1 hm H locs ls hP hD hS hl
      have bL2_1_l := bL2_1.1
      have bL2_1_u := bL2_1.2
      have bK51_1mo_l := bK51_1mo.1
      have bK51_1mo_u := bK51_1mo.2
      refine lv_iload_n hx hb dX9_carryRow_2 rfl (lv_at hl 0 rfl) ?_
      refine lv_aload_n hx hb dX9_carryRow_3 rfl (lv_at hl 2 rfl) ?_
      refine va_alen hx hb hG.1 hP 2 0 rfl rfl (v := 1) rfl dX9_carryRow_4 ?_
      refine lv_icmp_ge (tgt := 58) hx hb dX9_carryRow_5 (by decide) (fun c2 => ?_) (fun c2 => ?_)
      · have fc2 := cx_ge_t (a := L2_1.toInt) (b := 1) rfl (by decide) c2
        exact hc_endV hx hb hr hlocks (K51_1mo, g_1mo_aimages) ⟨(show iv (0) (2000) K51_1mo from ⟨by omega, by omega⟩), (by (try dsimp only); exact (by have e9 : L2_1.toInt = 1 := (by omega); rw [← e9]; exact ⟨hp1_1, by omega⟩))⟩ hP hD hS dX9_carryRow_58
      · have fc2 := cx_ge_f (a := L2_1.toInt) (b := 1) rfl (by decide) c2
        refine lv_aload_n hx hb dX9_carryRow_8 rfl (lv_at hl 1 rfl) ?_
        refine va_get (D := D) (ci := 7) (v := .int 0) (C := RX9) (T := TX9) (N := 53) hx hb hts in9 hown hG.1 hP 0 rfl rfl 52 (by decide) (hts (.fieldLink RX9 483 "ChairCaneModel" "goesBack" "Z") (by decide +kernel)) (fun _ h9 => h9) rfl dX9_carryRow_9 ?_
        refine lv_if_eq (tgt := 30) hx hb dX9_carryRow_12 (by decide) (fun _ => ?_) (fun h => absurd (by decide) h)
        refine lv_aload_n hx hb dX9_carryRow_30 rfl (lv_at hl 1 rfl) ?_
        refine va_get (D := D) (ci := 7) (v := .ref mo_aimages) (C := RX9) (T := TX9) (N := 53) hx hb hts in9 hown hG.1 hP 0 rfl rfl 49 (by decide) (hts (.fieldLink RX9 122 "ChairCaneModel" "images" "[I") (by decide +kernel)) (fun _ h9 => h9) rfl dX9_carryRow_31 ?_
        refine lv_aload_n hx hb dX9_carryRow_34 rfl (lv_at hl 1 rfl) ?_
        refine va_get (D := D) (ci := 7) (v := .int K51_1mo) (C := RX9) (T := TX9) (N := 53) hx hb hts in9 hown hG.1 hP 0 rfl rfl 51 (by decide) (hts (.fieldLink RX9 486 "ChairCaneModel" "imageAt" "I") (by decide +kernel)) (fun _ h9 => h9) rfl dX9_carryRow_35 ?_
        refine lv_aload_n hx hb dX9_carryRow_38 rfl (lv_at hl 2 rfl) ?_
        refine lv_iload_n hx hb dX9_carryRow_39 rfl (lv_at hl 0 rfl) ?_
        refine va_iald hx hb hG.1 hP 2 0 rfl rfl (vp_in_iff.mpr ⟨by omega, by omega⟩) dX9_carryRow_40 ?_
        refine lv_topi (fun z3 ez3 => ?_)
        refine va_iast hx hb hG.1 hP hD hS 1 0 rfl rfl (vp_in_iff.mpr ⟨by omega, by omega⟩) dX9_carryRow_41 (fun H locs hP hD hS => ?_)
        obtain ⟨f4, ef4⟩ : ∃ f, f = upd g_1mo_aimages (Int32.toNatClampNeg K51_1mo) (z3) := ⟨_, rfl⟩
        rw [← ef4] at hP hD
        have hP : va_P D vwCl ([(mo, .inr (7, [.int mo_thrown, .ref mo_ascalar, .ref mo_acane, .ref mo_ais, .ref mo_astrandOf, .ref mo_aweight, .ref mo_aheight, .ref mo_achairOf, .ref mo_anoteMinute, .ref mo_anoteWho, .ref mo_anoteIs, .ref mo_atoldCane, .ref mo_anewScalar, .ref mo_anewCane, .ref mo_anewHeight, .ref mo_anewStrand, .ref mo_anewChair, .ref mo_anewWeight, .int mo_taped, .int mo_p, .int mo_fault, .int mo_slot, .int mo_rules, .int mo_entries, .int mo_deep, .int mo_counted, .int mo_opened, .int mo_words, .ref mo_atape, .ref mo_asort, .ref mo_anumber, .ref mo_aclauses, .ref mo_asumAt, .ref mo_atestAt, .ref mo_aendAt, .ref mo_aopen, .ref mo_aasked, .ref mo_astack, .ref mo_amust, .ref mo_apast, .ref mo_apastOf, .int mo_pastMany, .int mo_pastAt, .int mo_takesBack, .ref mo_acanRise, .ref mo_afirstHas, .ref mo_asecondHas, .ref mo_alay, .ref mo_ashows, .ref mo_aimages, .ref mo_aisMade, .int K51_1mo, .int 0])), (mo_aimages, hcI k 2000 f4), (a, hcI k 1 a_r)]) H := hP
        have hD : va_D A ([(mo, .inr (7, [.int mo_thrown, .ref mo_ascalar, .ref mo_acane, .ref mo_ais, .ref mo_astrandOf, .ref mo_aweight, .ref mo_aheight, .ref mo_achairOf, .ref mo_anoteMinute, .ref mo_anoteWho, .ref mo_anoteIs, .ref mo_atoldCane, .ref mo_anewScalar, .ref mo_anewCane, .ref mo_anewHeight, .ref mo_anewStrand, .ref mo_anewChair, .ref mo_anewWeight, .int mo_taped, .int mo_p, .int mo_fault, .int mo_slot, .int mo_rules, .int mo_entries, .int mo_deep, .int mo_counted, .int mo_opened, .int mo_words, .ref mo_atape, .ref mo_asort, .ref mo_anumber, .ref mo_aclauses, .ref mo_asumAt, .ref mo_atestAt, .ref mo_aendAt, .ref mo_aopen, .ref mo_aasked, .ref mo_astack, .ref mo_amust, .ref mo_apast, .ref mo_apastOf, .int mo_pastMany, .int mo_pastAt, .int mo_takesBack, .ref mo_acanRise, .ref mo_afirstHas, .ref mo_asecondHas, .ref mo_alay, .ref mo_ashows, .ref mo_aimages, .ref mo_aisMade, .int K51_1mo, .int 0])), (mo_aimages, hcI k 2000 f4), (a, hcI k 1 a_r)]) := hD
        refine lv_aload_n hx hb dX9_carryRow_42 rfl (lv_at hl 1 rfl) ?_
        refine lv_dup hx hb dX9_carryRow_43 rfl ?_
        refine va_get (D := D) (ci := 7) (v := .int K51_1mo) (C := RX9) (T := TX9) (N := 53) hx hb hts in9 hown hG.1 hP 0 rfl rfl 51 (by decide) (hts (.fieldLink RX9 486 "ChairCaneModel" "imageAt" "I") (by decide +kernel)) (fun _ h9 => h9) rfl dX9_carryRow_44 ?_
        refine lv_iconst (v := 1) hx hb dX9_carryRow_47 (by decide) ?_
        refine lv_iadd hx hb dX9_carryRow_48 ?_
        refine lv_topi (fun z5 ez5 => ?_)
        have tz5 : z5.toInt = K51_1mo.toInt + 1 := ai_add rfl (by decide) ez5 (by omega) (by omega)
        refine va_put (D := D) (ci := 7) (v := .int z5) (C := RX9) (T := TX9) (N := 53) hx hb hts in9 tyX9 tyX9_ok nmX9 hown hG.1 hP hD hS 0 rfl rfl 51 (by decide) (hts (.fieldLink RX9 486 "ChairCaneModel" "imageAt" "I") (by decide +kernel)) (fun _ h9 => h9) rfl (tyX9_ok 51 (by decide)) rfl rfl (Nat.le_of_ble_eq_true rfl) dX9_carryRow_49 (fun H locs hP hD hS => ?_)
        have hP : va_P D vwCl ([(mo, .inr (7, [.int mo_thrown, .ref mo_ascalar, .ref mo_acane, .ref mo_ais, .ref mo_astrandOf, .ref mo_aweight, .ref mo_aheight, .ref mo_achairOf, .ref mo_anoteMinute, .ref mo_anoteWho, .ref mo_anoteIs, .ref mo_atoldCane, .ref mo_anewScalar, .ref mo_anewCane, .ref mo_anewHeight, .ref mo_anewStrand, .ref mo_anewChair, .ref mo_anewWeight, .int mo_taped, .int mo_p, .int mo_fault, .int mo_slot, .int mo_rules, .int mo_entries, .int mo_deep, .int mo_counted, .int mo_opened, .int mo_words, .ref mo_atape, .ref mo_asort, .ref mo_anumber, .ref mo_aclauses, .ref mo_asumAt, .ref mo_atestAt, .ref mo_aendAt, .ref mo_aopen, .ref mo_aasked, .ref mo_astack, .ref mo_amust, .ref mo_apast, .ref mo_apastOf, .int mo_pastMany, .int mo_pastAt, .int mo_takesBack, .ref mo_acanRise, .ref mo_afirstHas, .ref mo_asecondHas, .ref mo_alay, .ref mo_ashows, .ref mo_aimages, .ref mo_aisMade, .int z5, .int 0])), (mo_aimages, hcI k 2000 f4), (a, hcI k 1 a_r)]) H := hP
        have hD : va_D A ([(mo, .inr (7, [.int mo_thrown, .ref mo_ascalar, .ref mo_acane, .ref mo_ais, .ref mo_astrandOf, .ref mo_aweight, .ref mo_aheight, .ref mo_achairOf, .ref mo_anoteMinute, .ref mo_anoteWho, .ref mo_anoteIs, .ref mo_atoldCane, .ref mo_anewScalar, .ref mo_anewCane, .ref mo_anewHeight, .ref mo_anewStrand, .ref mo_anewChair, .ref mo_anewWeight, .int mo_taped, .int mo_p, .int mo_fault, .int mo_slot, .int mo_rules, .int mo_entries, .int mo_deep, .int mo_counted, .int mo_opened, .int mo_words, .ref mo_atape, .ref mo_asort, .ref mo_anumber, .ref mo_aclauses, .ref mo_asumAt, .ref mo_atestAt, .ref mo_aendAt, .ref mo_aopen, .ref mo_aasked, .ref mo_astack, .ref mo_amust, .ref mo_apast, .ref mo_apastOf, .int mo_pastMany, .int mo_pastAt, .int mo_takesBack, .ref mo_acanRise, .ref mo_afirstHas, .ref mo_asecondHas, .ref mo_alay, .ref mo_ashows, .ref mo_aimages, .ref mo_aisMade, .int z5, .int 0])), (mo_aimages, hcI k 2000 f4), (a, hcI k 1 a_r)]) := hD
        obtain ⟨z6, ez6⟩ : ∃ z : Int32, z = L2_1 + 1 := ⟨_, rfl⟩
        have tz6 : z6.toInt = L2_1.toInt + (1) := ai_add rfl (by decide) ez6 (by omega) (by omega)
        refine lv_iinc (v := z6) (lv' := [(2, .int z6), (0, .ref mo), (1, .ref a)]) hx hb dX9_carryRow_52 hl (k := 0) rfl (by rw [ez6]; rfl) (by decide) rfl (fun ls hl => ?_)
        refine lv_goto (tgt := 2) hx hb dX9_carryRow_55 (by decide) ?_
        exact ih1 z6 z5 f4 ⟨by omega, by omega⟩ ⟨by omega, by omega⟩ (by omega) (CpI_s hp1_1 (by omega) (by omega) (i := K51_1mo) (by omega) tz6 ez3 ef4) (by omega) _ _ _ hP hD hS (lv_sub hl [0, 1, 2] rfl)
  exact loop1 300 0 mo_imageAt mo_rimages (iv_lit (by decide) (by decide)) ⟨by omega, by omega⟩ (by have q0 : (0 : Int32).toInt = 0 := (by decide); omega) (CpI_0) (by have q0 : (0 : Int32).toInt = 0 := (by decide); omega) _ _ _ hP hD hS hl
set_option maxHeartbeats 4000000 in
set_option maxRecDepth 100000 in
theorem i_X9_carryRow_1_1 (l : Launch) (D : va_G) (k : Nat → ClassId) (sz : Nat) (ca : Int) (mo : Nat) (mo_thrown : Int32) (mo_ascalar : Nat) (mo_acane : Nat) (mo_ais : Nat) (mo_astrandOf : Nat) (mo_aweight : Nat) (mo_aheight : Nat) (mo_achairOf : Nat) (mo_anoteMinute : Nat) (mo_anoteWho : Nat) (mo_anoteIs : Nat) (mo_atoldCane : Nat) (mo_anewScalar : Nat) (mo_anewCane : Nat) (mo_anewHeight : Nat) (mo_anewStrand : Nat) (mo_anewChair : Nat) (mo_anewWeight : Nat) (mo_taped : Int32) (mo_p : Int32) (mo_fault : Int32) (mo_slot : Int32) (mo_rules : Int32) (mo_entries : Int32) (mo_deep : Int32) (mo_counted : Int32) (mo_opened : Int32) (mo_words : Int32) (mo_atape : Nat) (mo_asort : Nat) (mo_anumber : Nat) (mo_aclauses : Nat) (mo_asumAt : Nat) (mo_atestAt : Nat) (mo_aendAt : Nat) (mo_aopen : Nat) (mo_aasked : Nat) (mo_astack : Nat) (mo_amust : Nat) (mo_apast : Nat) (mo_apastOf : Nat) (mo_pastMany : Int32) (mo_pastAt : Int32) (mo_takesBack : Int32) (mo_acanRise : Nat) (mo_afirstHas : Nat) (mo_asecondHas : Nat) (mo_alay : Nat) (mo_ashows : Nat) (mo_aimages : Nat) (mo_aisMade : Nat) (mo_imageAt : Int32) (mo_rimages : Nat → Int32) (a : Nat) (a_r : Nat → Int32) (h_mo_taped : iv (0) (400) mo_taped) (h_mo_p : iv (0) (402) mo_p) (h_mo_fault : iv (0) (4000) mo_fault) (h_mo_slot : iv (0) (5) mo_slot) (h_mo_rules : iv (0) (6) mo_rules) (h_mo_entries : iv (0) (300) mo_entries) (h_mo_counted : iv (0) (70) mo_counted) (h_mo_opened : iv (0) (402) mo_opened) (h_mo_words : iv (11) (11) mo_words) (h_mo_pastMany : iv (0) (20) mo_pastMany) (h_mo_pastAt : iv (0) (260) mo_pastAt) (h_mo_takesBack : iv (0) (1) mo_takesBack) (h_mo_imageAt : iv (0) (2000) mo_imageAt) (hr_a : mo_imageAt.toInt = ca) (hr_n : ca + 1 ≤ 2000) : CtV l yX9_carryRow wsX9_carryRow (rmK 1 0 0) [.ref mo, .ref a] D k sz ([(mo, .inr (7, [.int mo_thrown, .ref mo_ascalar, .ref mo_acane, .ref mo_ais, .ref mo_astrandOf, .ref mo_aweight, .ref mo_aheight, .ref mo_achairOf, .ref mo_anoteMinute, .ref mo_anoteWho, .ref mo_anoteIs, .ref mo_atoldCane, .ref mo_anewScalar, .ref mo_anewCane, .ref mo_anewHeight, .ref mo_anewStrand, .ref mo_anewChair, .ref mo_anewWeight, .int mo_taped, .int mo_p, .int mo_fault, .int mo_slot, .int mo_rules, .int mo_entries, .int mo_deep, .int mo_counted, .int mo_opened, .int mo_words, .ref mo_atape, .ref mo_asort, .ref mo_anumber, .ref mo_aclauses, .ref mo_asumAt, .ref mo_atestAt, .ref mo_aendAt, .ref mo_aopen, .ref mo_aasked, .ref mo_astack, .ref mo_amust, .ref mo_apast, .ref mo_apastOf, .int mo_pastMany, .int mo_pastAt, .int mo_takesBack, .ref mo_acanRise, .ref mo_afirstHas, .ref mo_asecondHas, .ref mo_alay, .ref mo_ashows, .ref mo_aimages, .ref mo_aisMade, .int mo_imageAt, .int 1])), (mo_aimages, hcI k 2000 mo_rimages), (a, hcI k 1 a_r)]) (fun u : (Int32) × (Nat → Int32) => iv (0) (2000) (u.1) ∧ (CpO a_r (u.2) mo_rimages ca 1 ∧ (u.1).toInt = ca + 1)) (fun u : (Int32) × (Nat → Int32) => [(mo, .inr (7, [.int mo_thrown, .ref mo_ascalar, .ref mo_acane, .ref mo_ais, .ref mo_astrandOf, .ref mo_aweight, .ref mo_aheight, .ref mo_achairOf, .ref mo_anoteMinute, .ref mo_anoteWho, .ref mo_anoteIs, .ref mo_atoldCane, .ref mo_anewScalar, .ref mo_anewCane, .ref mo_anewHeight, .ref mo_anewStrand, .ref mo_anewChair, .ref mo_anewWeight, .int mo_taped, .int mo_p, .int mo_fault, .int mo_slot, .int mo_rules, .int mo_entries, .int mo_deep, .int mo_counted, .int mo_opened, .int mo_words, .ref mo_atape, .ref mo_asort, .ref mo_anumber, .ref mo_aclauses, .ref mo_asumAt, .ref mo_atestAt, .ref mo_aendAt, .ref mo_aopen, .ref mo_aasked, .ref mo_astack, .ref mo_amust, .ref mo_apast, .ref mo_apastOf, .int mo_pastMany, .int mo_pastAt, .int mo_takesBack, .ref mo_acanRise, .ref mo_afirstHas, .ref mo_asecondHas, .ref mo_alay, .ref mo_ashows, .ref mo_aimages, .ref mo_aisMade, .int (u.1), .int 1])), (mo_aimages, hcI k 2000 mo_rimages), (a, hcI k 1 (u.2))]) 0 0 := by
  have h_mo_taped_l := h_mo_taped.1
  have h_mo_taped_u := h_mo_taped.2
  have h_mo_p_l := h_mo_p.1
  have h_mo_p_u := h_mo_p.2
  have h_mo_fault_l := h_mo_fault.1
  have h_mo_fault_u := h_mo_fault.2
  have h_mo_slot_l := h_mo_slot.1
  have h_mo_slot_u := h_mo_slot.2
  have h_mo_rules_l := h_mo_rules.1
  have h_mo_rules_u := h_mo_rules.2
  have h_mo_entries_l := h_mo_entries.1
  have h_mo_entries_u := h_mo_entries.2
  have h_mo_counted_l := h_mo_counted.1
  have h_mo_counted_u := h_mo_counted.2
  have h_mo_opened_l := h_mo_opened.1
  have h_mo_opened_u := h_mo_opened.2
  have h_mo_words_l := h_mo_words.1
  have h_mo_words_u := h_mo_words.2
  have h_mo_pastMany_l := h_mo_pastMany.1
  have h_mo_pastMany_u := h_mo_pastMany.2
  have h_mo_pastAt_l := h_mo_pastAt.1
  have h_mo_pastAt_u := h_mo_pastAt.2
  have h_mo_takesBack_l := h_mo_takesBack.1
  have h_mo_takesBack_u := h_mo_takesBack.2
  have h_mo_imageAt_l := h_mo_imageAt.1
  have h_mo_imageAt_u := h_mo_imageAt.2
  refine CtV.mk (cc := cX9_carryRow) (maxL := 3) (ret := none) (by decide) rfl (Nat.le_of_ble_eq_true rfl) ?_
  intro p e s m below meth c A ls E hP hD hS hl
  obtain ⟨hx, hb, hr, hml, hown, hts, hlocks, hin, hG, hA⟩ := E
  have hown : s.vm.findClass RX9 = some m.cls := hown
  have in9 : ∀ w ∈ u_ws RX9 TX9 53, w ∈ wsX9_carryRow := fun _ h => List.mem_cons_of_mem _ (List.mem_append_right _ h)
  have hl : lv_has ls 3 [(0, .ref mo), (1, .ref a)] := hl
  refine lv_iconst (v := 0) hx hb dX9_carryRow_0 (by decide) ?_
  refine lv_istore_n (lv' := [(2, .int 0), (0, .ref mo), (1, .ref a)]) hx hb dX9_carryRow_1 rfl hl (by decide) rfl (fun ls hl => ?_)
  have loop1 : ∀ (fu : Nat) (L2_1 : Int32) (K51_1mo : Int32) (g_1a : Nat → Int32), iv (0) (1) L2_1 → iv (0) (2000) K51_1mo → K51_1mo.toInt = ca + L2_1.toInt → CpO a_r g_1a mo_rimages ca L2_1.toInt → 2 - L2_1.toInt < (fu : Int) → ∀ (H : Heap) (locs : List Loc) (ls : Array Slot), va_P D vwCl ([(mo, .inr (7, [.int mo_thrown, .ref mo_ascalar, .ref mo_acane, .ref mo_ais, .ref mo_astrandOf, .ref mo_aweight, .ref mo_aheight, .ref mo_achairOf, .ref mo_anoteMinute, .ref mo_anoteWho, .ref mo_anoteIs, .ref mo_atoldCane, .ref mo_anewScalar, .ref mo_anewCane, .ref mo_anewHeight, .ref mo_anewStrand, .ref mo_anewChair, .ref mo_anewWeight, .int mo_taped, .int mo_p, .int mo_fault, .int mo_slot, .int mo_rules, .int mo_entries, .int mo_deep, .int mo_counted, .int mo_opened, .int mo_words, .ref mo_atape, .ref mo_asort, .ref mo_anumber, .ref mo_aclauses, .ref mo_asumAt, .ref mo_atestAt, .ref mo_aendAt, .ref mo_aopen, .ref mo_aasked, .ref mo_astack, .ref mo_amust, .ref mo_apast, .ref mo_apastOf, .int mo_pastMany, .int mo_pastAt, .int mo_takesBack, .ref mo_acanRise, .ref mo_afirstHas, .ref mo_asecondHas, .ref mo_alay, .ref mo_ashows, .ref mo_aimages, .ref mo_aisMade, .int K51_1mo, .int 1])), (mo_aimages, hcI k 2000 mo_rimages), (a, hcI k 1 g_1a)]) H → va_D A ([(mo, .inr (7, [.int mo_thrown, .ref mo_ascalar, .ref mo_acane, .ref mo_ais, .ref mo_astrandOf, .ref mo_aweight, .ref mo_aheight, .ref mo_achairOf, .ref mo_anoteMinute, .ref mo_anoteWho, .ref mo_anoteIs, .ref mo_atoldCane, .ref mo_anewScalar, .ref mo_anewCane, .ref mo_anewHeight, .ref mo_anewStrand, .ref mo_anewChair, .ref mo_anewWeight, .int mo_taped, .int mo_p, .int mo_fault, .int mo_slot, .int mo_rules, .int mo_entries, .int mo_deep, .int mo_counted, .int mo_opened, .int mo_words, .ref mo_atape, .ref mo_asort, .ref mo_anumber, .ref mo_aclauses, .ref mo_asumAt, .ref mo_atestAt, .ref mo_aendAt, .ref mo_aopen, .ref mo_aasked, .ref mo_astack, .ref mo_amust, .ref mo_apast, .ref mo_apastOf, .int mo_pastMany, .int mo_pastAt, .int mo_takesBack, .ref mo_acanRise, .ref mo_afirstHas, .ref mo_asecondHas, .ref mo_alay, .ref mo_ashows, .ref mo_aimages, .ref mo_aisMade, .int K51_1mo, .int 1])), (mo_aimages, hcI k 2000 mo_rimages), (a, hcI k 1 g_1a)]) → va_S A s.heap H locs → lv_has ls 3 [(2, .int L2_1), (0, .ref mo), (1, .ref a)] → W p l e (rmK 1 0 0) s m (List.toArray [.ref mo, .ref a]) below meth c H locs 0 0 (MQ below (va_Qv (fun u : (Int32) × (Nat → Int32) => iv (0) (2000) (u.1) ∧ (CpO a_r (u.2) mo_rimages ca 1 ∧ (u.1).toInt = ca + 1)) (hcB D (fun u : (Int32) × (Nat → Int32) => [(mo, .inr (7, [.int mo_thrown, .ref mo_ascalar, .ref mo_acane, .ref mo_ais, .ref mo_astrandOf, .ref mo_aweight, .ref mo_aheight, .ref mo_achairOf, .ref mo_anoteMinute, .ref mo_anoteWho, .ref mo_anoteIs, .ref mo_atoldCane, .ref mo_anewScalar, .ref mo_anewCane, .ref mo_anewHeight, .ref mo_anewStrand, .ref mo_anewChair, .ref mo_anewWeight, .int mo_taped, .int mo_p, .int mo_fault, .int mo_slot, .int mo_rules, .int mo_entries, .int mo_deep, .int mo_counted, .int mo_opened, .int mo_words, .ref mo_atape, .ref mo_asort, .ref mo_anumber, .ref mo_aclauses, .ref mo_asumAt, .ref mo_atestAt, .ref mo_aendAt, .ref mo_aopen, .ref mo_aasked, .ref mo_astack, .ref mo_amust, .ref mo_apast, .ref mo_apastOf, .int mo_pastMany, .int mo_pastAt, .int mo_takesBack, .ref mo_acanRise, .ref mo_afirstHas, .ref mo_asecondHas, .ref mo_alay, .ref mo_ashows, .ref mo_aimages, .ref mo_aisMade, .int (u.1), .int 1])), (mo_aimages, hcI k 2000 mo_rimages), (a, hcI k 1 (u.2))]) A) A) (List.toArray [.ref mo, .ref a]) s 0 0 A) (F0 m 2 ls []) := by
    intro fu
    induction fu with
    | zero =>
      intro L2_1 K51_1mo g_1a bL2_1 bK51_1mo hI1_1 hp1_1 hm
      have bL2_1_l := bL2_1.1
      have bL2_1_u := bL2_1.2
      have bK51_1mo_l := bK51_1mo.1
      have bK51_1mo_u := bK51_1mo.2
      exact absurd hm (by omega)
    | succ fu ih1 =>
      intro L2_1 K51_1mo g_1a bL2_1 bK51_1mo hI1_1 hp1_1 hm H locs ls hP hD hS hl
      have bL2_1_l := bL2_1.1
      have bL2_1_u := bL2_1.2
      have bK51_1mo_l := bK51_1mo.1
      have bK51_1mo_u := bK51_1mo.2
      refine lv_iload_n hx hb dX9_carryRow_2 rfl (lv_at hl 0 rfl) ?_
      refine lv_aload_n hx hb dX9_carryRow_3 rfl (lv_at hl 2 rfl) ?_
      refine va_alen hx hb hG.1 hP 2 0 rfl rfl (v := 1) rfl dX9_carryRow_4 ?_
      refine lv_icmp_ge (tgt := 58) hx hb dX9_carryRow_5 (by decide) (fun c2 => ?_) (fun c2 => ?_)
      · have fc2 := cx_ge_t (a := L2_1.toInt) (b := 1) rfl (by decide) c2
        exact hc_endV hx hb hr hlocks (K51_1mo, g_1a) ⟨(show iv (0) (2000) K51_1mo from ⟨by omega, by omega⟩), (by (try dsimp only); exact (by have e9 : L2_1.toInt = 1 := (by omega); rw [← e9]; exact ⟨hp1_1, by omega⟩))⟩ hP hD hS dX9_carryRow_58
      · have fc2 := cx_ge_f (a := L2_1.toInt) (b := 1) rfl (by decide) c2
        refine lv_aload_n hx hb dX9_carryRow_8 rfl (lv_at hl 1 rfl) ?_
        refine va_get (D := D) (ci := 7) (v := .int 1) (C := RX9) (T := TX9) (N := 53) hx hb hts in9 hown hG.1 hP 0 rfl rfl 52 (by decide) (hts (.fieldLink RX9 483 "ChairCaneModel" "goesBack" "Z") (by decide +kernel)) (fun _ h9 => h9) rfl dX9_carryRow_9 ?_
        refine lv_if_eq (tgt := 30) hx hb dX9_carryRow_12 (by decide) (fun h => absurd h (by decide)) (fun _ => ?_)
        refine lv_aload_n hx hb dX9_carryRow_15 rfl (lv_at hl 2 rfl) ?_
        refine lv_iload_n hx hb dX9_carryRow_16 rfl (lv_at hl 0 rfl) ?_
        refine lv_aload_n hx hb dX9_carryRow_17 rfl (lv_at hl 1 rfl) ?_
        refine va_get (D := D) (ci := 7) (v := .ref mo_aimages) (C := RX9) (T := TX9) (N := 53) hx hb hts in9 hown hG.1 hP 0 rfl rfl 49 (by decide) (hts (.fieldLink RX9 122 "ChairCaneModel" "images" "[I") (by decide +kernel)) (fun _ h9 => h9) rfl dX9_carryRow_18 ?_
        refine lv_aload_n hx hb dX9_carryRow_21 rfl (lv_at hl 1 rfl) ?_
        refine va_get (D := D) (ci := 7) (v := .int K51_1mo) (C := RX9) (T := TX9) (N := 53) hx hb hts in9 hown hG.1 hP 0 rfl rfl 51 (by decide) (hts (.fieldLink RX9 486 "ChairCaneModel" "imageAt" "I") (by decide +kernel)) (fun _ h9 => h9) rfl dX9_carryRow_22 ?_
        refine va_iald hx hb hG.1 hP 1 0 rfl rfl (vp_in_iff.mpr ⟨by omega, by omega⟩) dX9_carryRow_25 ?_
        refine lv_topi (fun z3 ez3 => ?_)
        refine va_iast hx hb hG.1 hP hD hS 2 0 rfl rfl (vp_in_iff.mpr ⟨by omega, by omega⟩) dX9_carryRow_26 (fun H locs hP hD hS => ?_)
        obtain ⟨f4, ef4⟩ : ∃ f, f = upd g_1a (Int32.toNatClampNeg L2_1) (z3) := ⟨_, rfl⟩
        rw [← ef4] at hP hD
        have hP : va_P D vwCl ([(mo, .inr (7, [.int mo_thrown, .ref mo_ascalar, .ref mo_acane, .ref mo_ais, .ref mo_astrandOf, .ref mo_aweight, .ref mo_aheight, .ref mo_achairOf, .ref mo_anoteMinute, .ref mo_anoteWho, .ref mo_anoteIs, .ref mo_atoldCane, .ref mo_anewScalar, .ref mo_anewCane, .ref mo_anewHeight, .ref mo_anewStrand, .ref mo_anewChair, .ref mo_anewWeight, .int mo_taped, .int mo_p, .int mo_fault, .int mo_slot, .int mo_rules, .int mo_entries, .int mo_deep, .int mo_counted, .int mo_opened, .int mo_words, .ref mo_atape, .ref mo_asort, .ref mo_anumber, .ref mo_aclauses, .ref mo_asumAt, .ref mo_atestAt, .ref mo_aendAt, .ref mo_aopen, .ref mo_aasked, .ref mo_astack, .ref mo_amust, .ref mo_apast, .ref mo_apastOf, .int mo_pastMany, .int mo_pastAt, .int mo_takesBack, .ref mo_acanRise, .ref mo_afirstHas, .ref mo_asecondHas, .ref mo_alay, .ref mo_ashows, .ref mo_aimages, .ref mo_aisMade, .int K51_1mo, .int 1])), (mo_aimages, hcI k 2000 mo_rimages), (a, hcI k 1 f4)]) H := hP
        have hD : va_D A ([(mo, .inr (7, [.int mo_thrown, .ref mo_ascalar, .ref mo_acane, .ref mo_ais, .ref mo_astrandOf, .ref mo_aweight, .ref mo_aheight, .ref mo_achairOf, .ref mo_anoteMinute, .ref mo_anoteWho, .ref mo_anoteIs, .ref mo_atoldCane, .ref mo_anewScalar, .ref mo_anewCane, .ref mo_anewHeight, .ref mo_anewStrand, .ref mo_anewChair, .ref mo_anewWeight, .int mo_taped, .int mo_p, .int mo_fault, .int mo_slot, .int mo_rules, .int mo_entries, .int mo_deep, .int mo_counted, .int mo_opened, .int mo_words, .ref mo_atape, .ref mo_asort, .ref mo_anumber, .ref mo_aclauses, .ref mo_asumAt, .ref mo_atestAt, .ref mo_aendAt, .ref mo_aopen, .ref mo_aasked, .ref mo_astack, .ref mo_amust, .ref mo_apast, .ref mo_apastOf, .int mo_pastMany, .int mo_pastAt, .int mo_takesBack, .ref mo_acanRise, .ref mo_afirstHas, .ref mo_asecondHas, .ref mo_alay, .ref mo_ashows, .ref mo_aimages, .ref mo_aisMade, .int K51_1mo, .int 1])), (mo_aimages, hcI k 2000 mo_rimages), (a, hcI k 1 f4)]) := hD
        refine lv_goto (tgt := 42) hx hb dX9_carryRow_27 (by decide) ?_
        refine lv_aload_n hx hb dX9_carryRow_42 rfl (lv_at hl 1 rfl) ?_
        refine lv_dup hx hb dX9_carryRow_43 rfl ?_
        refine va_get (D := D) (ci := 7) (v := .int K51_1mo) (C := RX9) (T := TX9) (N := 53) hx hb hts in9 hown hG.1 hP 0 rfl rfl 51 (by decide) (hts (.fieldLink RX9 486 "ChairCaneModel" "imageAt" "I") (by decide +kernel)) (fun _ h9 => h9) rfl dX9_carryRow_44 ?_
        refine lv_iconst (v := 1) hx hb dX9_carryRow_47 (by decide) ?_
        refine lv_iadd hx hb dX9_carryRow_48 ?_
        refine lv_topi (fun z5 ez5 => ?_)
        have tz5 : z5.toInt = K51_1mo.toInt + 1 := ai_add rfl (by decide) ez5 (by omega) (by omega)
        refine va_put (D := D) (ci := 7) (v := .int z5) (C := RX9) (T := TX9) (N := 53) hx hb hts in9 tyX9 tyX9_ok nmX9 hown hG.1 hP hD hS 0 rfl rfl 51 (by decide) (hts (.fieldLink RX9 486 "ChairCaneModel" "imageAt" "I") (by decide +kernel)) (fun _ h9 => h9) rfl (tyX9_ok 51 (by decide)) rfl rfl (Nat.le_of_ble_eq_true rfl) dX9_carryRow_49 (fun H locs hP hD hS => ?_)
        have hP : va_P D vwCl ([(mo, .inr (7, [.int mo_thrown, .ref mo_ascalar, .ref mo_acane, .ref mo_ais, .ref mo_astrandOf, .ref mo_aweight, .ref mo_aheight, .ref mo_achairOf, .ref mo_anoteMinute, .ref mo_anoteWho, .ref mo_anoteIs, .ref mo_atoldCane, .ref mo_anewScalar, .ref mo_anewCane, .ref mo_anewHeight, .ref mo_anewStrand, .ref mo_anewChair, .ref mo_anewWeight, .int mo_taped, .int mo_p, .int mo_fault, .int mo_slot, .int mo_rules, .int mo_entries, .int mo_deep, .int mo_counted, .int mo_opened, .int mo_words, .ref mo_atape, .ref mo_asort, .ref mo_anumber, .ref mo_aclauses, .ref mo_asumAt, .ref mo_atestAt, .ref mo_aendAt, .ref mo_aopen, .ref mo_aasked, .ref mo_astack, .ref mo_amust, .ref mo_apast, .ref mo_apastOf, .int mo_pastMany, .int mo_pastAt, .int mo_takesBack, .ref mo_acanRise, .ref mo_afirstHas, .ref mo_asecondHas, .ref mo_alay, .ref mo_ashows, .ref mo_aimages, .ref mo_aisMade, .int z5, .int 1])), (mo_aimages, hcI k 2000 mo_rimages), (a, hcI k 1 f4)]) H := hP
        have hD : va_D A ([(mo, .inr (7, [.int mo_thrown, .ref mo_ascalar, .ref mo_acane, .ref mo_ais, .ref mo_astrandOf, .ref mo_aweight, .ref mo_aheight, .ref mo_achairOf, .ref mo_anoteMinute, .ref mo_anoteWho, .ref mo_anoteIs, .ref mo_atoldCane, .ref mo_anewScalar, .ref mo_anewCane, .ref mo_anewHeight, .ref mo_anewStrand, .ref mo_anewChair, .ref mo_anewWeight, .int mo_taped, .int mo_p, .int mo_fault, .int mo_slot, .int mo_rules, .int mo_entries, .int mo_deep, .int mo_counted, .int mo_opened, .int mo_words, .ref mo_atape, .ref mo_asort, .ref mo_anumber, .ref mo_aclauses, .ref mo_asumAt, .ref mo_atestAt, .ref mo_aendAt, .ref mo_aopen, .ref mo_aasked, .ref mo_astack, .ref mo_amust, .ref mo_apast, .ref mo_apastOf, .int mo_pastMany, .int mo_pastAt, .int mo_takesBack, .ref mo_acanRise, .ref mo_afirstHas, .ref mo_asecondHas, .ref mo_alay, .ref mo_ashows, .ref mo_aimages, .ref mo_aisMade, .int z5, .int 1])), (mo_aimages, hcI k 2000 mo_rimages), (a, hcI k 1 f4)]) := hD
        obtain ⟨z6, ez6⟩ : ∃ z : Int32, z = L2_1 + 1 := ⟨_, rfl⟩
        have tz6 : z6.toInt = L2_1.toInt + (1) := ai_add rfl (by decide) ez6 (by omega) (by omega)
        refine lv_iinc (v := z6) (lv' := [(2, .int z6), (0, .ref mo), (1, .ref a)]) hx hb dX9_carryRow_52 hl (k := 0) rfl (by rw [ez6]; rfl) (by decide) rfl (fun ls hl => ?_)
        refine lv_goto (tgt := 2) hx hb dX9_carryRow_55 (by decide) ?_
        exact ih1 z6 z5 f4 ⟨by omega, by omega⟩ ⟨by omega, by omega⟩ (by omega) (CpO_s hp1_1 (by omega) (by omega) (i := K51_1mo) (by omega) tz6 ez3 ef4) (by omega) _ _ _ hP hD hS (lv_sub hl [0, 1, 2] rfl)
  exact loop1 300 0 mo_imageAt a_r (iv_lit (by decide) (by decide)) ⟨by omega, by omega⟩ (by have q0 : (0 : Int32).toInt = 0 := (by decide); omega) (CpO_0) (by have q0 : (0 : Int32).toInt = 0 := (by decide); omega) _ _ _ hP hD hS hl
set_option maxHeartbeats 4000000 in
set_option maxRecDepth 100000 in
theorem i_X9_carryRow_10_0 (l : Launch) (D : va_G) (k : Nat → ClassId) (sz : Nat) (ca : Int) (mo : Nat) (mo_thrown : Int32) (mo_ascalar : Nat) (mo_acane : Nat) (mo_ais : Nat) (mo_astrandOf : Nat) (mo_aweight : Nat) (mo_aheight : Nat) (mo_achairOf : Nat) (mo_anoteMinute : Nat) (mo_anoteWho : Nat) (mo_anoteIs : Nat) (mo_atoldCane : Nat) (mo_anewScalar : Nat) (mo_anewCane : Nat) (mo_anewHeight : Nat) (mo_anewStrand : Nat) (mo_anewChair : Nat) (mo_anewWeight : Nat) (mo_taped : Int32) (mo_p : Int32) (mo_fault : Int32) (mo_slot : Int32) (mo_rules : Int32) (mo_entries : Int32) (mo_deep : Int32) (mo_counted : Int32) (mo_opened : Int32) (mo_words : Int32) (mo_atape : Nat) (mo_asort : Nat) (mo_anumber : Nat) (mo_aclauses : Nat) (mo_asumAt : Nat) (mo_atestAt : Nat) (mo_aendAt : Nat) (mo_aopen : Nat) (mo_aasked : Nat) (mo_astack : Nat) (mo_amust : Nat) (mo_apast : Nat) (mo_apastOf : Nat) (mo_pastMany : Int32) (mo_pastAt : Int32) (mo_takesBack : Int32) (mo_acanRise : Nat) (mo_afirstHas : Nat) (mo_asecondHas : Nat) (mo_alay : Nat) (mo_ashows : Nat) (mo_aimages : Nat) (mo_aisMade : Nat) (mo_imageAt : Int32) (mo_rimages : Nat → Int32) (a : Nat) (a_r : Nat → Int32) (h_mo_taped : iv (0) (400) mo_taped) (h_mo_p : iv (0) (402) mo_p) (h_mo_fault : iv (0) (4000) mo_fault) (h_mo_slot : iv (0) (5) mo_slot) (h_mo_rules : iv (0) (6) mo_rules) (h_mo_entries : iv (0) (300) mo_entries) (h_mo_counted : iv (0) (70) mo_counted) (h_mo_opened : iv (0) (402) mo_opened) (h_mo_words : iv (11) (11) mo_words) (h_mo_pastMany : iv (0) (20) mo_pastMany) (h_mo_pastAt : iv (0) (260) mo_pastAt) (h_mo_takesBack : iv (0) (1) mo_takesBack) (h_mo_imageAt : iv (0) (2000) mo_imageAt) (hr_a : mo_imageAt.toInt = ca) (hr_n : ca + 10 ≤ 2000) : CtV l yX9_carryRow wsX9_carryRow (rmK 1 0 0) [.ref mo, .ref a] D k sz ([(mo, .inr (7, [.int mo_thrown, .ref mo_ascalar, .ref mo_acane, .ref mo_ais, .ref mo_astrandOf, .ref mo_aweight, .ref mo_aheight, .ref mo_achairOf, .ref mo_anoteMinute, .ref mo_anoteWho, .ref mo_anoteIs, .ref mo_atoldCane, .ref mo_anewScalar, .ref mo_anewCane, .ref mo_anewHeight, .ref mo_anewStrand, .ref mo_anewChair, .ref mo_anewWeight, .int mo_taped, .int mo_p, .int mo_fault, .int mo_slot, .int mo_rules, .int mo_entries, .int mo_deep, .int mo_counted, .int mo_opened, .int mo_words, .ref mo_atape, .ref mo_asort, .ref mo_anumber, .ref mo_aclauses, .ref mo_asumAt, .ref mo_atestAt, .ref mo_aendAt, .ref mo_aopen, .ref mo_aasked, .ref mo_astack, .ref mo_amust, .ref mo_apast, .ref mo_apastOf, .int mo_pastMany, .int mo_pastAt, .int mo_takesBack, .ref mo_acanRise, .ref mo_afirstHas, .ref mo_asecondHas, .ref mo_alay, .ref mo_ashows, .ref mo_aimages, .ref mo_aisMade, .int mo_imageAt, .int 0])), (mo_aimages, hcI k 2000 mo_rimages), (a, hcI k 10 a_r)]) (fun u : (Int32) × (Nat → Int32) => iv (0) (2000) (u.1) ∧ (CpI mo_rimages (u.2) a_r ca 10 ∧ (u.1).toInt = ca + 10)) (fun u : (Int32) × (Nat → Int32) => [(mo, .inr (7, [.int mo_thrown, .ref mo_ascalar, .ref mo_acane, .ref mo_ais, .ref mo_astrandOf, .ref mo_aweight, .ref mo_aheight, .ref mo_achairOf, .ref mo_anoteMinute, .ref mo_anoteWho, .ref mo_anoteIs, .ref mo_atoldCane, .ref mo_anewScalar, .ref mo_anewCane, .ref mo_anewHeight, .ref mo_anewStrand, .ref mo_anewChair, .ref mo_anewWeight, .int mo_taped, .int mo_p, .int mo_fault, .int mo_slot, .int mo_rules, .int mo_entries, .int mo_deep, .int mo_counted, .int mo_opened, .int mo_words, .ref mo_atape, .ref mo_asort, .ref mo_anumber, .ref mo_aclauses, .ref mo_asumAt, .ref mo_atestAt, .ref mo_aendAt, .ref mo_aopen, .ref mo_aasked, .ref mo_astack, .ref mo_amust, .ref mo_apast, .ref mo_apastOf, .int mo_pastMany, .int mo_pastAt, .int mo_takesBack, .ref mo_acanRise, .ref mo_afirstHas, .ref mo_asecondHas, .ref mo_alay, .ref mo_ashows, .ref mo_aimages, .ref mo_aisMade, .int (u.1), .int 0])), (mo_aimages, hcI k 2000 (u.2)), (a, hcI k 10 a_r)]) 0 0 := by
  have h_mo_taped_l := h_mo_taped.1
  have h_mo_taped_u := h_mo_taped.2
  have h_mo_p_l := h_mo_p.1
  have h_mo_p_u := h_mo_p.2
  have h_mo_fault_l := h_mo_fault.1
  have h_mo_fault_u := h_mo_fault.2
  have h_mo_slot_l := h_mo_slot.1
  have h_mo_slot_u := h_mo_slot.2
  have h_mo_rules_l := h_mo_rules.1
  have h_mo_rules_u := h_mo_rules.2
  have h_mo_entries_l := h_mo_entries.1
  have h_mo_entries_u := h_mo_entries.2
  have h_mo_counted_l := h_mo_counted.1
  have h_mo_counted_u := h_mo_counted.2
  have h_mo_opened_l := h_mo_opened.1
  have h_mo_opened_u := h_mo_opened.2
  have h_mo_words_l := h_mo_words.1
  have h_mo_words_u := h_mo_words.2
  have h_mo_pastMany_l := h_mo_pastMany.1
  have h_mo_pastMany_u := h_mo_pastMany.2
  have h_mo_pastAt_l := h_mo_pastAt.1
  have h_mo_pastAt_u := h_mo_pastAt.2
  have h_mo_takesBack_l := h_mo_takesBack.1
  have h_mo_takesBack_u := h_mo_takesBack.2
  have h_mo_imageAt_l := h_mo_imageAt.1
  have h_mo_imageAt_u := h_mo_imageAt.2
  refine CtV.mk (cc := cX9_carryRow) (maxL := 3) (ret := none) (by decide) rfl (Nat.le_of_ble_eq_true rfl) ?_
  intro p e s m below meth c A ls E hP hD hS hl
  obtain ⟨hx, hb, hr, hml, hown, hts, hlocks, hin, hG, hA⟩ := E
  have hown : s.vm.findClass RX9 = some m.cls := hown
  have in9 : ∀ w ∈ u_ws RX9 TX9 53, w ∈ wsX9_carryRow := fun _ h => List.mem_cons_of_mem _ (List.mem_append_right _ h)
  have hl : lv_has ls 3 [(0, .ref mo), (1, .ref a)] := hl
  refine lv_iconst (v := 0) hx hb dX9_carryRow_0 (by decide) ?_
  refine lv_istore_n (lv' := [(2, .int 0), (0, .ref mo), (1, .ref a)]) hx hb dX9_carryRow_1 rfl hl (by decide) rfl (fun ls hl => ?_)
  have loop1 : ∀ (fu : Nat) (L2_1 : Int32) (K51_1mo : Int32) (g_1mo_aimages : Nat → Int32), iv (0) (10) L2_1 → iv (0) (2000) K51_1mo → K51_1mo.toInt = ca + L2_1.toInt → CpI mo_rimages g_1mo_aimages a_r ca L2_1.toInt → 11 - L2_1.toInt < (fu : Int) → ∀ (H : Heap) (locs : List Loc) (ls : Array Slot), va_P D vwCl ([(mo, .inr (7, [.int mo_thrown, .ref mo_ascalar, .ref mo_acane, .ref mo_ais, .ref mo_astrandOf, .ref mo_aweight, .ref mo_aheight, .ref mo_achairOf, .ref mo_anoteMinute, .ref mo_anoteWho, .ref mo_anoteIs, .ref mo_atoldCane, .ref mo_anewScalar, .ref mo_anewCane, .ref mo_anewHeight, .ref mo_anewStrand, .ref mo_anewChair, .ref mo_anewWeight, .int mo_taped, .int mo_p, .int mo_fault, .int mo_slot, .int mo_rules, .int mo_entries, .int mo_deep, .int mo_counted, .int mo_opened, .int mo_words, .ref mo_atape, .ref mo_asort, .ref mo_anumber, .ref mo_aclauses, .ref mo_asumAt, .ref mo_atestAt, .ref mo_aendAt, .ref mo_aopen, .ref mo_aasked, .ref mo_astack, .ref mo_amust, .ref mo_apast, .ref mo_apastOf, .int mo_pastMany, .int mo_pastAt, .int mo_takesBack, .ref mo_acanRise, .ref mo_afirstHas, .ref mo_asecondHas, .ref mo_alay, .ref mo_ashows, .ref mo_aimages, .ref mo_aisMade, .int K51_1mo, .int 0])), (mo_aimages, hcI k 2000 g_1mo_aimages), (a, hcI k 10 a_r)]) H → va_D A ([(mo, .inr (7, [.int mo_thrown, .ref mo_ascalar, .ref mo_acane, .ref mo_ais, .ref mo_astrandOf, .ref mo_aweight, .ref mo_aheight, .ref mo_achairOf, .ref mo_anoteMinute, .ref mo_anoteWho, .ref mo_anoteIs, .ref mo_atoldCane, .ref mo_anewScalar, .ref mo_anewCane, .ref mo_anewHeight, .ref mo_anewStrand, .ref mo_anewChair, .ref mo_anewWeight, .int mo_taped, .int mo_p, .int mo_fault, .int mo_slot, .int mo_rules, .int mo_entries, .int mo_deep, .int mo_counted, .int mo_opened, .int mo_words, .ref mo_atape, .ref mo_asort, .ref mo_anumber, .ref mo_aclauses, .ref mo_asumAt, .ref mo_atestAt, .ref mo_aendAt, .ref mo_aopen, .ref mo_aasked, .ref mo_astack, .ref mo_amust, .ref mo_apast, .ref mo_apastOf, .int mo_pastMany, .int mo_pastAt, .int mo_takesBack, .ref mo_acanRise, .ref mo_afirstHas, .ref mo_asecondHas, .ref mo_alay, .ref mo_ashows, .ref mo_aimages, .ref mo_aisMade, .int K51_1mo, .int 0])), (mo_aimages, hcI k 2000 g_1mo_aimages), (a, hcI k 10 a_r)]) → va_S A s.heap H locs → lv_has ls 3 [(2, .int L2_1), (0, .ref mo), (1, .ref a)] → W p l e (rmK 1 0 0) s m (List.toArray [.ref mo, .ref a]) below meth c H locs 0 0 (MQ below (va_Qv (fun u : (Int32) × (Nat → Int32) => iv (0) (2000) (u.1) ∧ (CpI mo_rimages (u.2) a_r ca 10 ∧ (u.1).toInt = ca + 10)) (hcB D (fun u : (Int32) × (Nat → Int32) => [(mo, .inr (7, [.int mo_thrown, .ref mo_ascalar, .ref mo_acane, .ref mo_ais, .ref mo_astrandOf, .ref mo_aweight, .ref mo_aheight, .ref mo_achairOf, .ref mo_anoteMinute, .ref mo_anoteWho, .ref mo_anoteIs, .ref mo_atoldCane, .ref mo_anewScalar, .ref mo_anewCane, .ref mo_anewHeight, .ref mo_anewStrand, .ref mo_anewChair, .ref mo_anewWeight, .int mo_taped, .int mo_p, .int mo_fault, .int mo_slot, .int mo_rules, .int mo_entries, .int mo_deep, .int mo_counted, .int mo_opened, .int mo_words, .ref mo_atape, .ref mo_asort, .ref mo_anumber, .ref mo_aclauses, .ref mo_asumAt, .ref mo_atestAt, .ref mo_aendAt, .ref mo_aopen, .ref mo_aasked, .ref mo_astack, .ref mo_amust, .ref mo_apast, .ref mo_apastOf, .int mo_pastMany, .int mo_pastAt, .int mo_takesBack, .ref mo_acanRise, .ref mo_afirstHas, .ref mo_asecondHas, .ref mo_alay, .ref mo_ashows, .ref mo_aimages, .ref mo_aisMade, .int (u.1), .int 0])), (mo_aimages, hcI k 2000 (u.2)), (a, hcI k 10 a_r)]) A) A) (List.toArray [.ref mo, .ref a]) s 0 0 A) (F0 m 2 ls []) := by
    intro fu
    induction fu with
    | zero =>
      intro L2_1 K51_1mo g_1mo_aimages bL2_1 bK51_1mo hI1_1 hp1_1 hm
      have bL2_1_l := bL2_1.1
      have bL2_1_u := bL2_1.2
      have bK51_1mo_l := bK51_1mo.1
      have bK51_1mo_u := bK51_1mo.2
      exact absurd hm (by omega)
    | succ fu ih1 =>
      intro L2_1 K51_1mo g_1mo_aimages bL2_1 bK51_1mo hI1_1 hp1_1 hm H locs ls hP hD hS hl
      have bL2_1_l := bL2_1.1
      have bL2_1_u := bL2_1.2
      have bK51_1mo_l := bK51_1mo.1
      have bK51_1mo_u := bK51_1mo.2
      refine lv_iload_n hx hb dX9_carryRow_2 rfl (lv_at hl 0 rfl) ?_
      refine lv_aload_n hx hb dX9_carryRow_3 rfl (lv_at hl 2 rfl) ?_
      refine va_alen hx hb hG.1 hP 2 0 rfl rfl (v := 10) rfl dX9_carryRow_4 ?_
      refine lv_icmp_ge (tgt := 58) hx hb dX9_carryRow_5 (by decide) (fun c2 => ?_) (fun c2 => ?_)
      · have fc2 := cx_ge_t (a := L2_1.toInt) (b := 10) rfl (by decide) c2
        exact hc_endV hx hb hr hlocks (K51_1mo, g_1mo_aimages) ⟨(show iv (0) (2000) K51_1mo from ⟨by omega, by omega⟩), (by (try dsimp only); exact (by have e9 : L2_1.toInt = 10 := (by omega); rw [← e9]; exact ⟨hp1_1, by omega⟩))⟩ hP hD hS dX9_carryRow_58
      · have fc2 := cx_ge_f (a := L2_1.toInt) (b := 10) rfl (by decide) c2
        refine lv_aload_n hx hb dX9_carryRow_8 rfl (lv_at hl 1 rfl) ?_
        refine va_get (D := D) (ci := 7) (v := .int 0) (C := RX9) (T := TX9) (N := 53) hx hb hts in9 hown hG.1 hP 0 rfl rfl 52 (by decide) (hts (.fieldLink RX9 483 "ChairCaneModel" "goesBack" "Z") (by decide +kernel)) (fun _ h9 => h9) rfl dX9_carryRow_9 ?_
        refine lv_if_eq (tgt := 30) hx hb dX9_carryRow_12 (by decide) (fun _ => ?_) (fun h => absurd (by decide) h)
        refine lv_aload_n hx hb dX9_carryRow_30 rfl (lv_at hl 1 rfl) ?_
        refine va_get (D := D) (ci := 7) (v := .ref mo_aimages) (C := RX9) (T := TX9) (N := 53) hx hb hts in9 hown hG.1 hP 0 rfl rfl 49 (by decide) (hts (.fieldLink RX9 122 "ChairCaneModel" "images" "[I") (by decide +kernel)) (fun _ h9 => h9) rfl dX9_carryRow_31 ?_
        refine lv_aload_n hx hb dX9_carryRow_34 rfl (lv_at hl 1 rfl) ?_
        refine va_get (D := D) (ci := 7) (v := .int K51_1mo) (C := RX9) (T := TX9) (N := 53) hx hb hts in9 hown hG.1 hP 0 rfl rfl 51 (by decide) (hts (.fieldLink RX9 486 "ChairCaneModel" "imageAt" "I") (by decide +kernel)) (fun _ h9 => h9) rfl dX9_carryRow_35 ?_
        refine lv_aload_n hx hb dX9_carryRow_38 rfl (lv_at hl 2 rfl) ?_
        refine lv_iload_n hx hb dX9_carryRow_39 rfl (lv_at hl 0 rfl) ?_
        refine va_iald hx hb hG.1 hP 2 0 rfl rfl (vp_in_iff.mpr ⟨by omega, by omega⟩) dX9_carryRow_40 ?_
        refine lv_topi (fun z3 ez3 => ?_)
        refine va_iast hx hb hG.1 hP hD hS 1 0 rfl rfl (vp_in_iff.mpr ⟨by omega, by omega⟩) dX9_carryRow_41 (fun H locs hP hD hS => ?_)
        obtain ⟨f4, ef4⟩ : ∃ f, f = upd g_1mo_aimages (Int32.toNatClampNeg K51_1mo) (z3) := ⟨_, rfl⟩
        rw [← ef4] at hP hD
        have hP : va_P D vwCl ([(mo, .inr (7, [.int mo_thrown, .ref mo_ascalar, .ref mo_acane, .ref mo_ais, .ref mo_astrandOf, .ref mo_aweight, .ref mo_aheight, .ref mo_achairOf, .ref mo_anoteMinute, .ref mo_anoteWho, .ref mo_anoteIs, .ref mo_atoldCane, .ref mo_anewScalar, .ref mo_anewCane, .ref mo_anewHeight, .ref mo_anewStrand, .ref mo_anewChair, .ref mo_anewWeight, .int mo_taped, .int mo_p, .int mo_fault, .int mo_slot, .int mo_rules, .int mo_entries, .int mo_deep, .int mo_counted, .int mo_opened, .int mo_words, .ref mo_atape, .ref mo_asort, .ref mo_anumber, .ref mo_aclauses, .ref mo_asumAt, .ref mo_atestAt, .ref mo_aendAt, .ref mo_aopen, .ref mo_aasked, .ref mo_astack, .ref mo_amust, .ref mo_apast, .ref mo_apastOf, .int mo_pastMany, .int mo_pastAt, .int mo_takesBack, .ref mo_acanRise, .ref mo_afirstHas, .ref mo_asecondHas, .ref mo_alay, .ref mo_ashows, .ref mo_aimages, .ref mo_aisMade, .int K51_1mo, .int 0])), (mo_aimages, hcI k 2000 f4), (a, hcI k 10 a_r)]) H := hP
        have hD : va_D A ([(mo, .inr (7, [.int mo_thrown, .ref mo_ascalar, .ref mo_acane, .ref mo_ais, .ref mo_astrandOf, .ref mo_aweight, .ref mo_aheight, .ref mo_achairOf, .ref mo_anoteMinute, .ref mo_anoteWho, .ref mo_anoteIs, .ref mo_atoldCane, .ref mo_anewScalar, .ref mo_anewCane, .ref mo_anewHeight, .ref mo_anewStrand, .ref mo_anewChair, .ref mo_anewWeight, .int mo_taped, .int mo_p, .int mo_fault, .int mo_slot, .int mo_rules, .int mo_entries, .int mo_deep, .int mo_counted, .int mo_opened, .int mo_words, .ref mo_atape, .ref mo_asort, .ref mo_anumber, .ref mo_aclauses, .ref mo_asumAt, .ref mo_atestAt, .ref mo_aendAt, .ref mo_aopen, .ref mo_aasked, .ref mo_astack, .ref mo_amust, .ref mo_apast, .ref mo_apastOf, .int mo_pastMany, .int mo_pastAt, .int mo_takesBack, .ref mo_acanRise, .ref mo_afirstHas, .ref mo_asecondHas, .ref mo_alay, .ref mo_ashows, .ref mo_aimages, .ref mo_aisMade, .int K51_1mo, .int 0])), (mo_aimages, hcI k 2000 f4), (a, hcI k 10 a_r)]) := hD
        refine lv_aload_n hx hb dX9_carryRow_42 rfl (lv_at hl 1 rfl) ?_
        refine lv_dup hx hb dX9_carryRow_43 rfl ?_
        refine va_get (D := D) (ci := 7) (v := .int K51_1mo) (C := RX9) (T := TX9) (N := 53) hx hb hts in9 hown hG.1 hP 0 rfl rfl 51 (by decide) (hts (.fieldLink RX9 486 "ChairCaneModel" "imageAt" "I") (by decide +kernel)) (fun _ h9 => h9) rfl dX9_carryRow_44 ?_
        refine lv_iconst (v := 1) hx hb dX9_carryRow_47 (by decide) ?_
        refine lv_iadd hx hb dX9_carryRow_48 ?_
        refine lv_topi (fun z5 ez5 => ?_)
        have tz5 : z5.toInt = K51_1mo.toInt + 1 := ai_add rfl (by decide) ez5 (by omega) (by omega)
        refine va_put (D := D) (ci := 7) (v := .int z5) (C := RX9) (T := TX9) (N := 53) hx hb hts in9 tyX9 tyX9_ok nmX9 hown hG.1 hP hD hS 0 rfl rfl 51 (by decide) (hts (.fieldLink RX9 486 "ChairCaneModel" "imageAt" "I") (by decide +kernel)) (fun _ h9 => h9) rfl (tyX9_ok 51 (by decide)) rfl rfl (Nat.le_of_ble_eq_true rfl) dX9_carryRow_49 (fun H locs hP hD hS => ?_)
        have hP : va_P D vwCl ([(mo, .inr (7, [.int mo_thrown, .ref mo_ascalar, .ref mo_acane, .ref mo_ais, .ref mo_astrandOf, .ref mo_aweight, .ref mo_aheight, .ref mo_achairOf, .ref mo_anoteMinute, .ref mo_anoteWho, .ref mo_anoteIs, .ref mo_atoldCane, .ref mo_anewScalar, .ref mo_anewCane, .ref mo_anewHeight, .ref mo_anewStrand, .ref mo_anewChair, .ref mo_anewWeight, .int mo_taped, .int mo_p, .int mo_fault, .int mo_slot, .int mo_rules, .int mo_entries, .int mo_deep, .int mo_counted, .int mo_opened, .int mo_words, .ref mo_atape, .ref mo_asort, .ref mo_anumber, .ref mo_aclauses, .ref mo_asumAt, .ref mo_atestAt, .ref mo_aendAt, .ref mo_aopen, .ref mo_aasked, .ref mo_astack, .ref mo_amust, .ref mo_apast, .ref mo_apastOf, .int mo_pastMany, .int mo_pastAt, .int mo_takesBack, .ref mo_acanRise, .ref mo_afirstHas, .ref mo_asecondHas, .ref mo_alay, .ref mo_ashows, .ref mo_aimages, .ref mo_aisMade, .int z5, .int 0])), (mo_aimages, hcI k 2000 f4), (a, hcI k 10 a_r)]) H := hP
        have hD : va_D A ([(mo, .inr (7, [.int mo_thrown, .ref mo_ascalar, .ref mo_acane, .ref mo_ais, .ref mo_astrandOf, .ref mo_aweight, .ref mo_aheight, .ref mo_achairOf, .ref mo_anoteMinute, .ref mo_anoteWho, .ref mo_anoteIs, .ref mo_atoldCane, .ref mo_anewScalar, .ref mo_anewCane, .ref mo_anewHeight, .ref mo_anewStrand, .ref mo_anewChair, .ref mo_anewWeight, .int mo_taped, .int mo_p, .int mo_fault, .int mo_slot, .int mo_rules, .int mo_entries, .int mo_deep, .int mo_counted, .int mo_opened, .int mo_words, .ref mo_atape, .ref mo_asort, .ref mo_anumber, .ref mo_aclauses, .ref mo_asumAt, .ref mo_atestAt, .ref mo_aendAt, .ref mo_aopen, .ref mo_aasked, .ref mo_astack, .ref mo_amust, .ref mo_apast, .ref mo_apastOf, .int mo_pastMany, .int mo_pastAt, .int mo_takesBack, .ref mo_acanRise, .ref mo_afirstHas, .ref mo_asecondHas, .ref mo_alay, .ref mo_ashows, .ref mo_aimages, .ref mo_aisMade, .int z5, .int 0])), (mo_aimages, hcI k 2000 f4), (a, hcI k 10 a_r)]) := hD
        obtain ⟨z6, ez6⟩ : ∃ z : Int32, z = L2_1 + 1 := ⟨_, rfl⟩
        have tz6 : z6.toInt = L2_1.toInt + (1) := ai_add rfl (by decide) ez6 (by omega) (by omega)
        refine lv_iinc (v := z6) (lv' := [(2, .int z6), (0, .ref mo), (1, .ref a)]) hx hb dX9_carryRow_52 hl (k := 0) rfl (by rw [ez6]; rfl) (by decide) rfl (fun ls hl => ?_)
        refine lv_goto (tgt := 2) hx hb dX9_carryRow_55 (by decide) ?_
        exact ih1 z6 z5 f4 ⟨by omega, by omega⟩ ⟨by omega, by omega⟩ (by omega) (CpI_s hp1_1 (by omega) (by omega) (i := K51_1mo) (by omega) tz6 ez3 ef4) (by omega) _ _ _ hP hD hS (lv_sub hl [0, 1, 2] rfl)
  exact loop1 300 0 mo_imageAt mo_rimages (iv_lit (by decide) (by decide)) ⟨by omega, by omega⟩ (by have q0 : (0 : Int32).toInt = 0 := (by decide); omega) (CpI_0) (by have q0 : (0 : Int32).toInt = 0 := (by decide); omega) _ _ _ hP hD hS hl
set_option maxHeartbeats 4000000 in
set_option maxRecDepth 100000 in
theorem i_X9_carryRow_10_1 (l : Launch) (D : va_G) (k : Nat → ClassId) (sz : Nat) (ca : Int) (mo : Nat) (mo_thrown : Int32) (mo_ascalar : Nat) (mo_acane : Nat) (mo_ais : Nat) (mo_astrandOf : Nat) (mo_aweight : Nat) (mo_aheight : Nat) (mo_achairOf : Nat) (mo_anoteMinute : Nat) (mo_anoteWho : Nat) (mo_anoteIs : Nat) (mo_atoldCane : Nat) (mo_anewScalar : Nat) (mo_anewCane : Nat) (mo_anewHeight : Nat) (mo_anewStrand : Nat) (mo_anewChair : Nat) (mo_anewWeight : Nat) (mo_taped : Int32) (mo_p : Int32) (mo_fault : Int32) (mo_slot : Int32) (mo_rules : Int32) (mo_entries : Int32) (mo_deep : Int32) (mo_counted : Int32) (mo_opened : Int32) (mo_words : Int32) (mo_atape : Nat) (mo_asort : Nat) (mo_anumber : Nat) (mo_aclauses : Nat) (mo_asumAt : Nat) (mo_atestAt : Nat) (mo_aendAt : Nat) (mo_aopen : Nat) (mo_aasked : Nat) (mo_astack : Nat) (mo_amust : Nat) (mo_apast : Nat) (mo_apastOf : Nat) (mo_pastMany : Int32) (mo_pastAt : Int32) (mo_takesBack : Int32) (mo_acanRise : Nat) (mo_afirstHas : Nat) (mo_asecondHas : Nat) (mo_alay : Nat) (mo_ashows : Nat) (mo_aimages : Nat) (mo_aisMade : Nat) (mo_imageAt : Int32) (mo_rimages : Nat → Int32) (a : Nat) (a_r : Nat → Int32) (h_mo_taped : iv (0) (400) mo_taped) (h_mo_p : iv (0) (402) mo_p) (h_mo_fault : iv (0) (4000) mo_fault) (h_mo_slot : iv (0) (5) mo_slot) (h_mo_rules : iv (0) (6) mo_rules) (h_mo_entries : iv (0) (300) mo_entries) (h_mo_counted : iv (0) (70) mo_counted) (h_mo_opened : iv (0) (402) mo_opened) (h_mo_words : iv (11) (11) mo_words) (h_mo_pastMany : iv (0) (20) mo_pastMany) (h_mo_pastAt : iv (0) (260) mo_pastAt) (h_mo_takesBack : iv (0) (1) mo_takesBack) (h_mo_imageAt : iv (0) (2000) mo_imageAt) (hr_a : mo_imageAt.toInt = ca) (hr_n : ca + 10 ≤ 2000) : CtV l yX9_carryRow wsX9_carryRow (rmK 1 0 0) [.ref mo, .ref a] D k sz ([(mo, .inr (7, [.int mo_thrown, .ref mo_ascalar, .ref mo_acane, .ref mo_ais, .ref mo_astrandOf, .ref mo_aweight, .ref mo_aheight, .ref mo_achairOf, .ref mo_anoteMinute, .ref mo_anoteWho, .ref mo_anoteIs, .ref mo_atoldCane, .ref mo_anewScalar, .ref mo_anewCane, .ref mo_anewHeight, .ref mo_anewStrand, .ref mo_anewChair, .ref mo_anewWeight, .int mo_taped, .int mo_p, .int mo_fault, .int mo_slot, .int mo_rules, .int mo_entries, .int mo_deep, .int mo_counted, .int mo_opened, .int mo_words, .ref mo_atape, .ref mo_asort, .ref mo_anumber, .ref mo_aclauses, .ref mo_asumAt, .ref mo_atestAt, .ref mo_aendAt, .ref mo_aopen, .ref mo_aasked, .ref mo_astack, .ref mo_amust, .ref mo_apast, .ref mo_apastOf, .int mo_pastMany, .int mo_pastAt, .int mo_takesBack, .ref mo_acanRise, .ref mo_afirstHas, .ref mo_asecondHas, .ref mo_alay, .ref mo_ashows, .ref mo_aimages, .ref mo_aisMade, .int mo_imageAt, .int 1])), (mo_aimages, hcI k 2000 mo_rimages), (a, hcI k 10 a_r)]) (fun u : (Int32) × (Nat → Int32) => iv (0) (2000) (u.1) ∧ (CpO a_r (u.2) mo_rimages ca 10 ∧ (u.1).toInt = ca + 10)) (fun u : (Int32) × (Nat → Int32) => [(mo, .inr (7, [.int mo_thrown, .ref mo_ascalar, .ref mo_acane, .ref mo_ais, .ref mo_astrandOf, .ref mo_aweight, .ref mo_aheight, .ref mo_achairOf, .ref mo_anoteMinute, .ref mo_anoteWho, .ref mo_anoteIs, .ref mo_atoldCane, .ref mo_anewScalar, .ref mo_anewCane, .ref mo_anewHeight, .ref mo_anewStrand, .ref mo_anewChair, .ref mo_anewWeight, .int mo_taped, .int mo_p, .int mo_fault, .int mo_slot, .int mo_rules, .int mo_entries, .int mo_deep, .int mo_counted, .int mo_opened, .int mo_words, .ref mo_atape, .ref mo_asort, .ref mo_anumber, .ref mo_aclauses, .ref mo_asumAt, .ref mo_atestAt, .ref mo_aendAt, .ref mo_aopen, .ref mo_aasked, .ref mo_astack, .ref mo_amust, .ref mo_apast, .ref mo_apastOf, .int mo_pastMany, .int mo_pastAt, .int mo_takesBack, .ref mo_acanRise, .ref mo_afirstHas, .ref mo_asecondHas, .ref mo_alay, .ref mo_ashows, .ref mo_aimages, .ref mo_aisMade, .int (u.1), .int 1])), (mo_aimages, hcI k 2000 mo_rimages), (a, hcI k 10 (u.2))]) 0 0 := by
  have h_mo_taped_l := h_mo_taped.1
  have h_mo_taped_u := h_mo_taped.2
  have h_mo_p_l := h_mo_p.1
  have h_mo_p_u := h_mo_p.2
  have h_mo_fault_l := h_mo_fault.1
  have h_mo_fault_u := h_mo_fault.2
  have h_mo_slot_l := h_mo_slot.1
  have h_mo_slot_u := h_mo_slot.2
  have h_mo_rules_l := h_mo_rules.1
  have h_mo_rules_u := h_mo_rules.2
  have h_mo_entries_l := h_mo_entries.1
  have h_mo_entries_u := h_mo_entries.2
  have h_mo_counted_l := h_mo_counted.1
  have h_mo_counted_u := h_mo_counted.2
  have h_mo_opened_l := h_mo_opened.1
  have h_mo_opened_u := h_mo_opened.2
  have h_mo_words_l := h_mo_words.1
  have h_mo_words_u := h_mo_words.2
  have h_mo_pastMany_l := h_mo_pastMany.1
  have h_mo_pastMany_u := h_mo_pastMany.2
  have h_mo_pastAt_l := h_mo_pastAt.1
  have h_mo_pastAt_u := h_mo_pastAt.2
  have h_mo_takesBack_l := h_mo_takesBack.1
  have h_mo_takesBack_u := h_mo_takesBack.2
  have h_mo_imageAt_l := h_mo_imageAt.1
  have h_mo_imageAt_u := h_mo_imageAt.2
  refine CtV.mk (cc := cX9_carryRow) (maxL := 3) (ret := none) (by decide) rfl (Nat.le_of_ble_eq_true rfl) ?_
  intro p e s m below meth c A ls E hP hD hS hl
  obtain ⟨hx, hb, hr, hml, hown, hts, hlocks, hin, hG, hA⟩ := E
  have hown : s.vm.findClass RX9 = some m.cls := hown
  have in9 : ∀ w ∈ u_ws RX9 TX9 53, w ∈ wsX9_carryRow := fun _ h => List.mem_cons_of_mem _ (List.mem_append_right _ h)
  have hl : lv_has ls 3 [(0, .ref mo), (1, .ref a)] := hl
  refine lv_iconst (v := 0) hx hb dX9_carryRow_0 (by decide) ?_
  refine lv_istore_n (lv' := [(2, .int 0), (0, .ref mo), (1, .ref a)]) hx hb dX9_carryRow_1 rfl hl (by decide) rfl (fun ls hl => ?_)
  have loop1 : ∀ (fu : Nat) (L2_1 : Int32) (K51_1mo : Int32) (g_1a : Nat → Int32), iv (0) (10) L2_1 → iv (0) (2000) K51_1mo → K51_1mo.toInt = ca + L2_1.toInt → CpO a_r g_1a mo_rimages ca L2_1.toInt → 11 - L2_1.toInt < (fu : Int) → ∀ (H : Heap) (locs : List Loc) (ls : Array Slot), va_P D vwCl ([(mo, .inr (7, [.int mo_thrown, .ref mo_ascalar, .ref mo_acane, .ref mo_ais, .ref mo_astrandOf, .ref mo_aweight, .ref mo_aheight, .ref mo_achairOf, .ref mo_anoteMinute, .ref mo_anoteWho, .ref mo_anoteIs, .ref mo_atoldCane, .ref mo_anewScalar, .ref mo_anewCane, .ref mo_anewHeight, .ref mo_anewStrand, .ref mo_anewChair, .ref mo_anewWeight, .int mo_taped, .int mo_p, .int mo_fault, .int mo_slot, .int mo_rules, .int mo_entries, .int mo_deep, .int mo_counted, .int mo_opened, .int mo_words, .ref mo_atape, .ref mo_asort, .ref mo_anumber, .ref mo_aclauses, .ref mo_asumAt, .ref mo_atestAt, .ref mo_aendAt, .ref mo_aopen, .ref mo_aasked, .ref mo_astack, .ref mo_amust, .ref mo_apast, .ref mo_apastOf, .int mo_pastMany, .int mo_pastAt, .int mo_takesBack, .ref mo_acanRise, .ref mo_afirstHas, .ref mo_asecondHas, .ref mo_alay, .ref mo_ashows, .ref mo_aimages, .ref mo_aisMade, .int K51_1mo, .int 1])), (mo_aimages, hcI k 2000 mo_rimages), (a, hcI k 10 g_1a)]) H → va_D A ([(mo, .inr (7, [.int mo_thrown, .ref mo_ascalar, .ref mo_acane, .ref mo_ais, .ref mo_astrandOf, .ref mo_aweight, .ref mo_aheight, .ref mo_achairOf, .ref mo_anoteMinute, .ref mo_anoteWho, .ref mo_anoteIs, .ref mo_atoldCane, .ref mo_anewScalar, .ref mo_anewCane, .ref mo_anewHeight, .ref mo_anewStrand, .ref mo_anewChair, .ref mo_anewWeight, .int mo_taped, .int mo_p, .int mo_fault, .int mo_slot, .int mo_rules, .int mo_entries, .int mo_deep, .int mo_counted, .int mo_opened, .int mo_words, .ref mo_atape, .ref mo_asort, .ref mo_anumber, .ref mo_aclauses, .ref mo_asumAt, .ref mo_atestAt, .ref mo_aendAt, .ref mo_aopen, .ref mo_aasked, .ref mo_astack, .ref mo_amust, .ref mo_apast, .ref mo_apastOf, .int mo_pastMany, .int mo_pastAt, .int mo_takesBack, .ref mo_acanRise, .ref mo_afirstHas, .ref mo_asecondHas, .ref mo_alay, .ref mo_ashows, .ref mo_aimages, .ref mo_aisMade, .int K51_1mo, .int 1])), (mo_aimages, hcI k 2000 mo_rimages), (a, hcI k 10 g_1a)]) → va_S A s.heap H locs → lv_has ls 3 [(2, .int L2_1), (0, .ref mo), (1, .ref a)] → W p l e (rmK 1 0 0) s m (List.toArray [.ref mo, .ref a]) below meth c H locs 0 0 (MQ below (va_Qv (fun u : (Int32) × (Nat → Int32) => iv (0) (2000) (u.1) ∧ (CpO a_r (u.2) mo_rimages ca 10 ∧ (u.1).toInt = ca + 10)) (hcB D (fun u : (Int32) × (Nat → Int32) => [(mo, .inr (7, [.int mo_thrown, .ref mo_ascalar, .ref mo_acane, .ref mo_ais, .ref mo_astrandOf, .ref mo_aweight, .ref mo_aheight, .ref mo_achairOf, .ref mo_anoteMinute, .ref mo_anoteWho, .ref mo_anoteIs, .ref mo_atoldCane, .ref mo_anewScalar, .ref mo_anewCane, .ref mo_anewHeight, .ref mo_anewStrand, .ref mo_anewChair, .ref mo_anewWeight, .int mo_taped, .int mo_p, .int mo_fault, .int mo_slot, .int mo_rules, .int mo_entries, .int mo_deep, .int mo_counted, .int mo_opened, .int mo_words, .ref mo_atape, .ref mo_asort, .ref mo_anumber, .ref mo_aclauses, .ref mo_asumAt, .ref mo_atestAt, .ref mo_aendAt, .ref mo_aopen, .ref mo_aasked, .ref mo_astack, .ref mo_amust, .ref mo_apast, .ref mo_apastOf, .int mo_pastMany, .int mo_pastAt, .int mo_takesBack, .ref mo_acanRise, .ref mo_afirstHas, .ref mo_asecondHas, .ref mo_alay, .ref mo_ashows, .ref mo_aimages, .ref mo_aisMade, .int (u.1), .int 1])), (mo_aimages, hcI k 2000 mo_rimages), (a, hcI k 10 (u.2))]) A) A) (List.toArray [.ref mo, .ref a]) s 0 0 A) (F0 m 2 ls []) := by
    intro fu
    induction fu with
    | zero =>
      intro L2_1 K51_1mo g_1a bL2_1 bK51_1mo hI1_1 hp1_1 hm
      have bL2_1_l := bL2_1.1
      have bL2_1_u := bL2_1.2
      have bK51_1mo_l := bK51_1mo.1
      have bK51_1mo_u := bK51_1mo.2
      exact absurd hm (by omega)
    | succ fu ih1 =>
      intro L2_1 K51_1mo g_1a bL2_1 bK51_1mo hI1_1 hp1_1 hm H locs ls hP hD hS hl
      have bL2_1_l := bL2_1.1
      have bL2_1_u := bL2_1.2
      have bK51_1mo_l := bK51_1mo.1
      have bK51_1mo_u := bK51_1mo.2
      refine lv_iload_n hx hb dX9_carryRow_2 rfl (lv_at hl 0 rfl) ?_
      refine lv_aload_n hx hb dX9_carryRow_3 rfl (lv_at hl 2 rfl) ?_
      refine va_alen hx hb hG.1 hP 2 0 rfl rfl (v := 10) rfl dX9_carryRow_4 ?_
      refine lv_icmp_ge (tgt := 58) hx hb dX9_carryRow_5 (by decide) (fun c2 => ?_) (fun c2 => ?_)
      · have fc2 := cx_ge_t (a := L2_1.toInt) (b := 10) rfl (by decide) c2
        exact hc_endV hx hb hr hlocks (K51_1mo, g_1a) ⟨(show iv (0) (2000) K51_1mo from ⟨by omega, by omega⟩), (by (try dsimp only); exact (by have e9 : L2_1.toInt = 10 := (by omega); rw [← e9]; exact ⟨hp1_1, by omega⟩))⟩ hP hD hS dX9_carryRow_58
      · have fc2 := cx_ge_f (a := L2_1.toInt) (b := 10) rfl (by decide) c2
        refine lv_aload_n hx hb dX9_carryRow_8 rfl (lv_at hl 1 rfl) ?_
        refine va_get (D := D) (ci := 7) (v := .int 1) (C := RX9) (T := TX9) (N := 53) hx hb hts in9 hown hG.1 hP 0 rfl rfl 52 (by decide) (hts (.fieldLink RX9 483 "ChairCaneModel" "goesBack" "Z") (by decide +kernel)) (fun _ h9 => h9) rfl dX9_carryRow_9 ?_
        refine lv_if_eq (tgt := 30) hx hb dX9_carryRow_12 (by decide) (fun h => absurd h (by decide)) (fun _ => ?_)
        refine lv_aload_n hx hb dX9_carryRow_15 rfl (lv_at hl 2 rfl) ?_
        refine lv_iload_n hx hb dX9_carryRow_16 rfl (lv_at hl 0 rfl) ?_
        refine lv_aload_n hx hb dX9_carryRow_17 rfl (lv_at hl 1 rfl) ?_
        refine va_get (D := D) (ci := 7) (v := .ref mo_aimages) (C := RX9) (T := TX9) (N := 53) hx hb hts in9 hown hG.1 hP 0 rfl rfl 49 (by decide) (hts (.fieldLink RX9 122 "ChairCaneModel" "images" "[I") (by decide +kernel)) (fun _ h9 => h9) rfl dX9_carryRow_18 ?_
        refine lv_aload_n hx hb dX9_carryRow_21 rfl (lv_at hl 1 rfl) ?_
        refine va_get (D := D) (ci := 7) (v := .int K51_1mo) (C := RX9) (T := TX9) (N := 53) hx hb hts in9 hown hG.1 hP 0 rfl rfl 51 (by decide) (hts (.fieldLink RX9 486 "ChairCaneModel" "imageAt" "I") (by decide +kernel)) (fun _ h9 => h9) rfl dX9_carryRow_22 ?_
        refine va_iald hx hb hG.1 hP 1 0 rfl rfl (vp_in_iff.mpr ⟨by omega, by omega⟩) dX9_carryRow_25 ?_
        refine lv_topi (fun z3 ez3 => ?_)
        refine va_iast hx hb hG.1 hP hD hS 2 0 rfl rfl (vp_in_iff.mpr ⟨by omega, by omega⟩) dX9_carryRow_26 (fun H locs hP hD hS => ?_)
        obtain ⟨f4, ef4⟩ : ∃ f, f = upd g_1a (Int32.toNatClampNeg L2_1) (z3) := ⟨_, rfl⟩
        rw [← ef4] at hP hD
        have hP : va_P D vwCl ([(mo, .inr (7, [.int mo_thrown, .ref mo_ascalar, .ref mo_acane, .ref mo_ais, .ref mo_astrandOf, .ref mo_aweight, .ref mo_aheight, .ref mo_achairOf, .ref mo_anoteMinute, .ref mo_anoteWho, .ref mo_anoteIs, .ref mo_atoldCane, .ref mo_anewScalar, .ref mo_anewCane, .ref mo_anewHeight, .ref mo_anewStrand, .ref mo_anewChair, .ref mo_anewWeight, .int mo_taped, .int mo_p, .int mo_fault, .int mo_slot, .int mo_rules, .int mo_entries, .int mo_deep, .int mo_counted, .int mo_opened, .int mo_words, .ref mo_atape, .ref mo_asort, .ref mo_anumber, .ref mo_aclauses, .ref mo_asumAt, .ref mo_atestAt, .ref mo_aendAt, .ref mo_aopen, .ref mo_aasked, .ref mo_astack, .ref mo_amust, .ref mo_apast, .ref mo_apastOf, .int mo_pastMany, .int mo_pastAt, .int mo_takesBack, .ref mo_acanRise, .ref mo_afirstHas, .ref mo_asecondHas, .ref mo_alay, .ref mo_ashows, .ref mo_aimages, .ref mo_aisMade, .int K51_1mo, .int 1])), (mo_aimages, hcI k 2000 mo_rimages), (a, hcI k 10 f4)]) H := hP
        have hD : va_D A ([(mo, .inr (7, [.int mo_thrown, .ref mo_ascalar, .ref mo_acane, .ref mo_ais, .ref mo_astrandOf, .ref mo_aweight, .ref mo_aheight, .ref mo_achairOf, .ref mo_anoteMinute, .ref mo_anoteWho, .ref mo_anoteIs, .ref mo_atoldCane, .ref mo_anewScalar, .ref mo_anewCane, .ref mo_anewHeight, .ref mo_anewStrand, .ref mo_anewChair, .ref mo_anewWeight, .int mo_taped, .int mo_p, .int mo_fault, .int mo_slot, .int mo_rules, .int mo_entries, .int mo_deep, .int mo_counted, .int mo_opened, .int mo_words, .ref mo_atape, .ref mo_asort, .ref mo_anumber, .ref mo_aclauses, .ref mo_asumAt, .ref mo_atestAt, .ref mo_aendAt, .ref mo_aopen, .ref mo_aasked, .ref mo_astack, .ref mo_amust, .ref mo_apast, .ref mo_apastOf, .int mo_pastMany, .int mo_pastAt, .int mo_takesBack, .ref mo_acanRise, .ref mo_afirstHas, .ref mo_asecondHas, .ref mo_alay, .ref mo_ashows, .ref mo_aimages, .ref mo_aisMade, .int K51_1mo, .int 1])), (mo_aimages, hcI k 2000 mo_rimages), (a, hcI k 10 f4)]) := hD
        refine lv_goto (tgt := 42) hx hb dX9_carryRow_27 (by decide) ?_
        refine lv_aload_n hx hb dX9_carryRow_42 rfl (lv_at hl 1 rfl) ?_
        refine lv_dup hx hb dX9_carryRow_43 rfl ?_
        refine va_get (D := D) (ci := 7) (v := .int K51_1mo) (C := RX9) (T := TX9) (N := 53) hx hb hts in9 hown hG.1 hP 0 rfl rfl 51 (by decide) (hts (.fieldLink RX9 486 "ChairCaneModel" "imageAt" "I") (by decide +kernel)) (fun _ h9 => h9) rfl dX9_carryRow_44 ?_
        refine lv_iconst (v := 1) hx hb dX9_carryRow_47 (by decide) ?_
        refine lv_iadd hx hb dX9_carryRow_48 ?_
        refine lv_topi (fun z5 ez5 => ?_)
        have tz5 : z5.toInt = K51_1mo.toInt + 1 := ai_add rfl (by decide) ez5 (by omega) (by omega)
        refine va_put (D := D) (ci := 7) (v := .int z5) (C := RX9) (T := TX9) (N := 53) hx hb hts in9 tyX9 tyX9_ok nmX9 hown hG.1 hP hD hS 0 rfl rfl 51 (by decide) (hts (.fieldLink RX9 486 "ChairCaneModel" "imageAt" "I") (by decide +kernel)) (fun _ h9 => h9) rfl (tyX9_ok 51 (by decide)) rfl rfl (Nat.le_of_ble_eq_true rfl) dX9_carryRow_49 (fun H locs hP hD hS => ?_)
        have hP : va_P D vwCl ([(mo, .inr (7, [.int mo_thrown, .ref mo_ascalar, .ref mo_acane, .ref mo_ais, .ref mo_astrandOf, .ref mo_aweight, .ref mo_aheight, .ref mo_achairOf, .ref mo_anoteMinute, .ref mo_anoteWho, .ref mo_anoteIs, .ref mo_atoldCane, .ref mo_anewScalar, .ref mo_anewCane, .ref mo_anewHeight, .ref mo_anewStrand, .ref mo_anewChair, .ref mo_anewWeight, .int mo_taped, .int mo_p, .int mo_fault, .int mo_slot, .int mo_rules, .int mo_entries, .int mo_deep, .int mo_counted, .int mo_opened, .int mo_words, .ref mo_atape, .ref mo_asort, .ref mo_anumber, .ref mo_aclauses, .ref mo_asumAt, .ref mo_atestAt, .ref mo_aendAt, .ref mo_aopen, .ref mo_aasked, .ref mo_astack, .ref mo_amust, .ref mo_apast, .ref mo_apastOf, .int mo_pastMany, .int mo_pastAt, .int mo_takesBack, .ref mo_acanRise, .ref mo_afirstHas, .ref mo_asecondHas, .ref mo_alay, .ref mo_ashows, .ref mo_aimages, .ref mo_aisMade, .int z5, .int 1])), (mo_aimages, hcI k 2000 mo_rimages), (a, hcI k 10 f4)]) H := hP
        have hD : va_D A ([(mo, .inr (7, [.int mo_thrown, .ref mo_ascalar, .ref mo_acane, .ref mo_ais, .ref mo_astrandOf, .ref mo_aweight, .ref mo_aheight, .ref mo_achairOf, .ref mo_anoteMinute, .ref mo_anoteWho, .ref mo_anoteIs, .ref mo_atoldCane, .ref mo_anewScalar, .ref mo_anewCane, .ref mo_anewHeight, .ref mo_anewStrand, .ref mo_anewChair, .ref mo_anewWeight, .int mo_taped, .int mo_p, .int mo_fault, .int mo_slot, .int mo_rules, .int mo_entries, .int mo_deep, .int mo_counted, .int mo_opened, .int mo_words, .ref mo_atape, .ref mo_asort, .ref mo_anumber, .ref mo_aclauses, .ref mo_asumAt, .ref mo_atestAt, .ref mo_aendAt, .ref mo_aopen, .ref mo_aasked, .ref mo_astack, .ref mo_amust, .ref mo_apast, .ref mo_apastOf, .int mo_pastMany, .int mo_pastAt, .int mo_takesBack, .ref mo_acanRise, .ref mo_afirstHas, .ref mo_asecondHas, .ref mo_alay, .ref mo_ashows, .ref mo_aimages, .ref mo_aisMade, .int z5, .int 1])), (mo_aimages, hcI k 2000 mo_rimages), (a, hcI k 10 f4)]) := hD
        obtain ⟨z6, ez6⟩ : ∃ z : Int32, z = L2_1 + 1 := ⟨_, rfl⟩
        have tz6 : z6.toInt = L2_1.toInt + (1) := ai_add rfl (by decide) ez6 (by omega) (by omega)
        refine lv_iinc (v := z6) (lv' := [(2, .int z6), (0, .ref mo), (1, .ref a)]) hx hb dX9_carryRow_52 hl (k := 0) rfl (by rw [ez6]; rfl) (by decide) rfl (fun ls hl => ?_)
        refine lv_goto (tgt := 2) hx hb dX9_carryRow_55 (by decide) ?_
        exact ih1 z6 z5 f4 ⟨by omega, by omega⟩ ⟨by omega, by omega⟩ (by omega) (CpO_s hp1_1 (by omega) (by omega) (i := K51_1mo) (by omega) tz6 ez3 ef4) (by omega) _ _ _ hP hD hS (lv_sub hl [0, 1, 2] rfl)
  exact loop1 300 0 mo_imageAt a_r (iv_lit (by decide) (by decide)) ⟨by omega, by omega⟩ (by have q0 : (0 : Int32).toInt = 0 := (by decide); omega) (CpO_0) (by have q0 : (0 : Int32).toInt = 0 := (by decide); omega) _ _ _ hP hD hS hl
set_option maxHeartbeats 4000000 in
set_option maxRecDepth 100000 in
theorem i_X9_carryRow_260_0 (l : Launch) (D : va_G) (k : Nat → ClassId) (sz : Nat) (ca : Int) (mo : Nat) (mo_thrown : Int32) (mo_ascalar : Nat) (mo_acane : Nat) (mo_ais : Nat) (mo_astrandOf : Nat) (mo_aweight : Nat) (mo_aheight : Nat) (mo_achairOf : Nat) (mo_anoteMinute : Nat) (mo_anoteWho : Nat) (mo_anoteIs : Nat) (mo_atoldCane : Nat) (mo_anewScalar : Nat) (mo_anewCane : Nat) (mo_anewHeight : Nat) (mo_anewStrand : Nat) (mo_anewChair : Nat) (mo_anewWeight : Nat) (mo_taped : Int32) (mo_p : Int32) (mo_fault : Int32) (mo_slot : Int32) (mo_rules : Int32) (mo_entries : Int32) (mo_deep : Int32) (mo_counted : Int32) (mo_opened : Int32) (mo_words : Int32) (mo_atape : Nat) (mo_asort : Nat) (mo_anumber : Nat) (mo_aclauses : Nat) (mo_asumAt : Nat) (mo_atestAt : Nat) (mo_aendAt : Nat) (mo_aopen : Nat) (mo_aasked : Nat) (mo_astack : Nat) (mo_amust : Nat) (mo_apast : Nat) (mo_apastOf : Nat) (mo_pastMany : Int32) (mo_pastAt : Int32) (mo_takesBack : Int32) (mo_acanRise : Nat) (mo_afirstHas : Nat) (mo_asecondHas : Nat) (mo_alay : Nat) (mo_ashows : Nat) (mo_aimages : Nat) (mo_aisMade : Nat) (mo_imageAt : Int32) (mo_rimages : Nat → Int32) (a : Nat) (a_r : Nat → Int32) (h_mo_taped : iv (0) (400) mo_taped) (h_mo_p : iv (0) (402) mo_p) (h_mo_fault : iv (0) (4000) mo_fault) (h_mo_slot : iv (0) (5) mo_slot) (h_mo_rules : iv (0) (6) mo_rules) (h_mo_entries : iv (0) (300) mo_entries) (h_mo_counted : iv (0) (70) mo_counted) (h_mo_opened : iv (0) (402) mo_opened) (h_mo_words : iv (11) (11) mo_words) (h_mo_pastMany : iv (0) (20) mo_pastMany) (h_mo_pastAt : iv (0) (260) mo_pastAt) (h_mo_takesBack : iv (0) (1) mo_takesBack) (h_mo_imageAt : iv (0) (2000) mo_imageAt) (hr_a : mo_imageAt.toInt = ca) (hr_n : ca + 260 ≤ 2000) : CtV l yX9_carryRow wsX9_carryRow (rmK 1 0 0) [.ref mo, .ref a] D k sz ([(mo, .inr (7, [.int mo_thrown, .ref mo_ascalar, .ref mo_acane, .ref mo_ais, .ref mo_astrandOf, .ref mo_aweight, .ref mo_aheight, .ref mo_achairOf, .ref mo_anoteMinute, .ref mo_anoteWho, .ref mo_anoteIs, .ref mo_atoldCane, .ref mo_anewScalar, .ref mo_anewCane, .ref mo_anewHeight, .ref mo_anewStrand, .ref mo_anewChair, .ref mo_anewWeight, .int mo_taped, .int mo_p, .int mo_fault, .int mo_slot, .int mo_rules, .int mo_entries, .int mo_deep, .int mo_counted, .int mo_opened, .int mo_words, .ref mo_atape, .ref mo_asort, .ref mo_anumber, .ref mo_aclauses, .ref mo_asumAt, .ref mo_atestAt, .ref mo_aendAt, .ref mo_aopen, .ref mo_aasked, .ref mo_astack, .ref mo_amust, .ref mo_apast, .ref mo_apastOf, .int mo_pastMany, .int mo_pastAt, .int mo_takesBack, .ref mo_acanRise, .ref mo_afirstHas, .ref mo_asecondHas, .ref mo_alay, .ref mo_ashows, .ref mo_aimages, .ref mo_aisMade, .int mo_imageAt, .int 0])), (mo_aimages, hcI k 2000 mo_rimages), (a, hcI k 260 a_r)]) (fun u : (Int32) × (Nat → Int32) => iv (0) (2000) (u.1) ∧ (CpI mo_rimages (u.2) a_r ca 260 ∧ (u.1).toInt = ca + 260)) (fun u : (Int32) × (Nat → Int32) => [(mo, .inr (7, [.int mo_thrown, .ref mo_ascalar, .ref mo_acane, .ref mo_ais, .ref mo_astrandOf, .ref mo_aweight, .ref mo_aheight, .ref mo_achairOf, .ref mo_anoteMinute, .ref mo_anoteWho, .ref mo_anoteIs, .ref mo_atoldCane, .ref mo_anewScalar, .ref mo_anewCane, .ref mo_anewHeight, .ref mo_anewStrand, .ref mo_anewChair, .ref mo_anewWeight, .int mo_taped, .int mo_p, .int mo_fault, .int mo_slot, .int mo_rules, .int mo_entries, .int mo_deep, .int mo_counted, .int mo_opened, .int mo_words, .ref mo_atape, .ref mo_asort, .ref mo_anumber, .ref mo_aclauses, .ref mo_asumAt, .ref mo_atestAt, .ref mo_aendAt, .ref mo_aopen, .ref mo_aasked, .ref mo_astack, .ref mo_amust, .ref mo_apast, .ref mo_apastOf, .int mo_pastMany, .int mo_pastAt, .int mo_takesBack, .ref mo_acanRise, .ref mo_afirstHas, .ref mo_asecondHas, .ref mo_alay, .ref mo_ashows, .ref mo_aimages, .ref mo_aisMade, .int (u.1), .int 0])), (mo_aimages, hcI k 2000 (u.2)), (a, hcI k 260 a_r)]) 0 0 := by
  have h_mo_taped_l := h_mo_taped.1
  have h_mo_taped_u := h_mo_taped.2
  have h_mo_p_l := h_mo_p.1
  have h_mo_p_u := h_mo_p.2
  have h_mo_fault_l := h_mo_fault.1
  have h_mo_fault_u := h_mo_fault.2
  have h_mo_slot_l := h_mo_slot.1
  have h_mo_slot_u := h_mo_slot.2
  have h_mo_rules_l := h_mo_rules.1
  have h_mo_rules_u := h_mo_rules.2
  have h_mo_entries_l := h_mo_entries.1
  have h_mo_entries_u := h_mo_entries.2
  have h_mo_counted_l := h_mo_counted.1
  have h_mo_counted_u := h_mo_counted.2
  have h_mo_opened_l := h_mo_opened.1
  have h_mo_opened_u := h_mo_opened.2
  have h_mo_words_l := h_mo_words.1
  have h_mo_words_u := h_mo_words.2
  have h_mo_pastMany_l := h_mo_pastMany.1
  have h_mo_pastMany_u := h_mo_pastMany.2
  have h_mo_pastAt_l := h_mo_pastAt.1
  have h_mo_pastAt_u := h_mo_pastAt.2
  have h_mo_takesBack_l := h_mo_takesBack.1
  have h_mo_takesBack_u := h_mo_takesBack.2
  have h_mo_imageAt_l := h_mo_imageAt.1
  have h_mo_imageAt_u := h_mo_imageAt.2
  refine CtV.mk (cc := cX9_carryRow) (maxL := 3) (ret := none) (by decide) rfl (Nat.le_of_ble_eq_true rfl) ?_
  intro p e s m below meth c A ls E hP hD hS hl
  obtain ⟨hx, hb, hr, hml, hown, hts, hlocks, hin, hG, hA⟩ := E
  have hown : s.vm.findClass RX9 = some m.cls := hown
  have in9 : ∀ w ∈ u_ws RX9 TX9 53, w ∈ wsX9_carryRow := fun _ h => List.mem_cons_of_mem _ (List.mem_append_right _ h)
  have hl : lv_has ls 3 [(0, .ref mo), (1, .ref a)] := hl
  refine lv_iconst (v := 0) hx hb dX9_carryRow_0 (by decide) ?_
  refine lv_istore_n (lv' := [(2, .int 0), (0, .ref mo), (1, .ref a)]) hx hb dX9_carryRow_1 rfl hl (by decide) rfl (fun ls hl => ?_)
  have loop1 : ∀ (fu : Nat) (L2_1 : Int32) (K51_1mo : Int32) (g_1mo_aimages : Nat → Int32), iv (0) (260) L2_1 → iv (0) (2000) K51_1mo → K51_1mo.toInt = ca + L2_1.toInt → CpI mo_rimages g_1mo_aimages a_r ca L2_1.toInt → 261 - L2_1.toInt < (fu : Int) → ∀ (H : Heap) (locs : List Loc) (ls : Array Slot), va_P D vwCl ([(mo, .inr (7, [.int mo_thrown, .ref mo_ascalar, .ref mo_acane, .ref mo_ais, .ref mo_astrandOf, .ref mo_aweight, .ref mo_aheight, .ref mo_achairOf, .ref mo_anoteMinute, .ref mo_anoteWho, .ref mo_anoteIs, .ref mo_atoldCane, .ref mo_anewScalar, .ref mo_anewCane, .ref mo_anewHeight, .ref mo_anewStrand, .ref mo_anewChair, .ref mo_anewWeight, .int mo_taped, .int mo_p, .int mo_fault, .int mo_slot, .int mo_rules, .int mo_entries, .int mo_deep, .int mo_counted, .int mo_opened, .int mo_words, .ref mo_atape, .ref mo_asort, .ref mo_anumber, .ref mo_aclauses, .ref mo_asumAt, .ref mo_atestAt, .ref mo_aendAt, .ref mo_aopen, .ref mo_aasked, .ref mo_astack, .ref mo_amust, .ref mo_apast, .ref mo_apastOf, .int mo_pastMany, .int mo_pastAt, .int mo_takesBack, .ref mo_acanRise, .ref mo_afirstHas, .ref mo_asecondHas, .ref mo_alay, .ref mo_ashows, .ref mo_aimages, .ref mo_aisMade, .int K51_1mo, .int 0])), (mo_aimages, hcI k 2000 g_1mo_aimages), (a, hcI k 260 a_r)]) H → va_D A ([(mo, .inr (7, [.int mo_thrown, .ref mo_ascalar, .ref mo_acane, .ref mo_ais, .ref mo_astrandOf, .ref mo_aweight, .ref mo_aheight, .ref mo_achairOf, .ref mo_anoteMinute, .ref mo_anoteWho, .ref mo_anoteIs, .ref mo_atoldCane, .ref mo_anewScalar, .ref mo_anewCane, .ref mo_anewHeight, .ref mo_anewStrand, .ref mo_anewChair, .ref mo_anewWeight, .int mo_taped, .int mo_p, .int mo_fault, .int mo_slot, .int mo_rules, .int mo_entries, .int mo_deep, .int mo_counted, .int mo_opened, .int mo_words, .ref mo_atape, .ref mo_asort, .ref mo_anumber, .ref mo_aclauses, .ref mo_asumAt, .ref mo_atestAt, .ref mo_aendAt, .ref mo_aopen, .ref mo_aasked, .ref mo_astack, .ref mo_amust, .ref mo_apast, .ref mo_apastOf, .int mo_pastMany, .int mo_pastAt, .int mo_takesBack, .ref mo_acanRise, .ref mo_afirstHas, .ref mo_asecondHas, .ref mo_alay, .ref mo_ashows, .ref mo_aimages, .ref mo_aisMade, .int K51_1mo, .int 0])), (mo_aimages, hcI k 2000 g_1mo_aimages), (a, hcI k 260 a_r)]) → va_S A s.heap H locs → lv_has ls 3 [(2, .int L2_1), (0, .ref mo), (1, .ref a)] → W p l e (rmK 1 0 0) s m (List.toArray [.ref mo, .ref a]) below meth c H locs 0 0 (MQ below (va_Qv (fun u : (Int32) × (Nat → Int32) => iv (0) (2000) (u.1) ∧ (CpI mo_rimages (u.2) a_r ca 260 ∧ (u.1).toInt = ca + 260)) (hcB D (fun u : (Int32) × (Nat → Int32) => [(mo, .inr (7, [.int mo_thrown, .ref mo_ascalar, .ref mo_acane, .ref mo_ais, .ref mo_astrandOf, .ref mo_aweight, .ref mo_aheight, .ref mo_achairOf, .ref mo_anoteMinute, .ref mo_anoteWho, .ref mo_anoteIs, .ref mo_atoldCane, .ref mo_anewScalar, .ref mo_anewCane, .ref mo_anewHeight, .ref mo_anewStrand, .ref mo_anewChair, .ref mo_anewWeight, .int mo_taped, .int mo_p, .int mo_fault, .int mo_slot, .int mo_rules, .int mo_entries, .int mo_deep, .int mo_counted, .int mo_opened, .int mo_words, .ref mo_atape, .ref mo_asort, .ref mo_anumber, .ref mo_aclauses, .ref mo_asumAt, .ref mo_atestAt, .ref mo_aendAt, .ref mo_aopen, .ref mo_aasked, .ref mo_astack, .ref mo_amust, .ref mo_apast, .ref mo_apastOf, .int mo_pastMany, .int mo_pastAt, .int mo_takesBack, .ref mo_acanRise, .ref mo_afirstHas, .ref mo_asecondHas, .ref mo_alay, .ref mo_ashows, .ref mo_aimages, .ref mo_aisMade, .int (u.1), .int 0])), (mo_aimages, hcI k 2000 (u.2)), (a, hcI k 260 a_r)]) A) A) (List.toArray [.ref mo, .ref a]) s 0 0 A) (F0 m 2 ls []) := by
    intro fu
    induction fu with
    | zero =>
      intro L2_1 K51_1mo g_1mo_aimages bL2_1 bK51_1mo hI1_1 hp1_1 hm
      have bL2_1_l := bL2_1.1
      have bL2_1_u := bL2_1.2
      have bK51_1mo_l := bK51_1mo.1
      have bK51_1mo_u := bK51_1mo.2
      exact absurd hm (by omega)
    | succ fu ih1 =>
      intro L2_1 K51_1mo g_1mo_aimages bL2_1 bK51_1mo hI1_1 hp1_1 hm H locs ls hP hD hS hl
      have bL2_1_l := bL2_1.1
      have bL2_1_u := bL2_1.2
      have bK51_1mo_l := bK51_1mo.1
      have bK51_1mo_u := bK51_1mo.2
      refine lv_iload_n hx hb dX9_carryRow_2 rfl (lv_at hl 0 rfl) ?_
      refine lv_aload_n hx hb dX9_carryRow_3 rfl (lv_at hl 2 rfl) ?_
      refine va_alen hx hb hG.1 hP 2 0 rfl rfl (v := 260) rfl dX9_carryRow_4 ?_
      refine lv_icmp_ge (tgt := 58) hx hb dX9_carryRow_5 (by decide) (fun c2 => ?_) (fun c2 => ?_)
      · have fc2 := cx_ge_t (a := L2_1.toInt) (b := 260) rfl (by decide) c2
        exact hc_endV hx hb hr hlocks (K51_1mo, g_1mo_aimages) ⟨(show iv (0) (2000) K51_1mo from ⟨by omega, by omega⟩), (by (try dsimp only); exact (by have e9 : L2_1.toInt = 260 := (by omega); rw [← e9]; exact ⟨hp1_1, by omega⟩))⟩ hP hD hS dX9_carryRow_58
      · have fc2 := cx_ge_f (a := L2_1.toInt) (b := 260) rfl (by decide) c2
        refine lv_aload_n hx hb dX9_carryRow_8 rfl (lv_at hl 1 rfl) ?_
        refine va_get (D := D) (ci := 7) (v := .int 0) (C := RX9) (T := TX9) (N := 53) hx hb hts in9 hown hG.1 hP 0 rfl rfl 52 (by decide) (hts (.fieldLink RX9 483 "ChairCaneModel" "goesBack" "Z") (by decide +kernel)) (fun _ h9 => h9) rfl dX9_carryRow_9 ?_
        refine lv_if_eq (tgt := 30) hx hb dX9_carryRow_12 (by decide) (fun _ => ?_) (fun h => absurd (by decide) h)
        refine lv_aload_n hx hb dX9_carryRow_30 rfl (lv_at hl 1 rfl) ?_
        refine va_get (D := D) (ci := 7) (v := .ref mo_aimages) (C := RX9) (T := TX9) (N := 53) hx hb hts in9 hown hG.1 hP 0 rfl rfl 49 (by decide) (hts (.fieldLink RX9 122 "ChairCaneModel" "images" "[I") (by decide +kernel)) (fun _ h9 => h9) rfl dX9_carryRow_31 ?_
        refine lv_aload_n hx hb dX9_carryRow_34 rfl (lv_at hl 1 rfl) ?_
        refine va_get (D := D) (ci := 7) (v := .int K51_1mo) (C := RX9) (T := TX9) (N := 53) hx hb hts in9 hown hG.1 hP 0 rfl rfl 51 (by decide) (hts (.fieldLink RX9 486 "ChairCaneModel" "imageAt" "I") (by decide +kernel)) (fun _ h9 => h9) rfl dX9_carryRow_35 ?_
        refine lv_aload_n hx hb dX9_carryRow_38 rfl (lv_at hl 2 rfl) ?_
        refine lv_iload_n hx hb dX9_carryRow_39 rfl (lv_at hl 0 rfl) ?_
        refine va_iald hx hb hG.1 hP 2 0 rfl rfl (vp_in_iff.mpr ⟨by omega, by omega⟩) dX9_carryRow_40 ?_
        refine lv_topi (fun z3 ez3 => ?_)
        refine va_iast hx hb hG.1 hP hD hS 1 0 rfl rfl (vp_in_iff.mpr ⟨by omega, by omega⟩) dX9_carryRow_41 (fun H locs hP hD hS => ?_)
        obtain ⟨f4, ef4⟩ : ∃ f, f = upd g_1mo_aimages (Int32.toNatClampNeg K51_1mo) (z3) := ⟨_, rfl⟩
        rw [← ef4] at hP hD
        have hP : va_P D vwCl ([(mo, .inr (7, [.int mo_thrown, .ref mo_ascalar, .ref mo_acane, .ref mo_ais, .ref mo_astrandOf, .ref mo_aweight, .ref mo_aheight, .ref mo_achairOf, .ref mo_anoteMinute, .ref mo_anoteWho, .ref mo_anoteIs, .ref mo_atoldCane, .ref mo_anewScalar, .ref mo_anewCane, .ref mo_anewHeight, .ref mo_anewStrand, .ref mo_anewChair, .ref mo_anewWeight, .int mo_taped, .int mo_p, .int mo_fault, .int mo_slot, .int mo_rules, .int mo_entries, .int mo_deep, .int mo_counted, .int mo_opened, .int mo_words, .ref mo_atape, .ref mo_asort, .ref mo_anumber, .ref mo_aclauses, .ref mo_asumAt, .ref mo_atestAt, .ref mo_aendAt, .ref mo_aopen, .ref mo_aasked, .ref mo_astack, .ref mo_amust, .ref mo_apast, .ref mo_apastOf, .int mo_pastMany, .int mo_pastAt, .int mo_takesBack, .ref mo_acanRise, .ref mo_afirstHas, .ref mo_asecondHas, .ref mo_alay, .ref mo_ashows, .ref mo_aimages, .ref mo_aisMade, .int K51_1mo, .int 0])), (mo_aimages, hcI k 2000 f4), (a, hcI k 260 a_r)]) H := hP
        have hD : va_D A ([(mo, .inr (7, [.int mo_thrown, .ref mo_ascalar, .ref mo_acane, .ref mo_ais, .ref mo_astrandOf, .ref mo_aweight, .ref mo_aheight, .ref mo_achairOf, .ref mo_anoteMinute, .ref mo_anoteWho, .ref mo_anoteIs, .ref mo_atoldCane, .ref mo_anewScalar, .ref mo_anewCane, .ref mo_anewHeight, .ref mo_anewStrand, .ref mo_anewChair, .ref mo_anewWeight, .int mo_taped, .int mo_p, .int mo_fault, .int mo_slot, .int mo_rules, .int mo_entries, .int mo_deep, .int mo_counted, .int mo_opened, .int mo_words, .ref mo_atape, .ref mo_asort, .ref mo_anumber, .ref mo_aclauses, .ref mo_asumAt, .ref mo_atestAt, .ref mo_aendAt, .ref mo_aopen, .ref mo_aasked, .ref mo_astack, .ref mo_amust, .ref mo_apast, .ref mo_apastOf, .int mo_pastMany, .int mo_pastAt, .int mo_takesBack, .ref mo_acanRise, .ref mo_afirstHas, .ref mo_asecondHas, .ref mo_alay, .ref mo_ashows, .ref mo_aimages, .ref mo_aisMade, .int K51_1mo, .int 0])), (mo_aimages, hcI k 2000 f4), (a, hcI k 260 a_r)]) := hD
        refine lv_aload_n hx hb dX9_carryRow_42 rfl (lv_at hl 1 rfl) ?_
        refine lv_dup hx hb dX9_carryRow_43 rfl ?_
        refine va_get (D := D) (ci := 7) (v := .int K51_1mo) (C := RX9) (T := TX9) (N := 53) hx hb hts in9 hown hG.1 hP 0 rfl rfl 51 (by decide) (hts (.fieldLink RX9 486 "ChairCaneModel" "imageAt" "I") (by decide +kernel)) (fun _ h9 => h9) rfl dX9_carryRow_44 ?_
        refine lv_iconst (v := 1) hx hb dX9_carryRow_47 (by decide) ?_
        refine lv_iadd hx hb dX9_carryRow_48 ?_
        refine lv_topi (fun z5 ez5 => ?_)
        have tz5 : z5.toInt = K51_1mo.toInt + 1 := ai_add rfl (by decide) ez5 (by omega) (by omega)
        refine va_put (D := D) (ci := 7) (v := .int z5) (C := RX9) (T := TX9) (N := 53) hx hb hts in9 tyX9 tyX9_ok nmX9 hown hG.1 hP hD hS 0 rfl rfl 51 (by decide) (hts (.fieldLink RX9 486 "ChairCaneModel" "imageAt" "I") (by decide +kernel)) (fun _ h9 => h9) rfl (tyX9_ok 51 (by decide)) rfl rfl (Nat.le_of_ble_eq_true rfl) dX9_carryRow_49 (fun H locs hP hD hS => ?_)
        have hP : va_P D vwCl ([(mo, .inr (7, [.int mo_thrown, .ref mo_ascalar, .ref mo_acane, .ref mo_ais, .ref mo_astrandOf, .ref mo_aweight, .ref mo_aheight, .ref mo_achairOf, .ref mo_anoteMinute, .ref mo_anoteWho, .ref mo_anoteIs, .ref mo_atoldCane, .ref mo_anewScalar, .ref mo_anewCane, .ref mo_anewHeight, .ref mo_anewStrand, .ref mo_anewChair, .ref mo_anewWeight, .int mo_taped, .int mo_p, .int mo_fault, .int mo_slot, .int mo_rules, .int mo_entries, .int mo_deep, .int mo_counted, .int mo_opened, .int mo_words, .ref mo_atape, .ref mo_asort, .ref mo_anumber, .ref mo_aclauses, .ref mo_asumAt, .ref mo_atestAt, .ref mo_aendAt, .ref mo_aopen, .ref mo_aasked, .ref mo_astack, .ref mo_amust, .ref mo_apast, .ref mo_apastOf, .int mo_pastMany, .int mo_pastAt, .int mo_takesBack, .ref mo_acanRise, .ref mo_afirstHas, .ref mo_asecondHas, .ref mo_alay, .ref mo_ashows, .ref mo_aimages, .ref mo_aisMade, .int z5, .int 0])), (mo_aimages, hcI k 2000 f4), (a, hcI k 260 a_r)]) H := hP
        have hD : va_D A ([(mo, .inr (7, [.int mo_thrown, .ref mo_ascalar, .ref mo_acane, .ref mo_ais, .ref mo_astrandOf, .ref mo_aweight, .ref mo_aheight, .ref mo_achairOf, .ref mo_anoteMinute, .ref mo_anoteWho, .ref mo_anoteIs, .ref mo_atoldCane, .ref mo_anewScalar, .ref mo_anewCane, .ref mo_anewHeight, .ref mo_anewStrand, .ref mo_anewChair, .ref mo_anewWeight, .int mo_taped, .int mo_p, .int mo_fault, .int mo_slot, .int mo_rules, .int mo_entries, .int mo_deep, .int mo_counted, .int mo_opened, .int mo_words, .ref mo_atape, .ref mo_asort, .ref mo_anumber, .ref mo_aclauses, .ref mo_asumAt, .ref mo_atestAt, .ref mo_aendAt, .ref mo_aopen, .ref mo_aasked, .ref mo_astack, .ref mo_amust, .ref mo_apast, .ref mo_apastOf, .int mo_pastMany, .int mo_pastAt, .int mo_takesBack, .ref mo_acanRise, .ref mo_afirstHas, .ref mo_asecondHas, .ref mo_alay, .ref mo_ashows, .ref mo_aimages, .ref mo_aisMade, .int z5, .int 0])), (mo_aimages, hcI k 2000 f4), (a, hcI k 260 a_r)]) := hD
        obtain ⟨z6, ez6⟩ : ∃ z : Int32, z = L2_1 + 1 := ⟨_, rfl⟩
        have tz6 : z6.toInt = L2_1.toInt + (1) := ai_add rfl (by decide) ez6 (by omega) (by omega)
        refine lv_iinc (v := z6) (lv' := [(2, .int z6), (0, .ref mo), (1, .ref a)]) hx hb dX9_carryRow_52 hl (k := 0) rfl (by rw [ez6]; rfl) (by decide) rfl (fun ls hl => ?_)
        refine lv_goto (tgt := 2) hx hb dX9_carryRow_55 (by decide) ?_
        exact ih1 z6 z5 f4 ⟨by omega, by omega⟩ ⟨by omega, by omega⟩ (by omega) (CpI_s hp1_1 (by omega) (by omega) (i := K51_1mo) (by omega) tz6 ez3 ef4) (by omega) _ _ _ hP hD hS (lv_sub hl [0, 1, 2] rfl)
  exact loop1 300 0 mo_imageAt mo_rimages (iv_lit (by decide) (by decide)) ⟨by omega, by omega⟩ (by have q0 : (0 : Int32).toInt = 0 := (by decide); omega) (CpI_0) (by have q0 : (0 : Int32).toInt = 0 := (by decide); omega) _ _ _ hP hD hS hl
set_option maxHeartbeats 4000000 in
set_option maxRecDepth 100000 in
theorem i_X9_carryRow_260_1 (l : Launch) (D : va_G) (k : Nat → ClassId) (sz : Nat) (ca : Int) (mo : Nat) (mo_thrown : Int32) (mo_ascalar : Nat) (mo_acane : Nat) (mo_ais : Nat) (mo_astrandOf : Nat) (mo_aweight : Nat) (mo_aheight : Nat) (mo_achairOf : Nat) (mo_anoteMinute : Nat) (mo_anoteWho : Nat) (mo_anoteIs : Nat) (mo_atoldCane : Nat) (mo_anewScalar : Nat) (mo_anewCane : Nat) (mo_anewHeight : Nat) (mo_anewStrand : Nat) (mo_anewChair : Nat) (mo_anewWeight : Nat) (mo_taped : Int32) (mo_p : Int32) (mo_fault : Int32) (mo_slot : Int32) (mo_rules : Int32) (mo_entries : Int32) (mo_deep : Int32) (mo_counted : Int32) (mo_opened : Int32) (mo_words : Int32) (mo_atape : Nat) (mo_asort : Nat) (mo_anumber : Nat) (mo_aclauses : Nat) (mo_asumAt : Nat) (mo_atestAt : Nat) (mo_aendAt : Nat) (mo_aopen : Nat) (mo_aasked : Nat) (mo_astack : Nat) (mo_amust : Nat) (mo_apast : Nat) (mo_apastOf : Nat) (mo_pastMany : Int32) (mo_pastAt : Int32) (mo_takesBack : Int32) (mo_acanRise : Nat) (mo_afirstHas : Nat) (mo_asecondHas : Nat) (mo_alay : Nat) (mo_ashows : Nat) (mo_aimages : Nat) (mo_aisMade : Nat) (mo_imageAt : Int32) (mo_rimages : Nat → Int32) (a : Nat) (a_r : Nat → Int32) (h_mo_taped : iv (0) (400) mo_taped) (h_mo_p : iv (0) (402) mo_p) (h_mo_fault : iv (0) (4000) mo_fault) (h_mo_slot : iv (0) (5) mo_slot) (h_mo_rules : iv (0) (6) mo_rules) (h_mo_entries : iv (0) (300) mo_entries) (h_mo_counted : iv (0) (70) mo_counted) (h_mo_opened : iv (0) (402) mo_opened) (h_mo_words : iv (11) (11) mo_words) (h_mo_pastMany : iv (0) (20) mo_pastMany) (h_mo_pastAt : iv (0) (260) mo_pastAt) (h_mo_takesBack : iv (0) (1) mo_takesBack) (h_mo_imageAt : iv (0) (2000) mo_imageAt) (hr_a : mo_imageAt.toInt = ca) (hr_n : ca + 260 ≤ 2000) : CtV l yX9_carryRow wsX9_carryRow (rmK 1 0 0) [.ref mo, .ref a] D k sz ([(mo, .inr (7, [.int mo_thrown, .ref mo_ascalar, .ref mo_acane, .ref mo_ais, .ref mo_astrandOf, .ref mo_aweight, .ref mo_aheight, .ref mo_achairOf, .ref mo_anoteMinute, .ref mo_anoteWho, .ref mo_anoteIs, .ref mo_atoldCane, .ref mo_anewScalar, .ref mo_anewCane, .ref mo_anewHeight, .ref mo_anewStrand, .ref mo_anewChair, .ref mo_anewWeight, .int mo_taped, .int mo_p, .int mo_fault, .int mo_slot, .int mo_rules, .int mo_entries, .int mo_deep, .int mo_counted, .int mo_opened, .int mo_words, .ref mo_atape, .ref mo_asort, .ref mo_anumber, .ref mo_aclauses, .ref mo_asumAt, .ref mo_atestAt, .ref mo_aendAt, .ref mo_aopen, .ref mo_aasked, .ref mo_astack, .ref mo_amust, .ref mo_apast, .ref mo_apastOf, .int mo_pastMany, .int mo_pastAt, .int mo_takesBack, .ref mo_acanRise, .ref mo_afirstHas, .ref mo_asecondHas, .ref mo_alay, .ref mo_ashows, .ref mo_aimages, .ref mo_aisMade, .int mo_imageAt, .int 1])), (mo_aimages, hcI k 2000 mo_rimages), (a, hcI k 260 a_r)]) (fun u : (Int32) × (Nat → Int32) => iv (0) (2000) (u.1) ∧ (CpO a_r (u.2) mo_rimages ca 260 ∧ (u.1).toInt = ca + 260)) (fun u : (Int32) × (Nat → Int32) => [(mo, .inr (7, [.int mo_thrown, .ref mo_ascalar, .ref mo_acane, .ref mo_ais, .ref mo_astrandOf, .ref mo_aweight, .ref mo_aheight, .ref mo_achairOf, .ref mo_anoteMinute, .ref mo_anoteWho, .ref mo_anoteIs, .ref mo_atoldCane, .ref mo_anewScalar, .ref mo_anewCane, .ref mo_anewHeight, .ref mo_anewStrand, .ref mo_anewChair, .ref mo_anewWeight, .int mo_taped, .int mo_p, .int mo_fault, .int mo_slot, .int mo_rules, .int mo_entries, .int mo_deep, .int mo_counted, .int mo_opened, .int mo_words, .ref mo_atape, .ref mo_asort, .ref mo_anumber, .ref mo_aclauses, .ref mo_asumAt, .ref mo_atestAt, .ref mo_aendAt, .ref mo_aopen, .ref mo_aasked, .ref mo_astack, .ref mo_amust, .ref mo_apast, .ref mo_apastOf, .int mo_pastMany, .int mo_pastAt, .int mo_takesBack, .ref mo_acanRise, .ref mo_afirstHas, .ref mo_asecondHas, .ref mo_alay, .ref mo_ashows, .ref mo_aimages, .ref mo_aisMade, .int (u.1), .int 1])), (mo_aimages, hcI k 2000 mo_rimages), (a, hcI k 260 (u.2))]) 0 0 := by
  have h_mo_taped_l := h_mo_taped.1
  have h_mo_taped_u := h_mo_taped.2
  have h_mo_p_l := h_mo_p.1
  have h_mo_p_u := h_mo_p.2
  have h_mo_fault_l := h_mo_fault.1
  have h_mo_fault_u := h_mo_fault.2
  have h_mo_slot_l := h_mo_slot.1
  have h_mo_slot_u := h_mo_slot.2
  have h_mo_rules_l := h_mo_rules.1
  have h_mo_rules_u := h_mo_rules.2
  have h_mo_entries_l := h_mo_entries.1
  have h_mo_entries_u := h_mo_entries.2
  have h_mo_counted_l := h_mo_counted.1
  have h_mo_counted_u := h_mo_counted.2
  have h_mo_opened_l := h_mo_opened.1
  have h_mo_opened_u := h_mo_opened.2
  have h_mo_words_l := h_mo_words.1
  have h_mo_words_u := h_mo_words.2
  have h_mo_pastMany_l := h_mo_pastMany.1
  have h_mo_pastMany_u := h_mo_pastMany.2
  have h_mo_pastAt_l := h_mo_pastAt.1
  have h_mo_pastAt_u := h_mo_pastAt.2
  have h_mo_takesBack_l := h_mo_takesBack.1
  have h_mo_takesBack_u := h_mo_takesBack.2
  have h_mo_imageAt_l := h_mo_imageAt.1
  have h_mo_imageAt_u := h_mo_imageAt.2
  refine CtV.mk (cc := cX9_carryRow) (maxL := 3) (ret := none) (by decide) rfl (Nat.le_of_ble_eq_true rfl) ?_
  intro p e s m below meth c A ls E hP hD hS hl
  obtain ⟨hx, hb, hr, hml, hown, hts, hlocks, hin, hG, hA⟩ := E
  have hown : s.vm.findClass RX9 = some m.cls := hown
  have in9 : ∀ w ∈ u_ws RX9 TX9 53, w ∈ wsX9_carryRow := fun _ h => List.mem_cons_of_mem _ (List.mem_append_right _ h)
  have hl : lv_has ls 3 [(0, .ref mo), (1, .ref a)] := hl
  refine lv_iconst (v := 0) hx hb dX9_carryRow_0 (by decide) ?_
  refine lv_istore_n (lv' := [(2, .int 0), (0, .ref mo), (1, .ref a)]) hx hb dX9_carryRow_1 rfl hl (by decide) rfl (fun ls hl => ?_)
  have loop1 : ∀ (fu : Nat) (L2_1 : Int32) (K51_1mo : Int32) (g_1a : Nat → Int32), iv (0) (260) L2_1 → iv (0) (2000) K51_1mo → K51_1mo.toInt = ca + L2_1.toInt → CpO a_r g_1a mo_rimages ca L2_1.toInt → 261 - L2_1.toInt < (fu : Int) → ∀ (H : Heap) (locs : List Loc) (ls : Array Slot), va_P D vwCl ([(mo, .inr (7, [.int mo_thrown, .ref mo_ascalar, .ref mo_acane, .ref mo_ais, .ref mo_astrandOf, .ref mo_aweight, .ref mo_aheight, .ref mo_achairOf, .ref mo_anoteMinute, .ref mo_anoteWho, .ref mo_anoteIs, .ref mo_atoldCane, .ref mo_anewScalar, .ref mo_anewCane, .ref mo_anewHeight, .ref mo_anewStrand, .ref mo_anewChair, .ref mo_anewWeight, .int mo_taped, .int mo_p, .int mo_fault, .int mo_slot, .int mo_rules, .int mo_entries, .int mo_deep, .int mo_counted, .int mo_opened, .int mo_words, .ref mo_atape, .ref mo_asort, .ref mo_anumber, .ref mo_aclauses, .ref mo_asumAt, .ref mo_atestAt, .ref mo_aendAt, .ref mo_aopen, .ref mo_aasked, .ref mo_astack, .ref mo_amust, .ref mo_apast, .ref mo_apastOf, .int mo_pastMany, .int mo_pastAt, .int mo_takesBack, .ref mo_acanRise, .ref mo_afirstHas, .ref mo_asecondHas, .ref mo_alay, .ref mo_ashows, .ref mo_aimages, .ref mo_aisMade, .int K51_1mo, .int 1])), (mo_aimages, hcI k 2000 mo_rimages), (a, hcI k 260 g_1a)]) H → va_D A ([(mo, .inr (7, [.int mo_thrown, .ref mo_ascalar, .ref mo_acane, .ref mo_ais, .ref mo_astrandOf, .ref mo_aweight, .ref mo_aheight, .ref mo_achairOf, .ref mo_anoteMinute, .ref mo_anoteWho, .ref mo_anoteIs, .ref mo_atoldCane, .ref mo_anewScalar, .ref mo_anewCane, .ref mo_anewHeight, .ref mo_anewStrand, .ref mo_anewChair, .ref mo_anewWeight, .int mo_taped, .int mo_p, .int mo_fault, .int mo_slot, .int mo_rules, .int mo_entries, .int mo_deep, .int mo_counted, .int mo_opened, .int mo_words, .ref mo_atape, .ref mo_asort, .ref mo_anumber, .ref mo_aclauses, .ref mo_asumAt, .ref mo_atestAt, .ref mo_aendAt, .ref mo_aopen, .ref mo_aasked, .ref mo_astack, .ref mo_amust, .ref mo_apast, .ref mo_apastOf, .int mo_pastMany, .int mo_pastAt, .int mo_takesBack, .ref mo_acanRise, .ref mo_afirstHas, .ref mo_asecondHas, .ref mo_alay, .ref mo_ashows, .ref mo_aimages, .ref mo_aisMade, .int K51_1mo, .int 1])), (mo_aimages, hcI k 2000 mo_rimages), (a, hcI k 260 g_1a)]) → va_S A s.heap H locs → lv_has ls 3 [(2, .int L2_1), (0, .ref mo), (1, .ref a)] → W p l e (rmK 1 0 0) s m (List.toArray [.ref mo, .ref a]) below meth c H locs 0 0 (MQ below (va_Qv (fun u : (Int32) × (Nat → Int32) => iv (0) (2000) (u.1) ∧ (CpO a_r (u.2) mo_rimages ca 260 ∧ (u.1).toInt = ca + 260)) (hcB D (fun u : (Int32) × (Nat → Int32) => [(mo, .inr (7, [.int mo_thrown, .ref mo_ascalar, .ref mo_acane, .ref mo_ais, .ref mo_astrandOf, .ref mo_aweight, .ref mo_aheight, .ref mo_achairOf, .ref mo_anoteMinute, .ref mo_anoteWho, .ref mo_anoteIs, .ref mo_atoldCane, .ref mo_anewScalar, .ref mo_anewCane, .ref mo_anewHeight, .ref mo_anewStrand, .ref mo_anewChair, .ref mo_anewWeight, .int mo_taped, .int mo_p, .int mo_fault, .int mo_slot, .int mo_rules, .int mo_entries, .int mo_deep, .int mo_counted, .int mo_opened, .int mo_words, .ref mo_atape, .ref mo_asort, .ref mo_anumber, .ref mo_aclauses, .ref mo_asumAt, .ref mo_atestAt, .ref mo_aendAt, .ref mo_aopen, .ref mo_aasked, .ref mo_astack, .ref mo_amust, .ref mo_apast, .ref mo_apastOf, .int mo_pastMany, .int mo_pastAt, .int mo_takesBack, .ref mo_acanRise, .ref mo_afirstHas, .ref mo_asecondHas, .ref mo_alay, .ref mo_ashows, .ref mo_aimages, .ref mo_aisMade, .int (u.1), .int 1])), (mo_aimages, hcI k 2000 mo_rimages), (a, hcI k 260 (u.2))]) A) A) (List.toArray [.ref mo, .ref a]) s 0 0 A) (F0 m 2 ls []) := by
    intro fu
    induction fu with
    | zero =>
      intro L2_1 K51_1mo g_1a bL2_1 bK51_1mo hI1_1 hp1_1 hm
      have bL2_1_l := bL2_1.1
      have bL2_1_u := bL2_1.2
      have bK51_1mo_l := bK51_1mo.1
      have bK51_1mo_u := bK51_1mo.2
      exact absurd hm (by omega)
    | succ fu ih1 =>
      intro L2_1 K51_1mo g_1a bL2_1 bK51_1mo hI1_1 hp1_1 hm H locs ls hP hD hS hl
      have bL2_1_l := bL2_1.1
      have bL2_1_u := bL2_1.2
      have bK51_1mo_l := bK51_1mo.1
      have bK51_1mo_u := bK51_1mo.2
      refine lv_iload_n hx hb dX9_carryRow_2 rfl (lv_at hl 0 rfl) ?_
      refine lv_aload_n hx hb dX9_carryRow_3 rfl (lv_at hl 2 rfl) ?_
      refine va_alen hx hb hG.1 hP 2 0 rfl rfl (v := 260) rfl dX9_carryRow_4 ?_
      refine lv_icmp_ge (tgt := 58) hx hb dX9_carryRow_5 (by decide) (fun c2 => ?_) (fun c2 => ?_)
      · have fc2 := cx_ge_t (a := L2_1.toInt) (b := 260) rfl (by decide) c2
        exact hc_endV hx hb hr hlocks (K51_1mo, g_1a) ⟨(show iv (0) (2000) K51_1mo from ⟨by omega, by omega⟩), (by (try dsimp only); exact (by have e9 : L2_1.toInt = 260 := (by omega); rw [← e9]; exact ⟨hp1_1, by omega⟩))⟩ hP hD hS dX9_carryRow_58
      · have fc2 := cx_ge_f (a := L2_1.toInt) (b := 260) rfl (by decide) c2
        refine lv_aload_n hx hb dX9_carryRow_8 rfl (lv_at hl 1 rfl) ?_
        refine va_get (D := D) (ci := 7) (v := .int 1) (C := RX9) (T := TX9) (N := 53) hx hb hts in9 hown hG.1 hP 0 rfl rfl 52 (by decide) (hts (.fieldLink RX9 483 "ChairCaneModel" "goesBack" "Z") (by decide +kernel)) (fun _ h9 => h9) rfl dX9_carryRow_9 ?_
        refine lv_if_eq (tgt := 30) hx hb dX9_carryRow_12 (by decide) (fun h => absurd h (by decide)) (fun _ => ?_)
        refine lv_aload_n hx hb dX9_carryRow_15 rfl (lv_at hl 2 rfl) ?_
        refine lv_iload_n hx hb dX9_carryRow_16 rfl (lv_at hl 0 rfl) ?_
        refine lv_aload_n hx hb dX9_carryRow_17 rfl (lv_at hl 1 rfl) ?_
        refine va_get (D := D) (ci := 7) (v := .ref mo_aimages) (C := RX9) (T := TX9) (N := 53) hx hb hts in9 hown hG.1 hP 0 rfl rfl 49 (by decide) (hts (.fieldLink RX9 122 "ChairCaneModel" "images" "[I") (by decide +kernel)) (fun _ h9 => h9) rfl dX9_carryRow_18 ?_
        refine lv_aload_n hx hb dX9_carryRow_21 rfl (lv_at hl 1 rfl) ?_
        refine va_get (D := D) (ci := 7) (v := .int K51_1mo) (C := RX9) (T := TX9) (N := 53) hx hb hts in9 hown hG.1 hP 0 rfl rfl 51 (by decide) (hts (.fieldLink RX9 486 "ChairCaneModel" "imageAt" "I") (by decide +kernel)) (fun _ h9 => h9) rfl dX9_carryRow_22 ?_
        refine va_iald hx hb hG.1 hP 1 0 rfl rfl (vp_in_iff.mpr ⟨by omega, by omega⟩) dX9_carryRow_25 ?_
        refine lv_topi (fun z3 ez3 => ?_)
        refine va_iast hx hb hG.1 hP hD hS 2 0 rfl rfl (vp_in_iff.mpr ⟨by omega, by omega⟩) dX9_carryRow_26 (fun H locs hP hD hS => ?_)
        obtain ⟨f4, ef4⟩ : ∃ f, f = upd g_1a (Int32.toNatClampNeg L2_1) (z3) := ⟨_, rfl⟩
        rw [← ef4] at hP hD
        have hP : va_P D vwCl ([(mo, .inr (7, [.int mo_thrown, .ref mo_ascalar, .ref mo_acane, .ref mo_ais, .ref mo_astrandOf, .ref mo_aweight, .ref mo_aheight, .ref mo_achairOf, .ref mo_anoteMinute, .ref mo_anoteWho, .ref mo_anoteIs, .ref mo_atoldCane, .ref mo_anewScalar, .ref mo_anewCane, .ref mo_anewHeight, .ref mo_anewStrand, .ref mo_anewChair, .ref mo_anewWeight, .int mo_taped, .int mo_p, .int mo_fault, .int mo_slot, .int mo_rules, .int mo_entries, .int mo_deep, .int mo_counted, .int mo_opened, .int mo_words, .ref mo_atape, .ref mo_asort, .ref mo_anumber, .ref mo_aclauses, .ref mo_asumAt, .ref mo_atestAt, .ref mo_aendAt, .ref mo_aopen, .ref mo_aasked, .ref mo_astack, .ref mo_amust, .ref mo_apast, .ref mo_apastOf, .int mo_pastMany, .int mo_pastAt, .int mo_takesBack, .ref mo_acanRise, .ref mo_afirstHas, .ref mo_asecondHas, .ref mo_alay, .ref mo_ashows, .ref mo_aimages, .ref mo_aisMade, .int K51_1mo, .int 1])), (mo_aimages, hcI k 2000 mo_rimages), (a, hcI k 260 f4)]) H := hP
        have hD : va_D A ([(mo, .inr (7, [.int mo_thrown, .ref mo_ascalar, .ref mo_acane, .ref mo_ais, .ref mo_astrandOf, .ref mo_aweight, .ref mo_aheight, .ref mo_achairOf, .ref mo_anoteMinute, .ref mo_anoteWho, .ref mo_anoteIs, .ref mo_atoldCane, .ref mo_anewScalar, .ref mo_anewCane, .ref mo_anewHeight, .ref mo_anewStrand, .ref mo_anewChair, .ref mo_anewWeight, .int mo_taped, .int mo_p, .int mo_fault, .int mo_slot, .int mo_rules, .int mo_entries, .int mo_deep, .int mo_counted, .int mo_opened, .int mo_words, .ref mo_atape, .ref mo_asort, .ref mo_anumber, .ref mo_aclauses, .ref mo_asumAt, .ref mo_atestAt, .ref mo_aendAt, .ref mo_aopen, .ref mo_aasked, .ref mo_astack, .ref mo_amust, .ref mo_apast, .ref mo_apastOf, .int mo_pastMany, .int mo_pastAt, .int mo_takesBack, .ref mo_acanRise, .ref mo_afirstHas, .ref mo_asecondHas, .ref mo_alay, .ref mo_ashows, .ref mo_aimages, .ref mo_aisMade, .int K51_1mo, .int 1])), (mo_aimages, hcI k 2000 mo_rimages), (a, hcI k 260 f4)]) := hD
        refine lv_goto (tgt := 42) hx hb dX9_carryRow_27 (by decide) ?_
        refine lv_aload_n hx hb dX9_carryRow_42 rfl (lv_at hl 1 rfl) ?_
        refine lv_dup hx hb dX9_carryRow_43 rfl ?_
        refine va_get (D := D) (ci := 7) (v := .int K51_1mo) (C := RX9) (T := TX9) (N := 53) hx hb hts in9 hown hG.1 hP 0 rfl rfl 51 (by decide) (hts (.fieldLink RX9 486 "ChairCaneModel" "imageAt" "I") (by decide +kernel)) (fun _ h9 => h9) rfl dX9_carryRow_44 ?_
        refine lv_iconst (v := 1) hx hb dX9_carryRow_47 (by decide) ?_
        refine lv_iadd hx hb dX9_carryRow_48 ?_
        refine lv_topi (fun z5 ez5 => ?_)
        have tz5 : z5.toInt = K51_1mo.toInt + 1 := ai_add rfl (by decide) ez5 (by omega) (by omega)
        refine va_put (D := D) (ci := 7) (v := .int z5) (C := RX9) (T := TX9) (N := 53) hx hb hts in9 tyX9 tyX9_ok nmX9 hown hG.1 hP hD hS 0 rfl rfl 51 (by decide) (hts (.fieldLink RX9 486 "ChairCaneModel" "imageAt" "I") (by decide +kernel)) (fun _ h9 => h9) rfl (tyX9_ok 51 (by decide)) rfl rfl (Nat.le_of_ble_eq_true rfl) dX9_carryRow_49 (fun H locs hP hD hS => ?_)
        have hP : va_P D vwCl ([(mo, .inr (7, [.int mo_thrown, .ref mo_ascalar, .ref mo_acane, .ref mo_ais, .ref mo_astrandOf, .ref mo_aweight, .ref mo_aheight, .ref mo_achairOf, .ref mo_anoteMinute, .ref mo_anoteWho, .ref mo_anoteIs, .ref mo_atoldCane, .ref mo_anewScalar, .ref mo_anewCane, .ref mo_anewHeight, .ref mo_anewStrand, .ref mo_anewChair, .ref mo_anewWeight, .int mo_taped, .int mo_p, .int mo_fault, .int mo_slot, .int mo_rules, .int mo_entries, .int mo_deep, .int mo_counted, .int mo_opened, .int mo_words, .ref mo_atape, .ref mo_asort, .ref mo_anumber, .ref mo_aclauses, .ref mo_asumAt, .ref mo_atestAt, .ref mo_aendAt, .ref mo_aopen, .ref mo_aasked, .ref mo_astack, .ref mo_amust, .ref mo_apast, .ref mo_apastOf, .int mo_pastMany, .int mo_pastAt, .int mo_takesBack, .ref mo_acanRise, .ref mo_afirstHas, .ref mo_asecondHas, .ref mo_alay, .ref mo_ashows, .ref mo_aimages, .ref mo_aisMade, .int z5, .int 1])), (mo_aimages, hcI k 2000 mo_rimages), (a, hcI k 260 f4)]) H := hP
        have hD : va_D A ([(mo, .inr (7, [.int mo_thrown, .ref mo_ascalar, .ref mo_acane, .ref mo_ais, .ref mo_astrandOf, .ref mo_aweight, .ref mo_aheight, .ref mo_achairOf, .ref mo_anoteMinute, .ref mo_anoteWho, .ref mo_anoteIs, .ref mo_atoldCane, .ref mo_anewScalar, .ref mo_anewCane, .ref mo_anewHeight, .ref mo_anewStrand, .ref mo_anewChair, .ref mo_anewWeight, .int mo_taped, .int mo_p, .int mo_fault, .int mo_slot, .int mo_rules, .int mo_entries, .int mo_deep, .int mo_counted, .int mo_opened, .int mo_words, .ref mo_atape, .ref mo_asort, .ref mo_anumber, .ref mo_aclauses, .ref mo_asumAt, .ref mo_atestAt, .ref mo_aendAt, .ref mo_aopen, .ref mo_aasked, .ref mo_astack, .ref mo_amust, .ref mo_apast, .ref mo_apastOf, .int mo_pastMany, .int mo_pastAt, .int mo_takesBack, .ref mo_acanRise, .ref mo_afirstHas, .ref mo_asecondHas, .ref mo_alay, .ref mo_ashows, .ref mo_aimages, .ref mo_aisMade, .int z5, .int 1])), (mo_aimages, hcI k 2000 mo_rimages), (a, hcI k 260 f4)]) := hD
        obtain ⟨z6, ez6⟩ : ∃ z : Int32, z = L2_1 + 1 := ⟨_, rfl⟩
        have tz6 : z6.toInt = L2_1.toInt + (1) := ai_add rfl (by decide) ez6 (by omega) (by omega)
        refine lv_iinc (v := z6) (lv' := [(2, .int z6), (0, .ref mo), (1, .ref a)]) hx hb dX9_carryRow_52 hl (k := 0) rfl (by rw [ez6]; rfl) (by decide) rfl (fun ls hl => ?_)
        refine lv_goto (tgt := 2) hx hb dX9_carryRow_55 (by decide) ?_
        exact ih1 z6 z5 f4 ⟨by omega, by omega⟩ ⟨by omega, by omega⟩ (by omega) (CpO_s hp1_1 (by omega) (by omega) (i := K51_1mo) (by omega) tz6 ez3 ef4) (by omega) _ _ _ hP hD hS (lv_sub hl [0, 1, 2] rfl)
  exact loop1 300 0 mo_imageAt a_r (iv_lit (by decide) (by decide)) ⟨by omega, by omega⟩ (by have q0 : (0 : Int32).toInt = 0 := (by decide); omega) (CpO_0) (by have q0 : (0 : Int32).toInt = 0 := (by decide); omega) _ _ _ hP hD hS hl
set_option maxHeartbeats 4000000 in
set_option maxRecDepth 100000 in
theorem i_X9_carries_4_0 (l : Launch) (D : va_G) (k : Nat → ClassId) (sz : Nat) (mo : Nat) (mo_thrown : Int32) (mo_ascalar : Nat) (mo_acane : Nat) (mo_ais : Nat) (mo_astrandOf : Nat) (mo_aweight : Nat) (mo_aheight : Nat) (mo_achairOf : Nat) (mo_anoteMinute : Nat) (mo_anoteWho : Nat) (mo_anoteIs : Nat) (mo_atoldCane : Nat) (mo_anewScalar : Nat) (mo_anewCane : Nat) (mo_anewHeight : Nat) (mo_anewStrand : Nat) (mo_anewChair : Nat) (mo_anewWeight : Nat) (mo_taped : Int32) (mo_p : Int32) (mo_fault : Int32) (mo_slot : Int32) (mo_rules : Int32) (mo_entries : Int32) (mo_deep : Int32) (mo_counted : Int32) (mo_opened : Int32) (mo_words : Int32) (mo_atape : Nat) (mo_asort : Nat) (mo_anumber : Nat) (mo_aclauses : Nat) (mo_asumAt : Nat) (mo_atestAt : Nat) (mo_aendAt : Nat) (mo_aopen : Nat) (mo_aasked : Nat) (mo_astack : Nat) (mo_amust : Nat) (mo_apast : Nat) (mo_apastOf : Nat) (mo_pastMany : Int32) (mo_pastAt : Int32) (mo_takesBack : Int32) (mo_acanRise : Nat) (mo_afirstHas : Nat) (mo_asecondHas : Nat) (mo_alay : Nat) (mo_ashows : Nat) (mo_aimages : Nat) (mo_aisMade : Nat) (mo_imageAt : Int32) (mo_goesBack : Int32) (mo_rcane : Nat → Int32) (mo_ris : Nat → Int32) (mo_rstrandOf : Nat → Int32) (mo_rweight : Nat → Int32) (mo_rimages : Nat → Int32) (mo_s0 : Int32) (mo_s1 : Int32) (mo_s2 : Int32) (mo_s3 : Int32) (mo_s4 : Int32) (mo_s5 : Int32) (mo_s6 : Int32) (mo_s7 : Int32) (h_mo_taped : iv (0) (400) mo_taped) (h_mo_p : iv (0) (402) mo_p) (h_mo_fault : iv (0) (4000) mo_fault) (h_mo_slot : iv (0) (5) mo_slot) (h_mo_rules : iv (0) (6) mo_rules) (h_mo_entries : iv (0) (300) mo_entries) (h_mo_counted : iv (0) (70) mo_counted) (h_mo_opened : iv (0) (402) mo_opened) (h_mo_words : iv (11) (11) mo_words) (h_mo_pastMany : iv (0) (20) mo_pastMany) (h_mo_pastAt : iv (0) (260) mo_pastAt) (h_mo_takesBack : iv (0) (1) mo_takesBack) (h_mo_imageAt : iv (0) (2000) mo_imageAt) (h_mo_goesBack : iv (0) (1) mo_goesBack) (h_mo_rweight : rowIn (0) (20) mo_rweight) (h_mo_s1 : iv (0) (4) mo_s1) (h_mo_s2 : iv (0) (8) mo_s2) (h_mo_s3 : iv (0) (8) mo_s3) (h_mo_s5 : iv (0) (10) mo_s5) (h_mo_s7 : iv (-1) (5) mo_s7) : CtV l yX9_carriesAll wsX9_carriesAll (rmK 2 0 0) [.ref mo, .int 4, .int 0] D k sz ([(mo, .inr (7, [.int mo_thrown, .ref mo_ascalar, .ref mo_acane, .ref mo_ais, .ref mo_astrandOf, .ref mo_aweight, .ref mo_aheight, .ref mo_achairOf, .ref mo_anoteMinute, .ref mo_anoteWho, .ref mo_anoteIs, .ref mo_atoldCane, .ref mo_anewScalar, .ref mo_anewCane, .ref mo_anewHeight, .ref mo_anewStrand, .ref mo_anewChair, .ref mo_anewWeight, .int mo_taped, .int mo_p, .int mo_fault, .int mo_slot, .int mo_rules, .int mo_entries, .int mo_deep, .int mo_counted, .int mo_opened, .int mo_words, .ref mo_atape, .ref mo_asort, .ref mo_anumber, .ref mo_aclauses, .ref mo_asumAt, .ref mo_atestAt, .ref mo_aendAt, .ref mo_aopen, .ref mo_aasked, .ref mo_astack, .ref mo_amust, .ref mo_apast, .ref mo_apastOf, .int mo_pastMany, .int mo_pastAt, .int mo_takesBack, .ref mo_acanRise, .ref mo_afirstHas, .ref mo_asecondHas, .ref mo_alay, .ref mo_ashows, .ref mo_aimages, .ref mo_aisMade, .int mo_imageAt, .int mo_goesBack])), (mo_acane, hcI k 4 mo_rcane), (mo_ais, hcI k 8 mo_ris), (mo_astrandOf, hcI k 8 mo_rstrandOf), (mo_aweight, hcI k 8 mo_rweight), (mo_aimages, hcI k 2000 mo_rimages), (mo_ascalar, hcI k 8 (sc8 mo_s0 mo_s1 mo_s2 mo_s3 mo_s4 mo_s5 mo_s6 mo_s7))]) (fun u : (Int32) × (Int32) × (Nat → Int32) => iv (0) (2000) (u.1) ∧ iv (0) (1) (u.2.1) ∧ (Reg4 (u.2.2) mo_s0 mo_s1 mo_s2 mo_s3 mo_s4 mo_s5 mo_s6 mo_s7 mo_rcane mo_ris mo_rstrandOf mo_rweight ∧ ∀ j : Nat, j < 1600 → (u.2.2) j = mo_rimages j)) (fun u : (Int32) × (Int32) × (Nat → Int32) => [(mo, .inr (7, [.int mo_thrown, .ref mo_ascalar, .ref mo_acane, .ref mo_ais, .ref mo_astrandOf, .ref mo_aweight, .ref mo_aheight, .ref mo_achairOf, .ref mo_anoteMinute, .ref mo_anoteWho, .ref mo_anoteIs, .ref mo_atoldCane, .ref mo_anewScalar, .ref mo_anewCane, .ref mo_anewHeight, .ref mo_anewStrand, .ref mo_anewChair, .ref mo_anewWeight, .int mo_taped, .int mo_p, .int mo_fault, .int mo_slot, .int mo_rules, .int mo_entries, .int mo_deep, .int mo_counted, .int mo_opened, .int mo_words, .ref mo_atape, .ref mo_asort, .ref mo_anumber, .ref mo_aclauses, .ref mo_asumAt, .ref mo_atestAt, .ref mo_aendAt, .ref mo_aopen, .ref mo_aasked, .ref mo_astack, .ref mo_amust, .ref mo_apast, .ref mo_apastOf, .int mo_pastMany, .int mo_pastAt, .int mo_takesBack, .ref mo_acanRise, .ref mo_afirstHas, .ref mo_asecondHas, .ref mo_alay, .ref mo_ashows, .ref mo_aimages, .ref mo_aisMade, .int (u.1), .int (u.2.1)])), (mo_acane, hcI k 4 mo_rcane), (mo_ais, hcI k 8 mo_ris), (mo_astrandOf, hcI k 8 mo_rstrandOf), (mo_aweight, hcI k 8 mo_rweight), (mo_aimages, hcI k 2000 (u.2.2)), (mo_ascalar, hcI k 8 (sc8 mo_s0 mo_s1 mo_s2 mo_s3 mo_s4 mo_s5 mo_s6 mo_s7))]) 0 0 := by
  have h_mo_taped_l := h_mo_taped.1
  have h_mo_taped_u := h_mo_taped.2
  have h_mo_p_l := h_mo_p.1
  have h_mo_p_u := h_mo_p.2
  have h_mo_fault_l := h_mo_fault.1
  have h_mo_fault_u := h_mo_fault.2
  have h_mo_slot_l := h_mo_slot.1
  have h_mo_slot_u := h_mo_slot.2
  have h_mo_rules_l := h_mo_rules.1
  have h_mo_rules_u := h_mo_rules.2
  have h_mo_entries_l := h_mo_entries.1
  have h_mo_entries_u := h_mo_entries.2
  have h_mo_counted_l := h_mo_counted.1
  have h_mo_counted_u := h_mo_counted.2
  have h_mo_opened_l := h_mo_opened.1
  have h_mo_opened_u := h_mo_opened.2
  have h_mo_words_l := h_mo_words.1
  have h_mo_words_u := h_mo_words.2
  have h_mo_pastMany_l := h_mo_pastMany.1
  have h_mo_pastMany_u := h_mo_pastMany.2
  have h_mo_pastAt_l := h_mo_pastAt.1
  have h_mo_pastAt_u := h_mo_pastAt.2
  have h_mo_takesBack_l := h_mo_takesBack.1
  have h_mo_takesBack_u := h_mo_takesBack.2
  have h_mo_imageAt_l := h_mo_imageAt.1
  have h_mo_imageAt_u := h_mo_imageAt.2
  have h_mo_goesBack_l := h_mo_goesBack.1
  have h_mo_goesBack_u := h_mo_goesBack.2
  have h_mo_s1_l := h_mo_s1.1
  have h_mo_s1_u := h_mo_s1.2
  have h_mo_s2_l := h_mo_s2.1
  have h_mo_s2_u := h_mo_s2.2
  have h_mo_s3_l := h_mo_s3.1
  have h_mo_s3_u := h_mo_s3.2
  have h_mo_s5_l := h_mo_s5.1
  have h_mo_s5_u := h_mo_s5.2
  have h_mo_s7_l := h_mo_s7.1
  have h_mo_s7_u := h_mo_s7.2
  refine CtV.mk (cc := cX9_carriesAll) (maxL := 3) (ret := none) (by decide) rfl (Nat.le_of_ble_eq_true rfl) ?_
  intro p e s m below meth c A ls E hP hD hS hl
  obtain ⟨hx, hb, hr, hml, hown, hts, hlocks, hin, hG, hA⟩ := E
  have hown : s.vm.findClass RX9 = some m.cls := hown
  have in9 : ∀ w ∈ u_ws RX9 TX9 53, w ∈ wsX9_carriesAll := fun _ h => List.mem_cons_of_mem _ (List.mem_append_right _ h)
  have hl : lv_has ls 3 [(0, .ref mo), (1, .int 4), (2, .int 0)] := hl
  refine lv_aload_n hx hb dX9_carriesAll_0 rfl (lv_at hl 0 rfl) ?_
  refine lv_sipush (v := 400) hx hb dX9_carriesAll_1 (by decide) ?_
  refine lv_iload_n hx hb dX9_carriesAll_4 rfl (lv_at hl 1 rfl) ?_
  refine lv_imul hx hb dX9_carriesAll_5 ?_
  refine hc_is (z := 1600) (by decide) ?_
  refine va_put (D := D) (ci := 7) (v := .int 1600) (C := RX9) (T := TX9) (N := 53) hx hb hts in9 tyX9 tyX9_ok nmX9 hown hG.1 hP hD hS 0 rfl rfl 51 (by decide) (hts (.fieldLink RX9 486 "ChairCaneModel" "imageAt" "I") (by decide +kernel)) (fun _ h9 => h9) rfl (tyX9_ok 51 (by decide)) rfl rfl (Nat.le_of_ble_eq_true rfl) dX9_carriesAll_6 (fun H locs hP hD hS => ?_)
  have hP : va_P D vwCl ([(mo, .inr (7, [.int mo_thrown, .ref mo_ascalar, .ref mo_acane, .ref mo_ais, .ref mo_astrandOf, .ref mo_aweight, .ref mo_aheight, .ref mo_achairOf, .ref mo_anoteMinute, .ref mo_anoteWho, .ref mo_anoteIs, .ref mo_atoldCane, .ref mo_anewScalar, .ref mo_anewCane, .ref mo_anewHeight, .ref mo_anewStrand, .ref mo_anewChair, .ref mo_anewWeight, .int mo_taped, .int mo_p, .int mo_fault, .int mo_slot, .int mo_rules, .int mo_entries, .int mo_deep, .int mo_counted, .int mo_opened, .int mo_words, .ref mo_atape, .ref mo_asort, .ref mo_anumber, .ref mo_aclauses, .ref mo_asumAt, .ref mo_atestAt, .ref mo_aendAt, .ref mo_aopen, .ref mo_aasked, .ref mo_astack, .ref mo_amust, .ref mo_apast, .ref mo_apastOf, .int mo_pastMany, .int mo_pastAt, .int mo_takesBack, .ref mo_acanRise, .ref mo_afirstHas, .ref mo_asecondHas, .ref mo_alay, .ref mo_ashows, .ref mo_aimages, .ref mo_aisMade, .int 1600, .int mo_goesBack])), (mo_acane, hcI k 4 mo_rcane), (mo_ais, hcI k 8 mo_ris), (mo_astrandOf, hcI k 8 mo_rstrandOf), (mo_aweight, hcI k 8 mo_rweight), (mo_aimages, hcI k 2000 mo_rimages), (mo_ascalar, hcI k 8 (sc8 mo_s0 mo_s1 mo_s2 mo_s3 mo_s4 mo_s5 mo_s6 mo_s7))]) H := hP
  have hD : va_D A ([(mo, .inr (7, [.int mo_thrown, .ref mo_ascalar, .ref mo_acane, .ref mo_ais, .ref mo_astrandOf, .ref mo_aweight, .ref mo_aheight, .ref mo_achairOf, .ref mo_anoteMinute, .ref mo_anoteWho, .ref mo_anoteIs, .ref mo_atoldCane, .ref mo_anewScalar, .ref mo_anewCane, .ref mo_anewHeight, .ref mo_anewStrand, .ref mo_anewChair, .ref mo_anewWeight, .int mo_taped, .int mo_p, .int mo_fault, .int mo_slot, .int mo_rules, .int mo_entries, .int mo_deep, .int mo_counted, .int mo_opened, .int mo_words, .ref mo_atape, .ref mo_asort, .ref mo_anumber, .ref mo_aclauses, .ref mo_asumAt, .ref mo_atestAt, .ref mo_aendAt, .ref mo_aopen, .ref mo_aasked, .ref mo_astack, .ref mo_amust, .ref mo_apast, .ref mo_apastOf, .int mo_pastMany, .int mo_pastAt, .int mo_takesBack, .ref mo_acanRise, .ref mo_afirstHas, .ref mo_asecondHas, .ref mo_alay, .ref mo_ashows, .ref mo_aimages, .ref mo_aisMade, .int 1600, .int mo_goesBack])), (mo_acane, hcI k 4 mo_rcane), (mo_ais, hcI k 8 mo_ris), (mo_astrandOf, hcI k 8 mo_rstrandOf), (mo_aweight, hcI k 8 mo_rweight), (mo_aimages, hcI k 2000 mo_rimages), (mo_ascalar, hcI k 8 (sc8 mo_s0 mo_s1 mo_s2 mo_s3 mo_s4 mo_s5 mo_s6 mo_s7))]) := hD
  refine lv_aload_n hx hb dX9_carriesAll_9 rfl (lv_at hl 0 rfl) ?_
  refine lv_iload_n hx hb dX9_carriesAll_10 rfl (lv_at hl 2 rfl) ?_
  refine va_put (D := D) (ci := 7) (v := .int 0) (C := RX9) (T := TX9) (N := 53) hx hb hts in9 tyX9 tyX9_ok nmX9 hown hG.1 hP hD hS 0 rfl rfl 52 (by decide) (hts (.fieldLink RX9 483 "ChairCaneModel" "goesBack" "Z") (by decide +kernel)) (fun _ h9 => h9) rfl (tyX9_ok 52 (by decide)) rfl rfl (Nat.le_of_ble_eq_true rfl) dX9_carriesAll_11 (fun H locs hP hD hS => ?_)
  have hP : va_P D vwCl ([(mo, .inr (7, [.int mo_thrown, .ref mo_ascalar, .ref mo_acane, .ref mo_ais, .ref mo_astrandOf, .ref mo_aweight, .ref mo_aheight, .ref mo_achairOf, .ref mo_anoteMinute, .ref mo_anoteWho, .ref mo_anoteIs, .ref mo_atoldCane, .ref mo_anewScalar, .ref mo_anewCane, .ref mo_anewHeight, .ref mo_anewStrand, .ref mo_anewChair, .ref mo_anewWeight, .int mo_taped, .int mo_p, .int mo_fault, .int mo_slot, .int mo_rules, .int mo_entries, .int mo_deep, .int mo_counted, .int mo_opened, .int mo_words, .ref mo_atape, .ref mo_asort, .ref mo_anumber, .ref mo_aclauses, .ref mo_asumAt, .ref mo_atestAt, .ref mo_aendAt, .ref mo_aopen, .ref mo_aasked, .ref mo_astack, .ref mo_amust, .ref mo_apast, .ref mo_apastOf, .int mo_pastMany, .int mo_pastAt, .int mo_takesBack, .ref mo_acanRise, .ref mo_afirstHas, .ref mo_asecondHas, .ref mo_alay, .ref mo_ashows, .ref mo_aimages, .ref mo_aisMade, .int 1600, .int 0])), (mo_acane, hcI k 4 mo_rcane), (mo_ais, hcI k 8 mo_ris), (mo_astrandOf, hcI k 8 mo_rstrandOf), (mo_aweight, hcI k 8 mo_rweight), (mo_aimages, hcI k 2000 mo_rimages), (mo_ascalar, hcI k 8 (sc8 mo_s0 mo_s1 mo_s2 mo_s3 mo_s4 mo_s5 mo_s6 mo_s7))]) H := hP
  have hD : va_D A ([(mo, .inr (7, [.int mo_thrown, .ref mo_ascalar, .ref mo_acane, .ref mo_ais, .ref mo_astrandOf, .ref mo_aweight, .ref mo_aheight, .ref mo_achairOf, .ref mo_anoteMinute, .ref mo_anoteWho, .ref mo_anoteIs, .ref mo_atoldCane, .ref mo_anewScalar, .ref mo_anewCane, .ref mo_anewHeight, .ref mo_anewStrand, .ref mo_anewChair, .ref mo_anewWeight, .int mo_taped, .int mo_p, .int mo_fault, .int mo_slot, .int mo_rules, .int mo_entries, .int mo_deep, .int mo_counted, .int mo_opened, .int mo_words, .ref mo_atape, .ref mo_asort, .ref mo_anumber, .ref mo_aclauses, .ref mo_asumAt, .ref mo_atestAt, .ref mo_aendAt, .ref mo_aopen, .ref mo_aasked, .ref mo_astack, .ref mo_amust, .ref mo_apast, .ref mo_apastOf, .int mo_pastMany, .int mo_pastAt, .int mo_takesBack, .ref mo_acanRise, .ref mo_afirstHas, .ref mo_asecondHas, .ref mo_alay, .ref mo_ashows, .ref mo_aimages, .ref mo_aisMade, .int 1600, .int 0])), (mo_acane, hcI k 4 mo_rcane), (mo_ais, hcI k 8 mo_ris), (mo_astrandOf, hcI k 8 mo_rstrandOf), (mo_aweight, hcI k 8 mo_rweight), (mo_aimages, hcI k 2000 mo_rimages), (mo_ascalar, hcI k 8 (sc8 mo_s0 mo_s1 mo_s2 mo_s3 mo_s4 mo_s5 mo_s6 mo_s7))]) := hD
  refine lv_aload_n hx hb dX9_carriesAll_14 rfl (lv_at hl 0 rfl) ?_
  refine lv_aload_n hx hb dX9_carriesAll_15 rfl (lv_at hl 0 rfl) ?_
  refine va_get (D := D) (ci := 7) (v := .ref mo_ascalar) (C := RX9) (T := TX9) (N := 53) hx hb hts in9 hown hG.1 hP 0 rfl rfl 1 (by decide) (hts (.fieldLink RX9 9 "ChairCaneModel" "scalar" "[I") (by decide +kernel)) (fun _ h9 => h9) rfl dX9_carriesAll_16 ?_
  have ql1 : (0 : Int32).toInt = 0 := by decide
  have ql2 : (1600 : Int32).toInt = 1600 := by decide
  refine hc_Vv (As := [.ref mo_ascalar]) (rest := []) (n := 1) (wr := [(mo_acane, hcI k 4 mo_rcane), (mo_ais, hcI k 8 mo_ris), (mo_astrandOf, hcI k 8 mo_rstrandOf), (mo_aweight, hcI k 8 mo_rweight)]) hx hb hml hown hts hG hA hP hD hS hl.1 [0, 5, 6] [1, 2, 3, 4] (i_X9_carryRow_8_0 l D k _ (1600 : Int) mo mo_thrown mo_ascalar mo_acane mo_ais mo_astrandOf mo_aweight mo_aheight mo_achairOf mo_anoteMinute mo_anoteWho mo_anoteIs mo_atoldCane mo_anewScalar mo_anewCane mo_anewHeight mo_anewStrand mo_anewChair mo_anewWeight mo_taped mo_p mo_fault mo_slot mo_rules mo_entries mo_deep mo_counted mo_opened mo_words mo_atape mo_asort mo_anumber mo_aclauses mo_asumAt mo_atestAt mo_aendAt mo_aopen mo_aasked mo_astack mo_amust mo_apast mo_apastOf mo_pastMany mo_pastAt mo_takesBack mo_acanRise mo_afirstHas mo_asecondHas mo_alay mo_ashows mo_aimages mo_aisMade 1600 mo_rimages mo_ascalar (sc8 mo_s0 mo_s1 mo_s2 mo_s3 mo_s4 mo_s5 mo_s6 mo_s7) ⟨by omega, by omega⟩ ⟨by omega, by omega⟩ ⟨by omega, by omega⟩ ⟨by omega, by omega⟩ ⟨by omega, by omega⟩ ⟨by omega, by omega⟩ ⟨by omega, by omega⟩ ⟨by omega, by omega⟩ ⟨by omega, by omega⟩ ⟨by omega, by omega⟩ ⟨by omega, by omega⟩ ⟨by omega, by omega⟩ (iv_lit (by decide) (by decide)) (by omega) (by omega)) (ci := 7) (q0 := 0) rfl rfl gX9_carriesAll_X9_carryRow rfl ⟨rfl, rfl, Nat.le_of_ble_eq_true rfl, Nat.le_of_ble_eq_true rfl⟩ (by decide +kernel) rfl rfl ⟨by decide, by decide, by decide⟩ ⟨rfl, rfl, Nat.le_of_ble_eq_true rfl, Nat.le_of_ble_eq_true rfl, Nat.le_of_ble_eq_true rfl⟩ dX9_carriesAll_19 (fun u3 H locs hw hP hD hS => ?_)
  obtain ⟨w5, w6⟩ := u3
  have hP : va_P D vwCl ([(mo_acane, hcI k 4 mo_rcane), (mo_ais, hcI k 8 mo_ris), (mo_astrandOf, hcI k 8 mo_rstrandOf), (mo_aweight, hcI k 8 mo_rweight), (mo, .inr (7, [.int mo_thrown, .ref mo_ascalar, .ref mo_acane, .ref mo_ais, .ref mo_astrandOf, .ref mo_aweight, .ref mo_aheight, .ref mo_achairOf, .ref mo_anoteMinute, .ref mo_anoteWho, .ref mo_anoteIs, .ref mo_atoldCane, .ref mo_anewScalar, .ref mo_anewCane, .ref mo_anewHeight, .ref mo_anewStrand, .ref mo_anewChair, .ref mo_anewWeight, .int mo_taped, .int mo_p, .int mo_fault, .int mo_slot, .int mo_rules, .int mo_entries, .int mo_deep, .int mo_counted, .int mo_opened, .int mo_words, .ref mo_atape, .ref mo_asort, .ref mo_anumber, .ref mo_aclauses, .ref mo_asumAt, .ref mo_atestAt, .ref mo_aendAt, .ref mo_aopen, .ref mo_aasked, .ref mo_astack, .ref mo_amust, .ref mo_apast, .ref mo_apastOf, .int mo_pastMany, .int mo_pastAt, .int mo_takesBack, .ref mo_acanRise, .ref mo_afirstHas, .ref mo_asecondHas, .ref mo_alay, .ref mo_ashows, .ref mo_aimages, .ref mo_aisMade, .int w5, .int 0])), (mo_aimages, hcI k 2000 w6), (mo_ascalar, hcI k 8 (sc8 mo_s0 mo_s1 mo_s2 mo_s3 mo_s4 mo_s5 mo_s6 mo_s7))]) H := hP
  have hD : va_D A ([(mo_acane, hcI k 4 mo_rcane), (mo_ais, hcI k 8 mo_ris), (mo_astrandOf, hcI k 8 mo_rstrandOf), (mo_aweight, hcI k 8 mo_rweight), (mo, .inr (7, [.int mo_thrown, .ref mo_ascalar, .ref mo_acane, .ref mo_ais, .ref mo_astrandOf, .ref mo_aweight, .ref mo_aheight, .ref mo_achairOf, .ref mo_anoteMinute, .ref mo_anoteWho, .ref mo_anoteIs, .ref mo_atoldCane, .ref mo_anewScalar, .ref mo_anewCane, .ref mo_anewHeight, .ref mo_anewStrand, .ref mo_anewChair, .ref mo_anewWeight, .int mo_taped, .int mo_p, .int mo_fault, .int mo_slot, .int mo_rules, .int mo_entries, .int mo_deep, .int mo_counted, .int mo_opened, .int mo_words, .ref mo_atape, .ref mo_asort, .ref mo_anumber, .ref mo_aclauses, .ref mo_asumAt, .ref mo_atestAt, .ref mo_aendAt, .ref mo_aopen, .ref mo_aasked, .ref mo_astack, .ref mo_amust, .ref mo_apast, .ref mo_apastOf, .int mo_pastMany, .int mo_pastAt, .int mo_takesBack, .ref mo_acanRise, .ref mo_afirstHas, .ref mo_asecondHas, .ref mo_alay, .ref mo_ashows, .ref mo_aimages, .ref mo_aisMade, .int w5, .int 0])), (mo_aimages, hcI k 2000 w6), (mo_ascalar, hcI k 8 (sc8 mo_s0 mo_s1 mo_s2 mo_s3 mo_s4 mo_s5 mo_s6 mo_s7))]) := hD
  obtain ⟨bw5, rel7⟩ := hw
  have bw5 : iv (0) (2000) w5 := bw5
  have bw5_l := bw5.1
  have bw5_u := bw5.2
  try dsimp only at rel7
  refine lv_aload_n hx hb dX9_carriesAll_22 rfl (lv_at hl 0 rfl) ?_
  refine lv_aload_n hx hb dX9_carriesAll_23 rfl (lv_at hl 0 rfl) ?_
  refine va_get (D := D) (ci := 7) (v := .ref mo_acane) (C := RX9) (T := TX9) (N := 53) hx hb hts in9 hown hG.1 hP 4 rfl rfl 2 (by decide) (hts (.fieldLink RX9 13 "ChairCaneModel" "cane" "[I") (by decide +kernel)) (fun _ h9 => h9) rfl dX9_carriesAll_24 ?_
  have ql8 : (0 : Int32).toInt = 0 := by decide
  refine hc_Vv (As := [.ref mo_acane]) (rest := []) (n := 1) (wr := [(mo_ais, hcI k 8 mo_ris), (mo_astrandOf, hcI k 8 mo_rstrandOf), (mo_aweight, hcI k 8 mo_rweight), (mo_ascalar, hcI k 8 (sc8 mo_s0 mo_s1 mo_s2 mo_s3 mo_s4 mo_s5 mo_s6 mo_s7))]) hx hb hml hown hts hG hA hP hD hS hl.1 [4, 5, 0] [1, 2, 3, 6] (i_X9_carryRow_4_0 l D k _ (1608 : Int) mo mo_thrown mo_ascalar mo_acane mo_ais mo_astrandOf mo_aweight mo_aheight mo_achairOf mo_anoteMinute mo_anoteWho mo_anoteIs mo_atoldCane mo_anewScalar mo_anewCane mo_anewHeight mo_anewStrand mo_anewChair mo_anewWeight mo_taped mo_p mo_fault mo_slot mo_rules mo_entries mo_deep mo_counted mo_opened mo_words mo_atape mo_asort mo_anumber mo_aclauses mo_asumAt mo_atestAt mo_aendAt mo_aopen mo_aasked mo_astack mo_amust mo_apast mo_apastOf mo_pastMany mo_pastAt mo_takesBack mo_acanRise mo_afirstHas mo_asecondHas mo_alay mo_ashows mo_aimages mo_aisMade w5 w6 mo_acane mo_rcane ⟨by omega, by omega⟩ ⟨by omega, by omega⟩ ⟨by omega, by omega⟩ ⟨by omega, by omega⟩ ⟨by omega, by omega⟩ ⟨by omega, by omega⟩ ⟨by omega, by omega⟩ ⟨by omega, by omega⟩ ⟨by omega, by omega⟩ ⟨by omega, by omega⟩ ⟨by omega, by omega⟩ ⟨by omega, by omega⟩ ⟨by omega, by omega⟩ (by omega) (by omega)) (ci := 7) (q0 := 4) rfl rfl gX9_carriesAll_X9_carryRow rfl ⟨rfl, rfl, Nat.le_of_ble_eq_true rfl, Nat.le_of_ble_eq_true rfl⟩ (by decide +kernel) rfl rfl ⟨by decide, by decide, by decide⟩ ⟨rfl, rfl, Nat.le_of_ble_eq_true rfl, Nat.le_of_ble_eq_true rfl, Nat.le_of_ble_eq_true rfl⟩ dX9_carriesAll_27 (fun u9 H locs hw hP hD hS => ?_)
  obtain ⟨w11, w12⟩ := u9
  have hP : va_P D vwCl ([(mo_ais, hcI k 8 mo_ris), (mo_astrandOf, hcI k 8 mo_rstrandOf), (mo_aweight, hcI k 8 mo_rweight), (mo_ascalar, hcI k 8 (sc8 mo_s0 mo_s1 mo_s2 mo_s3 mo_s4 mo_s5 mo_s6 mo_s7)), (mo, .inr (7, [.int mo_thrown, .ref mo_ascalar, .ref mo_acane, .ref mo_ais, .ref mo_astrandOf, .ref mo_aweight, .ref mo_aheight, .ref mo_achairOf, .ref mo_anoteMinute, .ref mo_anoteWho, .ref mo_anoteIs, .ref mo_atoldCane, .ref mo_anewScalar, .ref mo_anewCane, .ref mo_anewHeight, .ref mo_anewStrand, .ref mo_anewChair, .ref mo_anewWeight, .int mo_taped, .int mo_p, .int mo_fault, .int mo_slot, .int mo_rules, .int mo_entries, .int mo_deep, .int mo_counted, .int mo_opened, .int mo_words, .ref mo_atape, .ref mo_asort, .ref mo_anumber, .ref mo_aclauses, .ref mo_asumAt, .ref mo_atestAt, .ref mo_aendAt, .ref mo_aopen, .ref mo_aasked, .ref mo_astack, .ref mo_amust, .ref mo_apast, .ref mo_apastOf, .int mo_pastMany, .int mo_pastAt, .int mo_takesBack, .ref mo_acanRise, .ref mo_afirstHas, .ref mo_asecondHas, .ref mo_alay, .ref mo_ashows, .ref mo_aimages, .ref mo_aisMade, .int w11, .int 0])), (mo_aimages, hcI k 2000 w12), (mo_acane, hcI k 4 mo_rcane)]) H := hP
  have hD : va_D A ([(mo_ais, hcI k 8 mo_ris), (mo_astrandOf, hcI k 8 mo_rstrandOf), (mo_aweight, hcI k 8 mo_rweight), (mo_ascalar, hcI k 8 (sc8 mo_s0 mo_s1 mo_s2 mo_s3 mo_s4 mo_s5 mo_s6 mo_s7)), (mo, .inr (7, [.int mo_thrown, .ref mo_ascalar, .ref mo_acane, .ref mo_ais, .ref mo_astrandOf, .ref mo_aweight, .ref mo_aheight, .ref mo_achairOf, .ref mo_anoteMinute, .ref mo_anoteWho, .ref mo_anoteIs, .ref mo_atoldCane, .ref mo_anewScalar, .ref mo_anewCane, .ref mo_anewHeight, .ref mo_anewStrand, .ref mo_anewChair, .ref mo_anewWeight, .int mo_taped, .int mo_p, .int mo_fault, .int mo_slot, .int mo_rules, .int mo_entries, .int mo_deep, .int mo_counted, .int mo_opened, .int mo_words, .ref mo_atape, .ref mo_asort, .ref mo_anumber, .ref mo_aclauses, .ref mo_asumAt, .ref mo_atestAt, .ref mo_aendAt, .ref mo_aopen, .ref mo_aasked, .ref mo_astack, .ref mo_amust, .ref mo_apast, .ref mo_apastOf, .int mo_pastMany, .int mo_pastAt, .int mo_takesBack, .ref mo_acanRise, .ref mo_afirstHas, .ref mo_asecondHas, .ref mo_alay, .ref mo_ashows, .ref mo_aimages, .ref mo_aisMade, .int w11, .int 0])), (mo_aimages, hcI k 2000 w12), (mo_acane, hcI k 4 mo_rcane)]) := hD
  obtain ⟨bw11, rel13⟩ := hw
  have bw11 : iv (0) (2000) w11 := bw11
  have bw11_l := bw11.1
  have bw11_u := bw11.2
  try dsimp only at rel13
  refine lv_aload_n hx hb dX9_carriesAll_30 rfl (lv_at hl 0 rfl) ?_
  refine lv_aload_n hx hb dX9_carriesAll_31 rfl (lv_at hl 0 rfl) ?_
  refine va_get (D := D) (ci := 7) (v := .ref mo_ais) (C := RX9) (T := TX9) (N := 53) hx hb hts in9 hown hG.1 hP 4 rfl rfl 3 (by decide) (hts (.fieldLink RX9 16 "ChairCaneModel" "is" "[I") (by decide +kernel)) (fun _ h9 => h9) rfl dX9_carriesAll_32 ?_
  have ql14 : (0 : Int32).toInt = 0 := by decide
  refine hc_Vv (As := [.ref mo_ais]) (rest := []) (n := 1) (wr := [(mo_astrandOf, hcI k 8 mo_rstrandOf), (mo_aweight, hcI k 8 mo_rweight), (mo_ascalar, hcI k 8 (sc8 mo_s0 mo_s1 mo_s2 mo_s3 mo_s4 mo_s5 mo_s6 mo_s7)), (mo_acane, hcI k 4 mo_rcane)]) hx hb hml hown hts hG hA hP hD hS hl.1 [4, 5, 0] [1, 2, 3, 6] (i_X9_carryRow_8_0 l D k _ (1612 : Int) mo mo_thrown mo_ascalar mo_acane mo_ais mo_astrandOf mo_aweight mo_aheight mo_achairOf mo_anoteMinute mo_anoteWho mo_anoteIs mo_atoldCane mo_anewScalar mo_anewCane mo_anewHeight mo_anewStrand mo_anewChair mo_anewWeight mo_taped mo_p mo_fault mo_slot mo_rules mo_entries mo_deep mo_counted mo_opened mo_words mo_atape mo_asort mo_anumber mo_aclauses mo_asumAt mo_atestAt mo_aendAt mo_aopen mo_aasked mo_astack mo_amust mo_apast mo_apastOf mo_pastMany mo_pastAt mo_takesBack mo_acanRise mo_afirstHas mo_asecondHas mo_alay mo_ashows mo_aimages mo_aisMade w11 w12 mo_ais mo_ris ⟨by omega, by omega⟩ ⟨by omega, by omega⟩ ⟨by omega, by omega⟩ ⟨by omega, by omega⟩ ⟨by omega, by omega⟩ ⟨by omega, by omega⟩ ⟨by omega, by omega⟩ ⟨by omega, by omega⟩ ⟨by omega, by omega⟩ ⟨by omega, by omega⟩ ⟨by omega, by omega⟩ ⟨by omega, by omega⟩ ⟨by omega, by omega⟩ (by omega) (by omega)) (ci := 7) (q0 := 4) rfl rfl gX9_carriesAll_X9_carryRow rfl ⟨rfl, rfl, Nat.le_of_ble_eq_true rfl, Nat.le_of_ble_eq_true rfl⟩ (by decide +kernel) rfl rfl ⟨by decide, by decide, by decide⟩ ⟨rfl, rfl, Nat.le_of_ble_eq_true rfl, Nat.le_of_ble_eq_true rfl, Nat.le_of_ble_eq_true rfl⟩ dX9_carriesAll_35 (fun u15 H locs hw hP hD hS => ?_)
  obtain ⟨w17, w18⟩ := u15
  have hP : va_P D vwCl ([(mo_astrandOf, hcI k 8 mo_rstrandOf), (mo_aweight, hcI k 8 mo_rweight), (mo_ascalar, hcI k 8 (sc8 mo_s0 mo_s1 mo_s2 mo_s3 mo_s4 mo_s5 mo_s6 mo_s7)), (mo_acane, hcI k 4 mo_rcane), (mo, .inr (7, [.int mo_thrown, .ref mo_ascalar, .ref mo_acane, .ref mo_ais, .ref mo_astrandOf, .ref mo_aweight, .ref mo_aheight, .ref mo_achairOf, .ref mo_anoteMinute, .ref mo_anoteWho, .ref mo_anoteIs, .ref mo_atoldCane, .ref mo_anewScalar, .ref mo_anewCane, .ref mo_anewHeight, .ref mo_anewStrand, .ref mo_anewChair, .ref mo_anewWeight, .int mo_taped, .int mo_p, .int mo_fault, .int mo_slot, .int mo_rules, .int mo_entries, .int mo_deep, .int mo_counted, .int mo_opened, .int mo_words, .ref mo_atape, .ref mo_asort, .ref mo_anumber, .ref mo_aclauses, .ref mo_asumAt, .ref mo_atestAt, .ref mo_aendAt, .ref mo_aopen, .ref mo_aasked, .ref mo_astack, .ref mo_amust, .ref mo_apast, .ref mo_apastOf, .int mo_pastMany, .int mo_pastAt, .int mo_takesBack, .ref mo_acanRise, .ref mo_afirstHas, .ref mo_asecondHas, .ref mo_alay, .ref mo_ashows, .ref mo_aimages, .ref mo_aisMade, .int w17, .int 0])), (mo_aimages, hcI k 2000 w18), (mo_ais, hcI k 8 mo_ris)]) H := hP
  have hD : va_D A ([(mo_astrandOf, hcI k 8 mo_rstrandOf), (mo_aweight, hcI k 8 mo_rweight), (mo_ascalar, hcI k 8 (sc8 mo_s0 mo_s1 mo_s2 mo_s3 mo_s4 mo_s5 mo_s6 mo_s7)), (mo_acane, hcI k 4 mo_rcane), (mo, .inr (7, [.int mo_thrown, .ref mo_ascalar, .ref mo_acane, .ref mo_ais, .ref mo_astrandOf, .ref mo_aweight, .ref mo_aheight, .ref mo_achairOf, .ref mo_anoteMinute, .ref mo_anoteWho, .ref mo_anoteIs, .ref mo_atoldCane, .ref mo_anewScalar, .ref mo_anewCane, .ref mo_anewHeight, .ref mo_anewStrand, .ref mo_anewChair, .ref mo_anewWeight, .int mo_taped, .int mo_p, .int mo_fault, .int mo_slot, .int mo_rules, .int mo_entries, .int mo_deep, .int mo_counted, .int mo_opened, .int mo_words, .ref mo_atape, .ref mo_asort, .ref mo_anumber, .ref mo_aclauses, .ref mo_asumAt, .ref mo_atestAt, .ref mo_aendAt, .ref mo_aopen, .ref mo_aasked, .ref mo_astack, .ref mo_amust, .ref mo_apast, .ref mo_apastOf, .int mo_pastMany, .int mo_pastAt, .int mo_takesBack, .ref mo_acanRise, .ref mo_afirstHas, .ref mo_asecondHas, .ref mo_alay, .ref mo_ashows, .ref mo_aimages, .ref mo_aisMade, .int w17, .int 0])), (mo_aimages, hcI k 2000 w18), (mo_ais, hcI k 8 mo_ris)]) := hD
  obtain ⟨bw17, rel19⟩ := hw
  have bw17 : iv (0) (2000) w17 := bw17
  have bw17_l := bw17.1
  have bw17_u := bw17.2
  try dsimp only at rel19
  refine lv_aload_n hx hb dX9_carriesAll_38 rfl (lv_at hl 0 rfl) ?_
  refine lv_aload_n hx hb dX9_carriesAll_39 rfl (lv_at hl 0 rfl) ?_
  refine va_get (D := D) (ci := 7) (v := .ref mo_astrandOf) (C := RX9) (T := TX9) (N := 53) hx hb hts in9 hown hG.1 hP 4 rfl rfl 4 (by decide) (hts (.fieldLink RX9 19 "ChairCaneModel" "strandOf" "[I") (by decide +kernel)) (fun _ h9 => h9) rfl dX9_carriesAll_40 ?_
  have ql20 : (0 : Int32).toInt = 0 := by decide
  refine hc_Vv (As := [.ref mo_astrandOf]) (rest := []) (n := 1) (wr := [(mo_aweight, hcI k 8 mo_rweight), (mo_ascalar, hcI k 8 (sc8 mo_s0 mo_s1 mo_s2 mo_s3 mo_s4 mo_s5 mo_s6 mo_s7)), (mo_acane, hcI k 4 mo_rcane), (mo_ais, hcI k 8 mo_ris)]) hx hb hml hown hts hG hA hP hD hS hl.1 [4, 5, 0] [1, 2, 3, 6] (i_X9_carryRow_8_0 l D k _ (1620 : Int) mo mo_thrown mo_ascalar mo_acane mo_ais mo_astrandOf mo_aweight mo_aheight mo_achairOf mo_anoteMinute mo_anoteWho mo_anoteIs mo_atoldCane mo_anewScalar mo_anewCane mo_anewHeight mo_anewStrand mo_anewChair mo_anewWeight mo_taped mo_p mo_fault mo_slot mo_rules mo_entries mo_deep mo_counted mo_opened mo_words mo_atape mo_asort mo_anumber mo_aclauses mo_asumAt mo_atestAt mo_aendAt mo_aopen mo_aasked mo_astack mo_amust mo_apast mo_apastOf mo_pastMany mo_pastAt mo_takesBack mo_acanRise mo_afirstHas mo_asecondHas mo_alay mo_ashows mo_aimages mo_aisMade w17 w18 mo_astrandOf mo_rstrandOf ⟨by omega, by omega⟩ ⟨by omega, by omega⟩ ⟨by omega, by omega⟩ ⟨by omega, by omega⟩ ⟨by omega, by omega⟩ ⟨by omega, by omega⟩ ⟨by omega, by omega⟩ ⟨by omega, by omega⟩ ⟨by omega, by omega⟩ ⟨by omega, by omega⟩ ⟨by omega, by omega⟩ ⟨by omega, by omega⟩ ⟨by omega, by omega⟩ (by omega) (by omega)) (ci := 7) (q0 := 4) rfl rfl gX9_carriesAll_X9_carryRow rfl ⟨rfl, rfl, Nat.le_of_ble_eq_true rfl, Nat.le_of_ble_eq_true rfl⟩ (by decide +kernel) rfl rfl ⟨by decide, by decide, by decide⟩ ⟨rfl, rfl, Nat.le_of_ble_eq_true rfl, Nat.le_of_ble_eq_true rfl, Nat.le_of_ble_eq_true rfl⟩ dX9_carriesAll_43 (fun u21 H locs hw hP hD hS => ?_)
  obtain ⟨w23, w24⟩ := u21
  have hP : va_P D vwCl ([(mo_aweight, hcI k 8 mo_rweight), (mo_ascalar, hcI k 8 (sc8 mo_s0 mo_s1 mo_s2 mo_s3 mo_s4 mo_s5 mo_s6 mo_s7)), (mo_acane, hcI k 4 mo_rcane), (mo_ais, hcI k 8 mo_ris), (mo, .inr (7, [.int mo_thrown, .ref mo_ascalar, .ref mo_acane, .ref mo_ais, .ref mo_astrandOf, .ref mo_aweight, .ref mo_aheight, .ref mo_achairOf, .ref mo_anoteMinute, .ref mo_anoteWho, .ref mo_anoteIs, .ref mo_atoldCane, .ref mo_anewScalar, .ref mo_anewCane, .ref mo_anewHeight, .ref mo_anewStrand, .ref mo_anewChair, .ref mo_anewWeight, .int mo_taped, .int mo_p, .int mo_fault, .int mo_slot, .int mo_rules, .int mo_entries, .int mo_deep, .int mo_counted, .int mo_opened, .int mo_words, .ref mo_atape, .ref mo_asort, .ref mo_anumber, .ref mo_aclauses, .ref mo_asumAt, .ref mo_atestAt, .ref mo_aendAt, .ref mo_aopen, .ref mo_aasked, .ref mo_astack, .ref mo_amust, .ref mo_apast, .ref mo_apastOf, .int mo_pastMany, .int mo_pastAt, .int mo_takesBack, .ref mo_acanRise, .ref mo_afirstHas, .ref mo_asecondHas, .ref mo_alay, .ref mo_ashows, .ref mo_aimages, .ref mo_aisMade, .int w23, .int 0])), (mo_aimages, hcI k 2000 w24), (mo_astrandOf, hcI k 8 mo_rstrandOf)]) H := hP
  have hD : va_D A ([(mo_aweight, hcI k 8 mo_rweight), (mo_ascalar, hcI k 8 (sc8 mo_s0 mo_s1 mo_s2 mo_s3 mo_s4 mo_s5 mo_s6 mo_s7)), (mo_acane, hcI k 4 mo_rcane), (mo_ais, hcI k 8 mo_ris), (mo, .inr (7, [.int mo_thrown, .ref mo_ascalar, .ref mo_acane, .ref mo_ais, .ref mo_astrandOf, .ref mo_aweight, .ref mo_aheight, .ref mo_achairOf, .ref mo_anoteMinute, .ref mo_anoteWho, .ref mo_anoteIs, .ref mo_atoldCane, .ref mo_anewScalar, .ref mo_anewCane, .ref mo_anewHeight, .ref mo_anewStrand, .ref mo_anewChair, .ref mo_anewWeight, .int mo_taped, .int mo_p, .int mo_fault, .int mo_slot, .int mo_rules, .int mo_entries, .int mo_deep, .int mo_counted, .int mo_opened, .int mo_words, .ref mo_atape, .ref mo_asort, .ref mo_anumber, .ref mo_aclauses, .ref mo_asumAt, .ref mo_atestAt, .ref mo_aendAt, .ref mo_aopen, .ref mo_aasked, .ref mo_astack, .ref mo_amust, .ref mo_apast, .ref mo_apastOf, .int mo_pastMany, .int mo_pastAt, .int mo_takesBack, .ref mo_acanRise, .ref mo_afirstHas, .ref mo_asecondHas, .ref mo_alay, .ref mo_ashows, .ref mo_aimages, .ref mo_aisMade, .int w23, .int 0])), (mo_aimages, hcI k 2000 w24), (mo_astrandOf, hcI k 8 mo_rstrandOf)]) := hD
  obtain ⟨bw23, rel25⟩ := hw
  have bw23 : iv (0) (2000) w23 := bw23
  have bw23_l := bw23.1
  have bw23_u := bw23.2
  try dsimp only at rel25
  refine lv_aload_n hx hb dX9_carriesAll_46 rfl (lv_at hl 0 rfl) ?_
  refine lv_aload_n hx hb dX9_carriesAll_47 rfl (lv_at hl 0 rfl) ?_
  refine va_get (D := D) (ci := 7) (v := .ref mo_aweight) (C := RX9) (T := TX9) (N := 53) hx hb hts in9 hown hG.1 hP 4 rfl rfl 5 (by decide) (hts (.fieldLink RX9 22 "ChairCaneModel" "weight" "[I") (by decide +kernel)) (fun _ h9 => h9) rfl dX9_carriesAll_48 ?_
  have ql26 : (0 : Int32).toInt = 0 := by decide
  refine hc_Vv (As := [.ref mo_aweight]) (rest := []) (n := 1) (wr := [(mo_ascalar, hcI k 8 (sc8 mo_s0 mo_s1 mo_s2 mo_s3 mo_s4 mo_s5 mo_s6 mo_s7)), (mo_acane, hcI k 4 mo_rcane), (mo_ais, hcI k 8 mo_ris), (mo_astrandOf, hcI k 8 mo_rstrandOf)]) hx hb hml hown hts hG hA hP hD hS hl.1 [4, 5, 0] [1, 2, 3, 6] (i_X9_carryRow_8_0 l D k _ (1628 : Int) mo mo_thrown mo_ascalar mo_acane mo_ais mo_astrandOf mo_aweight mo_aheight mo_achairOf mo_anoteMinute mo_anoteWho mo_anoteIs mo_atoldCane mo_anewScalar mo_anewCane mo_anewHeight mo_anewStrand mo_anewChair mo_anewWeight mo_taped mo_p mo_fault mo_slot mo_rules mo_entries mo_deep mo_counted mo_opened mo_words mo_atape mo_asort mo_anumber mo_aclauses mo_asumAt mo_atestAt mo_aendAt mo_aopen mo_aasked mo_astack mo_amust mo_apast mo_apastOf mo_pastMany mo_pastAt mo_takesBack mo_acanRise mo_afirstHas mo_asecondHas mo_alay mo_ashows mo_aimages mo_aisMade w23 w24 mo_aweight mo_rweight ⟨by omega, by omega⟩ ⟨by omega, by omega⟩ ⟨by omega, by omega⟩ ⟨by omega, by omega⟩ ⟨by omega, by omega⟩ ⟨by omega, by omega⟩ ⟨by omega, by omega⟩ ⟨by omega, by omega⟩ ⟨by omega, by omega⟩ ⟨by omega, by omega⟩ ⟨by omega, by omega⟩ ⟨by omega, by omega⟩ ⟨by omega, by omega⟩ (by omega) (by omega)) (ci := 7) (q0 := 4) rfl rfl gX9_carriesAll_X9_carryRow rfl ⟨rfl, rfl, Nat.le_of_ble_eq_true rfl, Nat.le_of_ble_eq_true rfl⟩ (by decide +kernel) rfl rfl ⟨by decide, by decide, by decide⟩ ⟨rfl, rfl, Nat.le_of_ble_eq_true rfl, Nat.le_of_ble_eq_true rfl, Nat.le_of_ble_eq_true rfl⟩ dX9_carriesAll_51 (fun u27 H locs hw hP hD hS => ?_)
  obtain ⟨w29, w30⟩ := u27
  have hP : va_P D vwCl ([(mo_ascalar, hcI k 8 (sc8 mo_s0 mo_s1 mo_s2 mo_s3 mo_s4 mo_s5 mo_s6 mo_s7)), (mo_acane, hcI k 4 mo_rcane), (mo_ais, hcI k 8 mo_ris), (mo_astrandOf, hcI k 8 mo_rstrandOf), (mo, .inr (7, [.int mo_thrown, .ref mo_ascalar, .ref mo_acane, .ref mo_ais, .ref mo_astrandOf, .ref mo_aweight, .ref mo_aheight, .ref mo_achairOf, .ref mo_anoteMinute, .ref mo_anoteWho, .ref mo_anoteIs, .ref mo_atoldCane, .ref mo_anewScalar, .ref mo_anewCane, .ref mo_anewHeight, .ref mo_anewStrand, .ref mo_anewChair, .ref mo_anewWeight, .int mo_taped, .int mo_p, .int mo_fault, .int mo_slot, .int mo_rules, .int mo_entries, .int mo_deep, .int mo_counted, .int mo_opened, .int mo_words, .ref mo_atape, .ref mo_asort, .ref mo_anumber, .ref mo_aclauses, .ref mo_asumAt, .ref mo_atestAt, .ref mo_aendAt, .ref mo_aopen, .ref mo_aasked, .ref mo_astack, .ref mo_amust, .ref mo_apast, .ref mo_apastOf, .int mo_pastMany, .int mo_pastAt, .int mo_takesBack, .ref mo_acanRise, .ref mo_afirstHas, .ref mo_asecondHas, .ref mo_alay, .ref mo_ashows, .ref mo_aimages, .ref mo_aisMade, .int w29, .int 0])), (mo_aimages, hcI k 2000 w30), (mo_aweight, hcI k 8 mo_rweight)]) H := hP
  have hD : va_D A ([(mo_ascalar, hcI k 8 (sc8 mo_s0 mo_s1 mo_s2 mo_s3 mo_s4 mo_s5 mo_s6 mo_s7)), (mo_acane, hcI k 4 mo_rcane), (mo_ais, hcI k 8 mo_ris), (mo_astrandOf, hcI k 8 mo_rstrandOf), (mo, .inr (7, [.int mo_thrown, .ref mo_ascalar, .ref mo_acane, .ref mo_ais, .ref mo_astrandOf, .ref mo_aweight, .ref mo_aheight, .ref mo_achairOf, .ref mo_anoteMinute, .ref mo_anoteWho, .ref mo_anoteIs, .ref mo_atoldCane, .ref mo_anewScalar, .ref mo_anewCane, .ref mo_anewHeight, .ref mo_anewStrand, .ref mo_anewChair, .ref mo_anewWeight, .int mo_taped, .int mo_p, .int mo_fault, .int mo_slot, .int mo_rules, .int mo_entries, .int mo_deep, .int mo_counted, .int mo_opened, .int mo_words, .ref mo_atape, .ref mo_asort, .ref mo_anumber, .ref mo_aclauses, .ref mo_asumAt, .ref mo_atestAt, .ref mo_aendAt, .ref mo_aopen, .ref mo_aasked, .ref mo_astack, .ref mo_amust, .ref mo_apast, .ref mo_apastOf, .int mo_pastMany, .int mo_pastAt, .int mo_takesBack, .ref mo_acanRise, .ref mo_afirstHas, .ref mo_asecondHas, .ref mo_alay, .ref mo_ashows, .ref mo_aimages, .ref mo_aisMade, .int w29, .int 0])), (mo_aimages, hcI k 2000 w30), (mo_aweight, hcI k 8 mo_rweight)]) := hD
  obtain ⟨bw29, rel31⟩ := hw
  have bw29 : iv (0) (2000) w29 := bw29
  have bw29_l := bw29.1
  have bw29_u := bw29.2
  try dsimp only at rel31
  refine lv_iload_n hx hb dX9_carriesAll_54 rfl (lv_at hl 1 rfl) ?_
  refine lv_iconst (v := 4) hx hb dX9_carriesAll_55 (by decide) ?_
  refine lv_icmp_ne (tgt := 60) hx hb dX9_carriesAll_56 (by decide) (fun h => absurd h (by decide)) (fun _ => ?_)
  exact hc_endV hx hb hr hlocks (w29, 0, w30) ⟨(show iv (0) (2000) w29 from ⟨by omega, by omega⟩), (show iv (0) (1) 0 from iv_lit (by decide) (by decide)), (by (try dsimp only); exact ⟨⟨(fun j hj => by rw [CpI.out rel31.1 (by omega), CpI.out rel25.1 (by omega), CpI.out rel19.1 (by omega), CpI.out rel13.1 (by omega), CpI.at rel7.1 (b := 1600) (by omega) (by omega)]), (fun j hj => by rw [CpI.out rel31.1 (by omega), CpI.out rel25.1 (by omega), CpI.out rel19.1 (by omega), CpI.at rel13.1 (b := 1608) (by omega) (by omega)]), (fun j hj => by rw [CpI.out rel31.1 (by omega), CpI.out rel25.1 (by omega), CpI.at rel19.1 (b := 1612) (by omega) (by omega)]), (fun j hj => by rw [CpI.out rel31.1 (by omega), CpI.at rel25.1 (b := 1620) (by omega) (by omega)]), (fun j hj => by rw [CpI.at rel31.1 (b := 1628) (by omega) (by omega)])⟩, (fun j hj => by rw [CpI.out rel31.1 (by omega), CpI.out rel25.1 (by omega), CpI.out rel19.1 (by omega), CpI.out rel13.1 (by omega), CpI.out rel7.1 (by omega)])⟩)⟩ (hP.sub [4, 1, 2, 3, 6, 5, 0] rfl) (hD.sub [4, 1, 2, 3, 6, 5, 0] (by decide) rfl) hS dX9_carriesAll_59
set_option maxHeartbeats 4000000 in
set_option maxRecDepth 100000 in
theorem i_X9_carries_4_1 (l : Launch) (D : va_G) (k : Nat → ClassId) (sz : Nat) (gs0 : Int32) (gs1 : Int32) (gs2 : Int32) (gs3 : Int32) (gs4 : Int32) (gs5 : Int32) (gs6 : Int32) (gs7 : Int32) (gca : Nat → Int32) (gis : Nat → Int32) (gso : Nat → Int32) (gw : Nat → Int32) (mo : Nat) (mo_thrown : Int32) (mo_ascalar : Nat) (mo_acane : Nat) (mo_ais : Nat) (mo_astrandOf : Nat) (mo_aweight : Nat) (mo_aheight : Nat) (mo_achairOf : Nat) (mo_anoteMinute : Nat) (mo_anoteWho : Nat) (mo_anoteIs : Nat) (mo_atoldCane : Nat) (mo_anewScalar : Nat) (mo_anewCane : Nat) (mo_anewHeight : Nat) (mo_anewStrand : Nat) (mo_anewChair : Nat) (mo_anewWeight : Nat) (mo_taped : Int32) (mo_p : Int32) (mo_fault : Int32) (mo_slot : Int32) (mo_rules : Int32) (mo_entries : Int32) (mo_deep : Int32) (mo_counted : Int32) (mo_opened : Int32) (mo_words : Int32) (mo_atape : Nat) (mo_asort : Nat) (mo_anumber : Nat) (mo_aclauses : Nat) (mo_asumAt : Nat) (mo_atestAt : Nat) (mo_aendAt : Nat) (mo_aopen : Nat) (mo_aasked : Nat) (mo_astack : Nat) (mo_amust : Nat) (mo_apast : Nat) (mo_apastOf : Nat) (mo_pastMany : Int32) (mo_pastAt : Int32) (mo_takesBack : Int32) (mo_acanRise : Nat) (mo_afirstHas : Nat) (mo_asecondHas : Nat) (mo_alay : Nat) (mo_ashows : Nat) (mo_aimages : Nat) (mo_aisMade : Nat) (mo_imageAt : Int32) (mo_goesBack : Int32) (mo_rcane : Nat → Int32) (mo_ris : Nat → Int32) (mo_rstrandOf : Nat → Int32) (mo_rweight : Nat → Int32) (mo_rimages : Nat → Int32) (mo_s0 : Int32) (mo_s1 : Int32) (mo_s2 : Int32) (mo_s3 : Int32) (mo_s4 : Int32) (mo_s5 : Int32) (mo_s6 : Int32) (mo_s7 : Int32) (h_mo_taped : iv (0) (400) mo_taped) (h_mo_p : iv (0) (402) mo_p) (h_mo_fault : iv (0) (4000) mo_fault) (h_mo_slot : iv (0) (5) mo_slot) (h_mo_rules : iv (0) (6) mo_rules) (h_mo_entries : iv (0) (300) mo_entries) (h_mo_counted : iv (0) (70) mo_counted) (h_mo_opened : iv (0) (402) mo_opened) (h_mo_words : iv (11) (11) mo_words) (h_mo_pastMany : iv (0) (20) mo_pastMany) (h_mo_pastAt : iv (0) (260) mo_pastAt) (h_mo_takesBack : iv (0) (1) mo_takesBack) (h_mo_imageAt : iv (0) (2000) mo_imageAt) (h_mo_goesBack : iv (0) (1) mo_goesBack) (h_mo_rweight : rowIn (0) (20) mo_rweight) (h_mo_s1 : iv (0) (4) mo_s1) (h_mo_s2 : iv (0) (8) mo_s2) (h_mo_s3 : iv (0) (8) mo_s3) (h_mo_s5 : iv (0) (10) mo_s5) (h_mo_s7 : iv (-1) (5) mo_s7) (hg_reg : Reg4 mo_rimages gs0 gs1 gs2 gs3 gs4 gs5 gs6 gs7 gca gis gso gw) : CtV l yX9_carriesAll wsX9_carriesAll (rmK 2 0 0) [.ref mo, .int 4, .int 1] D k sz ([(mo, .inr (7, [.int mo_thrown, .ref mo_ascalar, .ref mo_acane, .ref mo_ais, .ref mo_astrandOf, .ref mo_aweight, .ref mo_aheight, .ref mo_achairOf, .ref mo_anoteMinute, .ref mo_anoteWho, .ref mo_anoteIs, .ref mo_atoldCane, .ref mo_anewScalar, .ref mo_anewCane, .ref mo_anewHeight, .ref mo_anewStrand, .ref mo_anewChair, .ref mo_anewWeight, .int mo_taped, .int mo_p, .int mo_fault, .int mo_slot, .int mo_rules, .int mo_entries, .int mo_deep, .int mo_counted, .int mo_opened, .int mo_words, .ref mo_atape, .ref mo_asort, .ref mo_anumber, .ref mo_aclauses, .ref mo_asumAt, .ref mo_atestAt, .ref mo_aendAt, .ref mo_aopen, .ref mo_aasked, .ref mo_astack, .ref mo_amust, .ref mo_apast, .ref mo_apastOf, .int mo_pastMany, .int mo_pastAt, .int mo_takesBack, .ref mo_acanRise, .ref mo_afirstHas, .ref mo_asecondHas, .ref mo_alay, .ref mo_ashows, .ref mo_aimages, .ref mo_aisMade, .int mo_imageAt, .int mo_goesBack])), (mo_acane, hcI k 4 mo_rcane), (mo_ais, hcI k 8 mo_ris), (mo_astrandOf, hcI k 8 mo_rstrandOf), (mo_aweight, hcI k 8 mo_rweight), (mo_aimages, hcI k 2000 mo_rimages), (mo_ascalar, hcI k 8 (sc8 mo_s0 mo_s1 mo_s2 mo_s3 mo_s4 mo_s5 mo_s6 mo_s7))]) (fun u : (Int32) × (Int32) => iv (0) (2000) (u.1) ∧ iv (0) (1) (u.2)) (fun u : (Int32) × (Int32) => [(mo, .inr (7, [.int mo_thrown, .ref mo_ascalar, .ref mo_acane, .ref mo_ais, .ref mo_astrandOf, .ref mo_aweight, .ref mo_aheight, .ref mo_achairOf, .ref mo_anoteMinute, .ref mo_anoteWho, .ref mo_anoteIs, .ref mo_atoldCane, .ref mo_anewScalar, .ref mo_anewCane, .ref mo_anewHeight, .ref mo_anewStrand, .ref mo_anewChair, .ref mo_anewWeight, .int mo_taped, .int mo_p, .int mo_fault, .int mo_slot, .int mo_rules, .int mo_entries, .int mo_deep, .int mo_counted, .int mo_opened, .int mo_words, .ref mo_atape, .ref mo_asort, .ref mo_anumber, .ref mo_aclauses, .ref mo_asumAt, .ref mo_atestAt, .ref mo_aendAt, .ref mo_aopen, .ref mo_aasked, .ref mo_astack, .ref mo_amust, .ref mo_apast, .ref mo_apastOf, .int mo_pastMany, .int mo_pastAt, .int mo_takesBack, .ref mo_acanRise, .ref mo_afirstHas, .ref mo_asecondHas, .ref mo_alay, .ref mo_ashows, .ref mo_aimages, .ref mo_aisMade, .int (u.1), .int (u.2)])), (mo_acane, hcI k 4 gca), (mo_ais, hcI k 8 gis), (mo_astrandOf, hcI k 8 gso), (mo_aweight, hcI k 8 gw), (mo_aimages, hcI k 2000 mo_rimages), (mo_ascalar, hcI k 8 (sc8 gs0 gs1 gs2 gs3 gs4 gs5 gs6 gs7))]) 0 0 := by
  have h_mo_taped_l := h_mo_taped.1
  have h_mo_taped_u := h_mo_taped.2
  have h_mo_p_l := h_mo_p.1
  have h_mo_p_u := h_mo_p.2
  have h_mo_fault_l := h_mo_fault.1
  have h_mo_fault_u := h_mo_fault.2
  have h_mo_slot_l := h_mo_slot.1
  have h_mo_slot_u := h_mo_slot.2
  have h_mo_rules_l := h_mo_rules.1
  have h_mo_rules_u := h_mo_rules.2
  have h_mo_entries_l := h_mo_entries.1
  have h_mo_entries_u := h_mo_entries.2
  have h_mo_counted_l := h_mo_counted.1
  have h_mo_counted_u := h_mo_counted.2
  have h_mo_opened_l := h_mo_opened.1
  have h_mo_opened_u := h_mo_opened.2
  have h_mo_words_l := h_mo_words.1
  have h_mo_words_u := h_mo_words.2
  have h_mo_pastMany_l := h_mo_pastMany.1
  have h_mo_pastMany_u := h_mo_pastMany.2
  have h_mo_pastAt_l := h_mo_pastAt.1
  have h_mo_pastAt_u := h_mo_pastAt.2
  have h_mo_takesBack_l := h_mo_takesBack.1
  have h_mo_takesBack_u := h_mo_takesBack.2
  have h_mo_imageAt_l := h_mo_imageAt.1
  have h_mo_imageAt_u := h_mo_imageAt.2
  have h_mo_goesBack_l := h_mo_goesBack.1
  have h_mo_goesBack_u := h_mo_goesBack.2
  have h_mo_s1_l := h_mo_s1.1
  have h_mo_s1_u := h_mo_s1.2
  have h_mo_s2_l := h_mo_s2.1
  have h_mo_s2_u := h_mo_s2.2
  have h_mo_s3_l := h_mo_s3.1
  have h_mo_s3_u := h_mo_s3.2
  have h_mo_s5_l := h_mo_s5.1
  have h_mo_s5_u := h_mo_s5.2
  have h_mo_s7_l := h_mo_s7.1
  have h_mo_s7_u := h_mo_s7.2
  refine CtV.mk (cc := cX9_carriesAll) (maxL := 3) (ret := none) (by decide) rfl (Nat.le_of_ble_eq_true rfl) ?_
  intro p e s m below meth c A ls E hP hD hS hl
  obtain ⟨hx, hb, hr, hml, hown, hts, hlocks, hin, hG, hA⟩ := E
  have hown : s.vm.findClass RX9 = some m.cls := hown
  have in9 : ∀ w ∈ u_ws RX9 TX9 53, w ∈ wsX9_carriesAll := fun _ h => List.mem_cons_of_mem _ (List.mem_append_right _ h)
  have hl : lv_has ls 3 [(0, .ref mo), (1, .int 4), (2, .int 1)] := hl
  refine lv_aload_n hx hb dX9_carriesAll_0 rfl (lv_at hl 0 rfl) ?_
  refine lv_sipush (v := 400) hx hb dX9_carriesAll_1 (by decide) ?_
  refine lv_iload_n hx hb dX9_carriesAll_4 rfl (lv_at hl 1 rfl) ?_
  refine lv_imul hx hb dX9_carriesAll_5 ?_
  refine hc_is (z := 1600) (by decide) ?_
  refine va_put (D := D) (ci := 7) (v := .int 1600) (C := RX9) (T := TX9) (N := 53) hx hb hts in9 tyX9 tyX9_ok nmX9 hown hG.1 hP hD hS 0 rfl rfl 51 (by decide) (hts (.fieldLink RX9 486 "ChairCaneModel" "imageAt" "I") (by decide +kernel)) (fun _ h9 => h9) rfl (tyX9_ok 51 (by decide)) rfl rfl (Nat.le_of_ble_eq_true rfl) dX9_carriesAll_6 (fun H locs hP hD hS => ?_)
  have hP : va_P D vwCl ([(mo, .inr (7, [.int mo_thrown, .ref mo_ascalar, .ref mo_acane, .ref mo_ais, .ref mo_astrandOf, .ref mo_aweight, .ref mo_aheight, .ref mo_achairOf, .ref mo_anoteMinute, .ref mo_anoteWho, .ref mo_anoteIs, .ref mo_atoldCane, .ref mo_anewScalar, .ref mo_anewCane, .ref mo_anewHeight, .ref mo_anewStrand, .ref mo_anewChair, .ref mo_anewWeight, .int mo_taped, .int mo_p, .int mo_fault, .int mo_slot, .int mo_rules, .int mo_entries, .int mo_deep, .int mo_counted, .int mo_opened, .int mo_words, .ref mo_atape, .ref mo_asort, .ref mo_anumber, .ref mo_aclauses, .ref mo_asumAt, .ref mo_atestAt, .ref mo_aendAt, .ref mo_aopen, .ref mo_aasked, .ref mo_astack, .ref mo_amust, .ref mo_apast, .ref mo_apastOf, .int mo_pastMany, .int mo_pastAt, .int mo_takesBack, .ref mo_acanRise, .ref mo_afirstHas, .ref mo_asecondHas, .ref mo_alay, .ref mo_ashows, .ref mo_aimages, .ref mo_aisMade, .int 1600, .int mo_goesBack])), (mo_acane, hcI k 4 mo_rcane), (mo_ais, hcI k 8 mo_ris), (mo_astrandOf, hcI k 8 mo_rstrandOf), (mo_aweight, hcI k 8 mo_rweight), (mo_aimages, hcI k 2000 mo_rimages), (mo_ascalar, hcI k 8 (sc8 mo_s0 mo_s1 mo_s2 mo_s3 mo_s4 mo_s5 mo_s6 mo_s7))]) H := hP
  have hD : va_D A ([(mo, .inr (7, [.int mo_thrown, .ref mo_ascalar, .ref mo_acane, .ref mo_ais, .ref mo_astrandOf, .ref mo_aweight, .ref mo_aheight, .ref mo_achairOf, .ref mo_anoteMinute, .ref mo_anoteWho, .ref mo_anoteIs, .ref mo_atoldCane, .ref mo_anewScalar, .ref mo_anewCane, .ref mo_anewHeight, .ref mo_anewStrand, .ref mo_anewChair, .ref mo_anewWeight, .int mo_taped, .int mo_p, .int mo_fault, .int mo_slot, .int mo_rules, .int mo_entries, .int mo_deep, .int mo_counted, .int mo_opened, .int mo_words, .ref mo_atape, .ref mo_asort, .ref mo_anumber, .ref mo_aclauses, .ref mo_asumAt, .ref mo_atestAt, .ref mo_aendAt, .ref mo_aopen, .ref mo_aasked, .ref mo_astack, .ref mo_amust, .ref mo_apast, .ref mo_apastOf, .int mo_pastMany, .int mo_pastAt, .int mo_takesBack, .ref mo_acanRise, .ref mo_afirstHas, .ref mo_asecondHas, .ref mo_alay, .ref mo_ashows, .ref mo_aimages, .ref mo_aisMade, .int 1600, .int mo_goesBack])), (mo_acane, hcI k 4 mo_rcane), (mo_ais, hcI k 8 mo_ris), (mo_astrandOf, hcI k 8 mo_rstrandOf), (mo_aweight, hcI k 8 mo_rweight), (mo_aimages, hcI k 2000 mo_rimages), (mo_ascalar, hcI k 8 (sc8 mo_s0 mo_s1 mo_s2 mo_s3 mo_s4 mo_s5 mo_s6 mo_s7))]) := hD
  refine lv_aload_n hx hb dX9_carriesAll_9 rfl (lv_at hl 0 rfl) ?_
  refine lv_iload_n hx hb dX9_carriesAll_10 rfl (lv_at hl 2 rfl) ?_
  refine va_put (D := D) (ci := 7) (v := .int 1) (C := RX9) (T := TX9) (N := 53) hx hb hts in9 tyX9 tyX9_ok nmX9 hown hG.1 hP hD hS 0 rfl rfl 52 (by decide) (hts (.fieldLink RX9 483 "ChairCaneModel" "goesBack" "Z") (by decide +kernel)) (fun _ h9 => h9) rfl (tyX9_ok 52 (by decide)) rfl rfl (Nat.le_of_ble_eq_true rfl) dX9_carriesAll_11 (fun H locs hP hD hS => ?_)
  have hP : va_P D vwCl ([(mo, .inr (7, [.int mo_thrown, .ref mo_ascalar, .ref mo_acane, .ref mo_ais, .ref mo_astrandOf, .ref mo_aweight, .ref mo_aheight, .ref mo_achairOf, .ref mo_anoteMinute, .ref mo_anoteWho, .ref mo_anoteIs, .ref mo_atoldCane, .ref mo_anewScalar, .ref mo_anewCane, .ref mo_anewHeight, .ref mo_anewStrand, .ref mo_anewChair, .ref mo_anewWeight, .int mo_taped, .int mo_p, .int mo_fault, .int mo_slot, .int mo_rules, .int mo_entries, .int mo_deep, .int mo_counted, .int mo_opened, .int mo_words, .ref mo_atape, .ref mo_asort, .ref mo_anumber, .ref mo_aclauses, .ref mo_asumAt, .ref mo_atestAt, .ref mo_aendAt, .ref mo_aopen, .ref mo_aasked, .ref mo_astack, .ref mo_amust, .ref mo_apast, .ref mo_apastOf, .int mo_pastMany, .int mo_pastAt, .int mo_takesBack, .ref mo_acanRise, .ref mo_afirstHas, .ref mo_asecondHas, .ref mo_alay, .ref mo_ashows, .ref mo_aimages, .ref mo_aisMade, .int 1600, .int 1])), (mo_acane, hcI k 4 mo_rcane), (mo_ais, hcI k 8 mo_ris), (mo_astrandOf, hcI k 8 mo_rstrandOf), (mo_aweight, hcI k 8 mo_rweight), (mo_aimages, hcI k 2000 mo_rimages), (mo_ascalar, hcI k 8 (sc8 mo_s0 mo_s1 mo_s2 mo_s3 mo_s4 mo_s5 mo_s6 mo_s7))]) H := hP
  have hD : va_D A ([(mo, .inr (7, [.int mo_thrown, .ref mo_ascalar, .ref mo_acane, .ref mo_ais, .ref mo_astrandOf, .ref mo_aweight, .ref mo_aheight, .ref mo_achairOf, .ref mo_anoteMinute, .ref mo_anoteWho, .ref mo_anoteIs, .ref mo_atoldCane, .ref mo_anewScalar, .ref mo_anewCane, .ref mo_anewHeight, .ref mo_anewStrand, .ref mo_anewChair, .ref mo_anewWeight, .int mo_taped, .int mo_p, .int mo_fault, .int mo_slot, .int mo_rules, .int mo_entries, .int mo_deep, .int mo_counted, .int mo_opened, .int mo_words, .ref mo_atape, .ref mo_asort, .ref mo_anumber, .ref mo_aclauses, .ref mo_asumAt, .ref mo_atestAt, .ref mo_aendAt, .ref mo_aopen, .ref mo_aasked, .ref mo_astack, .ref mo_amust, .ref mo_apast, .ref mo_apastOf, .int mo_pastMany, .int mo_pastAt, .int mo_takesBack, .ref mo_acanRise, .ref mo_afirstHas, .ref mo_asecondHas, .ref mo_alay, .ref mo_ashows, .ref mo_aimages, .ref mo_aisMade, .int 1600, .int 1])), (mo_acane, hcI k 4 mo_rcane), (mo_ais, hcI k 8 mo_ris), (mo_astrandOf, hcI k 8 mo_rstrandOf), (mo_aweight, hcI k 8 mo_rweight), (mo_aimages, hcI k 2000 mo_rimages), (mo_ascalar, hcI k 8 (sc8 mo_s0 mo_s1 mo_s2 mo_s3 mo_s4 mo_s5 mo_s6 mo_s7))]) := hD
  refine lv_aload_n hx hb dX9_carriesAll_14 rfl (lv_at hl 0 rfl) ?_
  refine lv_aload_n hx hb dX9_carriesAll_15 rfl (lv_at hl 0 rfl) ?_
  refine va_get (D := D) (ci := 7) (v := .ref mo_ascalar) (C := RX9) (T := TX9) (N := 53) hx hb hts in9 hown hG.1 hP 0 rfl rfl 1 (by decide) (hts (.fieldLink RX9 9 "ChairCaneModel" "scalar" "[I") (by decide +kernel)) (fun _ h9 => h9) rfl dX9_carriesAll_16 ?_
  have ql1 : (1 : Int32).toInt = 1 := by decide
  have ql2 : (1600 : Int32).toInt = 1600 := by decide
  refine hc_Vv (As := [.ref mo_ascalar]) (rest := []) (n := 1) (wr := [(mo_acane, hcI k 4 mo_rcane), (mo_ais, hcI k 8 mo_ris), (mo_astrandOf, hcI k 8 mo_rstrandOf), (mo_aweight, hcI k 8 mo_rweight)]) hx hb hml hown hts hG hA hP hD hS hl.1 [0, 5, 6] [1, 2, 3, 4] (i_X9_carryRow_8_1 l D k _ (1600 : Int) mo mo_thrown mo_ascalar mo_acane mo_ais mo_astrandOf mo_aweight mo_aheight mo_achairOf mo_anoteMinute mo_anoteWho mo_anoteIs mo_atoldCane mo_anewScalar mo_anewCane mo_anewHeight mo_anewStrand mo_anewChair mo_anewWeight mo_taped mo_p mo_fault mo_slot mo_rules mo_entries mo_deep mo_counted mo_opened mo_words mo_atape mo_asort mo_anumber mo_aclauses mo_asumAt mo_atestAt mo_aendAt mo_aopen mo_aasked mo_astack mo_amust mo_apast mo_apastOf mo_pastMany mo_pastAt mo_takesBack mo_acanRise mo_afirstHas mo_asecondHas mo_alay mo_ashows mo_aimages mo_aisMade 1600 mo_rimages mo_ascalar (sc8 mo_s0 mo_s1 mo_s2 mo_s3 mo_s4 mo_s5 mo_s6 mo_s7) ⟨by omega, by omega⟩ ⟨by omega, by omega⟩ ⟨by omega, by omega⟩ ⟨by omega, by omega⟩ ⟨by omega, by omega⟩ ⟨by omega, by omega⟩ ⟨by omega, by omega⟩ ⟨by omega, by omega⟩ ⟨by omega, by omega⟩ ⟨by omega, by omega⟩ ⟨by omega, by omega⟩ ⟨by omega, by omega⟩ (iv_lit (by decide) (by decide)) (by omega) (by omega)) (ci := 7) (q0 := 0) rfl rfl gX9_carriesAll_X9_carryRow rfl ⟨rfl, rfl, Nat.le_of_ble_eq_true rfl, Nat.le_of_ble_eq_true rfl⟩ (by decide +kernel) rfl rfl ⟨by decide, by decide, by decide⟩ ⟨rfl, rfl, Nat.le_of_ble_eq_true rfl, Nat.le_of_ble_eq_true rfl, Nat.le_of_ble_eq_true rfl⟩ dX9_carriesAll_19 (fun u3 H locs hw hP hD hS => ?_)
  obtain ⟨w5, w6⟩ := u3
  have hP : va_P D vwCl ([(mo_acane, hcI k 4 mo_rcane), (mo_ais, hcI k 8 mo_ris), (mo_astrandOf, hcI k 8 mo_rstrandOf), (mo_aweight, hcI k 8 mo_rweight), (mo, .inr (7, [.int mo_thrown, .ref mo_ascalar, .ref mo_acane, .ref mo_ais, .ref mo_astrandOf, .ref mo_aweight, .ref mo_aheight, .ref mo_achairOf, .ref mo_anoteMinute, .ref mo_anoteWho, .ref mo_anoteIs, .ref mo_atoldCane, .ref mo_anewScalar, .ref mo_anewCane, .ref mo_anewHeight, .ref mo_anewStrand, .ref mo_anewChair, .ref mo_anewWeight, .int mo_taped, .int mo_p, .int mo_fault, .int mo_slot, .int mo_rules, .int mo_entries, .int mo_deep, .int mo_counted, .int mo_opened, .int mo_words, .ref mo_atape, .ref mo_asort, .ref mo_anumber, .ref mo_aclauses, .ref mo_asumAt, .ref mo_atestAt, .ref mo_aendAt, .ref mo_aopen, .ref mo_aasked, .ref mo_astack, .ref mo_amust, .ref mo_apast, .ref mo_apastOf, .int mo_pastMany, .int mo_pastAt, .int mo_takesBack, .ref mo_acanRise, .ref mo_afirstHas, .ref mo_asecondHas, .ref mo_alay, .ref mo_ashows, .ref mo_aimages, .ref mo_aisMade, .int w5, .int 1])), (mo_aimages, hcI k 2000 mo_rimages), (mo_ascalar, hcI k 8 w6)]) H := hP
  have hD : va_D A ([(mo_acane, hcI k 4 mo_rcane), (mo_ais, hcI k 8 mo_ris), (mo_astrandOf, hcI k 8 mo_rstrandOf), (mo_aweight, hcI k 8 mo_rweight), (mo, .inr (7, [.int mo_thrown, .ref mo_ascalar, .ref mo_acane, .ref mo_ais, .ref mo_astrandOf, .ref mo_aweight, .ref mo_aheight, .ref mo_achairOf, .ref mo_anoteMinute, .ref mo_anoteWho, .ref mo_anoteIs, .ref mo_atoldCane, .ref mo_anewScalar, .ref mo_anewCane, .ref mo_anewHeight, .ref mo_anewStrand, .ref mo_anewChair, .ref mo_anewWeight, .int mo_taped, .int mo_p, .int mo_fault, .int mo_slot, .int mo_rules, .int mo_entries, .int mo_deep, .int mo_counted, .int mo_opened, .int mo_words, .ref mo_atape, .ref mo_asort, .ref mo_anumber, .ref mo_aclauses, .ref mo_asumAt, .ref mo_atestAt, .ref mo_aendAt, .ref mo_aopen, .ref mo_aasked, .ref mo_astack, .ref mo_amust, .ref mo_apast, .ref mo_apastOf, .int mo_pastMany, .int mo_pastAt, .int mo_takesBack, .ref mo_acanRise, .ref mo_afirstHas, .ref mo_asecondHas, .ref mo_alay, .ref mo_ashows, .ref mo_aimages, .ref mo_aisMade, .int w5, .int 1])), (mo_aimages, hcI k 2000 mo_rimages), (mo_ascalar, hcI k 8 w6)]) := hD
  obtain ⟨bw5, rel7⟩ := hw
  have bw5 : iv (0) (2000) w5 := bw5
  have bw5_l := bw5.1
  have bw5_u := bw5.2
  try dsimp only at rel7
  refine lv_aload_n hx hb dX9_carriesAll_22 rfl (lv_at hl 0 rfl) ?_
  refine lv_aload_n hx hb dX9_carriesAll_23 rfl (lv_at hl 0 rfl) ?_
  refine va_get (D := D) (ci := 7) (v := .ref mo_acane) (C := RX9) (T := TX9) (N := 53) hx hb hts in9 hown hG.1 hP 4 rfl rfl 2 (by decide) (hts (.fieldLink RX9 13 "ChairCaneModel" "cane" "[I") (by decide +kernel)) (fun _ h9 => h9) rfl dX9_carriesAll_24 ?_
  have ql8 : (1 : Int32).toInt = 1 := by decide
  refine hc_Vv (As := [.ref mo_acane]) (rest := []) (n := 1) (wr := [(mo_ais, hcI k 8 mo_ris), (mo_astrandOf, hcI k 8 mo_rstrandOf), (mo_aweight, hcI k 8 mo_rweight), (mo_ascalar, hcI k 8 w6)]) hx hb hml hown hts hG hA hP hD hS hl.1 [4, 5, 0] [1, 2, 3, 6] (i_X9_carryRow_4_1 l D k _ (1608 : Int) mo mo_thrown mo_ascalar mo_acane mo_ais mo_astrandOf mo_aweight mo_aheight mo_achairOf mo_anoteMinute mo_anoteWho mo_anoteIs mo_atoldCane mo_anewScalar mo_anewCane mo_anewHeight mo_anewStrand mo_anewChair mo_anewWeight mo_taped mo_p mo_fault mo_slot mo_rules mo_entries mo_deep mo_counted mo_opened mo_words mo_atape mo_asort mo_anumber mo_aclauses mo_asumAt mo_atestAt mo_aendAt mo_aopen mo_aasked mo_astack mo_amust mo_apast mo_apastOf mo_pastMany mo_pastAt mo_takesBack mo_acanRise mo_afirstHas mo_asecondHas mo_alay mo_ashows mo_aimages mo_aisMade w5 mo_rimages mo_acane mo_rcane ⟨by omega, by omega⟩ ⟨by omega, by omega⟩ ⟨by omega, by omega⟩ ⟨by omega, by omega⟩ ⟨by omega, by omega⟩ ⟨by omega, by omega⟩ ⟨by omega, by omega⟩ ⟨by omega, by omega⟩ ⟨by omega, by omega⟩ ⟨by omega, by omega⟩ ⟨by omega, by omega⟩ ⟨by omega, by omega⟩ ⟨by omega, by omega⟩ (by omega) (by omega)) (ci := 7) (q0 := 4) rfl rfl gX9_carriesAll_X9_carryRow rfl ⟨rfl, rfl, Nat.le_of_ble_eq_true rfl, Nat.le_of_ble_eq_true rfl⟩ (by decide +kernel) rfl rfl ⟨by decide, by decide, by decide⟩ ⟨rfl, rfl, Nat.le_of_ble_eq_true rfl, Nat.le_of_ble_eq_true rfl, Nat.le_of_ble_eq_true rfl⟩ dX9_carriesAll_27 (fun u9 H locs hw hP hD hS => ?_)
  obtain ⟨w11, w12⟩ := u9
  have hP : va_P D vwCl ([(mo_ais, hcI k 8 mo_ris), (mo_astrandOf, hcI k 8 mo_rstrandOf), (mo_aweight, hcI k 8 mo_rweight), (mo_ascalar, hcI k 8 w6), (mo, .inr (7, [.int mo_thrown, .ref mo_ascalar, .ref mo_acane, .ref mo_ais, .ref mo_astrandOf, .ref mo_aweight, .ref mo_aheight, .ref mo_achairOf, .ref mo_anoteMinute, .ref mo_anoteWho, .ref mo_anoteIs, .ref mo_atoldCane, .ref mo_anewScalar, .ref mo_anewCane, .ref mo_anewHeight, .ref mo_anewStrand, .ref mo_anewChair, .ref mo_anewWeight, .int mo_taped, .int mo_p, .int mo_fault, .int mo_slot, .int mo_rules, .int mo_entries, .int mo_deep, .int mo_counted, .int mo_opened, .int mo_words, .ref mo_atape, .ref mo_asort, .ref mo_anumber, .ref mo_aclauses, .ref mo_asumAt, .ref mo_atestAt, .ref mo_aendAt, .ref mo_aopen, .ref mo_aasked, .ref mo_astack, .ref mo_amust, .ref mo_apast, .ref mo_apastOf, .int mo_pastMany, .int mo_pastAt, .int mo_takesBack, .ref mo_acanRise, .ref mo_afirstHas, .ref mo_asecondHas, .ref mo_alay, .ref mo_ashows, .ref mo_aimages, .ref mo_aisMade, .int w11, .int 1])), (mo_aimages, hcI k 2000 mo_rimages), (mo_acane, hcI k 4 w12)]) H := hP
  have hD : va_D A ([(mo_ais, hcI k 8 mo_ris), (mo_astrandOf, hcI k 8 mo_rstrandOf), (mo_aweight, hcI k 8 mo_rweight), (mo_ascalar, hcI k 8 w6), (mo, .inr (7, [.int mo_thrown, .ref mo_ascalar, .ref mo_acane, .ref mo_ais, .ref mo_astrandOf, .ref mo_aweight, .ref mo_aheight, .ref mo_achairOf, .ref mo_anoteMinute, .ref mo_anoteWho, .ref mo_anoteIs, .ref mo_atoldCane, .ref mo_anewScalar, .ref mo_anewCane, .ref mo_anewHeight, .ref mo_anewStrand, .ref mo_anewChair, .ref mo_anewWeight, .int mo_taped, .int mo_p, .int mo_fault, .int mo_slot, .int mo_rules, .int mo_entries, .int mo_deep, .int mo_counted, .int mo_opened, .int mo_words, .ref mo_atape, .ref mo_asort, .ref mo_anumber, .ref mo_aclauses, .ref mo_asumAt, .ref mo_atestAt, .ref mo_aendAt, .ref mo_aopen, .ref mo_aasked, .ref mo_astack, .ref mo_amust, .ref mo_apast, .ref mo_apastOf, .int mo_pastMany, .int mo_pastAt, .int mo_takesBack, .ref mo_acanRise, .ref mo_afirstHas, .ref mo_asecondHas, .ref mo_alay, .ref mo_ashows, .ref mo_aimages, .ref mo_aisMade, .int w11, .int 1])), (mo_aimages, hcI k 2000 mo_rimages), (mo_acane, hcI k 4 w12)]) := hD
  obtain ⟨bw11, rel13⟩ := hw
  have bw11 : iv (0) (2000) w11 := bw11
  have bw11_l := bw11.1
  have bw11_u := bw11.2
  try dsimp only at rel13
  refine lv_aload_n hx hb dX9_carriesAll_30 rfl (lv_at hl 0 rfl) ?_
  refine lv_aload_n hx hb dX9_carriesAll_31 rfl (lv_at hl 0 rfl) ?_
  refine va_get (D := D) (ci := 7) (v := .ref mo_ais) (C := RX9) (T := TX9) (N := 53) hx hb hts in9 hown hG.1 hP 4 rfl rfl 3 (by decide) (hts (.fieldLink RX9 16 "ChairCaneModel" "is" "[I") (by decide +kernel)) (fun _ h9 => h9) rfl dX9_carriesAll_32 ?_
  have ql14 : (1 : Int32).toInt = 1 := by decide
  refine hc_Vv (As := [.ref mo_ais]) (rest := []) (n := 1) (wr := [(mo_astrandOf, hcI k 8 mo_rstrandOf), (mo_aweight, hcI k 8 mo_rweight), (mo_ascalar, hcI k 8 w6), (mo_acane, hcI k 4 w12)]) hx hb hml hown hts hG hA hP hD hS hl.1 [4, 5, 0] [1, 2, 3, 6] (i_X9_carryRow_8_1 l D k _ (1612 : Int) mo mo_thrown mo_ascalar mo_acane mo_ais mo_astrandOf mo_aweight mo_aheight mo_achairOf mo_anoteMinute mo_anoteWho mo_anoteIs mo_atoldCane mo_anewScalar mo_anewCane mo_anewHeight mo_anewStrand mo_anewChair mo_anewWeight mo_taped mo_p mo_fault mo_slot mo_rules mo_entries mo_deep mo_counted mo_opened mo_words mo_atape mo_asort mo_anumber mo_aclauses mo_asumAt mo_atestAt mo_aendAt mo_aopen mo_aasked mo_astack mo_amust mo_apast mo_apastOf mo_pastMany mo_pastAt mo_takesBack mo_acanRise mo_afirstHas mo_asecondHas mo_alay mo_ashows mo_aimages mo_aisMade w11 mo_rimages mo_ais mo_ris ⟨by omega, by omega⟩ ⟨by omega, by omega⟩ ⟨by omega, by omega⟩ ⟨by omega, by omega⟩ ⟨by omega, by omega⟩ ⟨by omega, by omega⟩ ⟨by omega, by omega⟩ ⟨by omega, by omega⟩ ⟨by omega, by omega⟩ ⟨by omega, by omega⟩ ⟨by omega, by omega⟩ ⟨by omega, by omega⟩ ⟨by omega, by omega⟩ (by omega) (by omega)) (ci := 7) (q0 := 4) rfl rfl gX9_carriesAll_X9_carryRow rfl ⟨rfl, rfl, Nat.le_of_ble_eq_true rfl, Nat.le_of_ble_eq_true rfl⟩ (by decide +kernel) rfl rfl ⟨by decide, by decide, by decide⟩ ⟨rfl, rfl, Nat.le_of_ble_eq_true rfl, Nat.le_of_ble_eq_true rfl, Nat.le_of_ble_eq_true rfl⟩ dX9_carriesAll_35 (fun u15 H locs hw hP hD hS => ?_)
  obtain ⟨w17, w18⟩ := u15
  have hP : va_P D vwCl ([(mo_astrandOf, hcI k 8 mo_rstrandOf), (mo_aweight, hcI k 8 mo_rweight), (mo_ascalar, hcI k 8 w6), (mo_acane, hcI k 4 w12), (mo, .inr (7, [.int mo_thrown, .ref mo_ascalar, .ref mo_acane, .ref mo_ais, .ref mo_astrandOf, .ref mo_aweight, .ref mo_aheight, .ref mo_achairOf, .ref mo_anoteMinute, .ref mo_anoteWho, .ref mo_anoteIs, .ref mo_atoldCane, .ref mo_anewScalar, .ref mo_anewCane, .ref mo_anewHeight, .ref mo_anewStrand, .ref mo_anewChair, .ref mo_anewWeight, .int mo_taped, .int mo_p, .int mo_fault, .int mo_slot, .int mo_rules, .int mo_entries, .int mo_deep, .int mo_counted, .int mo_opened, .int mo_words, .ref mo_atape, .ref mo_asort, .ref mo_anumber, .ref mo_aclauses, .ref mo_asumAt, .ref mo_atestAt, .ref mo_aendAt, .ref mo_aopen, .ref mo_aasked, .ref mo_astack, .ref mo_amust, .ref mo_apast, .ref mo_apastOf, .int mo_pastMany, .int mo_pastAt, .int mo_takesBack, .ref mo_acanRise, .ref mo_afirstHas, .ref mo_asecondHas, .ref mo_alay, .ref mo_ashows, .ref mo_aimages, .ref mo_aisMade, .int w17, .int 1])), (mo_aimages, hcI k 2000 mo_rimages), (mo_ais, hcI k 8 w18)]) H := hP
  have hD : va_D A ([(mo_astrandOf, hcI k 8 mo_rstrandOf), (mo_aweight, hcI k 8 mo_rweight), (mo_ascalar, hcI k 8 w6), (mo_acane, hcI k 4 w12), (mo, .inr (7, [.int mo_thrown, .ref mo_ascalar, .ref mo_acane, .ref mo_ais, .ref mo_astrandOf, .ref mo_aweight, .ref mo_aheight, .ref mo_achairOf, .ref mo_anoteMinute, .ref mo_anoteWho, .ref mo_anoteIs, .ref mo_atoldCane, .ref mo_anewScalar, .ref mo_anewCane, .ref mo_anewHeight, .ref mo_anewStrand, .ref mo_anewChair, .ref mo_anewWeight, .int mo_taped, .int mo_p, .int mo_fault, .int mo_slot, .int mo_rules, .int mo_entries, .int mo_deep, .int mo_counted, .int mo_opened, .int mo_words, .ref mo_atape, .ref mo_asort, .ref mo_anumber, .ref mo_aclauses, .ref mo_asumAt, .ref mo_atestAt, .ref mo_aendAt, .ref mo_aopen, .ref mo_aasked, .ref mo_astack, .ref mo_amust, .ref mo_apast, .ref mo_apastOf, .int mo_pastMany, .int mo_pastAt, .int mo_takesBack, .ref mo_acanRise, .ref mo_afirstHas, .ref mo_asecondHas, .ref mo_alay, .ref mo_ashows, .ref mo_aimages, .ref mo_aisMade, .int w17, .int 1])), (mo_aimages, hcI k 2000 mo_rimages), (mo_ais, hcI k 8 w18)]) := hD
  obtain ⟨bw17, rel19⟩ := hw
  have bw17 : iv (0) (2000) w17 := bw17
  have bw17_l := bw17.1
  have bw17_u := bw17.2
  try dsimp only at rel19
  refine lv_aload_n hx hb dX9_carriesAll_38 rfl (lv_at hl 0 rfl) ?_
  refine lv_aload_n hx hb dX9_carriesAll_39 rfl (lv_at hl 0 rfl) ?_
  refine va_get (D := D) (ci := 7) (v := .ref mo_astrandOf) (C := RX9) (T := TX9) (N := 53) hx hb hts in9 hown hG.1 hP 4 rfl rfl 4 (by decide) (hts (.fieldLink RX9 19 "ChairCaneModel" "strandOf" "[I") (by decide +kernel)) (fun _ h9 => h9) rfl dX9_carriesAll_40 ?_
  have ql20 : (1 : Int32).toInt = 1 := by decide
  refine hc_Vv (As := [.ref mo_astrandOf]) (rest := []) (n := 1) (wr := [(mo_aweight, hcI k 8 mo_rweight), (mo_ascalar, hcI k 8 w6), (mo_acane, hcI k 4 w12), (mo_ais, hcI k 8 w18)]) hx hb hml hown hts hG hA hP hD hS hl.1 [4, 5, 0] [1, 2, 3, 6] (i_X9_carryRow_8_1 l D k _ (1620 : Int) mo mo_thrown mo_ascalar mo_acane mo_ais mo_astrandOf mo_aweight mo_aheight mo_achairOf mo_anoteMinute mo_anoteWho mo_anoteIs mo_atoldCane mo_anewScalar mo_anewCane mo_anewHeight mo_anewStrand mo_anewChair mo_anewWeight mo_taped mo_p mo_fault mo_slot mo_rules mo_entries mo_deep mo_counted mo_opened mo_words mo_atape mo_asort mo_anumber mo_aclauses mo_asumAt mo_atestAt mo_aendAt mo_aopen mo_aasked mo_astack mo_amust mo_apast mo_apastOf mo_pastMany mo_pastAt mo_takesBack mo_acanRise mo_afirstHas mo_asecondHas mo_alay mo_ashows mo_aimages mo_aisMade w17 mo_rimages mo_astrandOf mo_rstrandOf ⟨by omega, by omega⟩ ⟨by omega, by omega⟩ ⟨by omega, by omega⟩ ⟨by omega, by omega⟩ ⟨by omega, by omega⟩ ⟨by omega, by omega⟩ ⟨by omega, by omega⟩ ⟨by omega, by omega⟩ ⟨by omega, by omega⟩ ⟨by omega, by omega⟩ ⟨by omega, by omega⟩ ⟨by omega, by omega⟩ ⟨by omega, by omega⟩ (by omega) (by omega)) (ci := 7) (q0 := 4) rfl rfl gX9_carriesAll_X9_carryRow rfl ⟨rfl, rfl, Nat.le_of_ble_eq_true rfl, Nat.le_of_ble_eq_true rfl⟩ (by decide +kernel) rfl rfl ⟨by decide, by decide, by decide⟩ ⟨rfl, rfl, Nat.le_of_ble_eq_true rfl, Nat.le_of_ble_eq_true rfl, Nat.le_of_ble_eq_true rfl⟩ dX9_carriesAll_43 (fun u21 H locs hw hP hD hS => ?_)
  obtain ⟨w23, w24⟩ := u21
  have hP : va_P D vwCl ([(mo_aweight, hcI k 8 mo_rweight), (mo_ascalar, hcI k 8 w6), (mo_acane, hcI k 4 w12), (mo_ais, hcI k 8 w18), (mo, .inr (7, [.int mo_thrown, .ref mo_ascalar, .ref mo_acane, .ref mo_ais, .ref mo_astrandOf, .ref mo_aweight, .ref mo_aheight, .ref mo_achairOf, .ref mo_anoteMinute, .ref mo_anoteWho, .ref mo_anoteIs, .ref mo_atoldCane, .ref mo_anewScalar, .ref mo_anewCane, .ref mo_anewHeight, .ref mo_anewStrand, .ref mo_anewChair, .ref mo_anewWeight, .int mo_taped, .int mo_p, .int mo_fault, .int mo_slot, .int mo_rules, .int mo_entries, .int mo_deep, .int mo_counted, .int mo_opened, .int mo_words, .ref mo_atape, .ref mo_asort, .ref mo_anumber, .ref mo_aclauses, .ref mo_asumAt, .ref mo_atestAt, .ref mo_aendAt, .ref mo_aopen, .ref mo_aasked, .ref mo_astack, .ref mo_amust, .ref mo_apast, .ref mo_apastOf, .int mo_pastMany, .int mo_pastAt, .int mo_takesBack, .ref mo_acanRise, .ref mo_afirstHas, .ref mo_asecondHas, .ref mo_alay, .ref mo_ashows, .ref mo_aimages, .ref mo_aisMade, .int w23, .int 1])), (mo_aimages, hcI k 2000 mo_rimages), (mo_astrandOf, hcI k 8 w24)]) H := hP
  have hD : va_D A ([(mo_aweight, hcI k 8 mo_rweight), (mo_ascalar, hcI k 8 w6), (mo_acane, hcI k 4 w12), (mo_ais, hcI k 8 w18), (mo, .inr (7, [.int mo_thrown, .ref mo_ascalar, .ref mo_acane, .ref mo_ais, .ref mo_astrandOf, .ref mo_aweight, .ref mo_aheight, .ref mo_achairOf, .ref mo_anoteMinute, .ref mo_anoteWho, .ref mo_anoteIs, .ref mo_atoldCane, .ref mo_anewScalar, .ref mo_anewCane, .ref mo_anewHeight, .ref mo_anewStrand, .ref mo_anewChair, .ref mo_anewWeight, .int mo_taped, .int mo_p, .int mo_fault, .int mo_slot, .int mo_rules, .int mo_entries, .int mo_deep, .int mo_counted, .int mo_opened, .int mo_words, .ref mo_atape, .ref mo_asort, .ref mo_anumber, .ref mo_aclauses, .ref mo_asumAt, .ref mo_atestAt, .ref mo_aendAt, .ref mo_aopen, .ref mo_aasked, .ref mo_astack, .ref mo_amust, .ref mo_apast, .ref mo_apastOf, .int mo_pastMany, .int mo_pastAt, .int mo_takesBack, .ref mo_acanRise, .ref mo_afirstHas, .ref mo_asecondHas, .ref mo_alay, .ref mo_ashows, .ref mo_aimages, .ref mo_aisMade, .int w23, .int 1])), (mo_aimages, hcI k 2000 mo_rimages), (mo_astrandOf, hcI k 8 w24)]) := hD
  obtain ⟨bw23, rel25⟩ := hw
  have bw23 : iv (0) (2000) w23 := bw23
  have bw23_l := bw23.1
  have bw23_u := bw23.2
  try dsimp only at rel25
  refine lv_aload_n hx hb dX9_carriesAll_46 rfl (lv_at hl 0 rfl) ?_
  refine lv_aload_n hx hb dX9_carriesAll_47 rfl (lv_at hl 0 rfl) ?_
  refine va_get (D := D) (ci := 7) (v := .ref mo_aweight) (C := RX9) (T := TX9) (N := 53) hx hb hts in9 hown hG.1 hP 4 rfl rfl 5 (by decide) (hts (.fieldLink RX9 22 "ChairCaneModel" "weight" "[I") (by decide +kernel)) (fun _ h9 => h9) rfl dX9_carriesAll_48 ?_
  have ql26 : (1 : Int32).toInt = 1 := by decide
  refine hc_Vv (As := [.ref mo_aweight]) (rest := []) (n := 1) (wr := [(mo_ascalar, hcI k 8 w6), (mo_acane, hcI k 4 w12), (mo_ais, hcI k 8 w18), (mo_astrandOf, hcI k 8 w24)]) hx hb hml hown hts hG hA hP hD hS hl.1 [4, 5, 0] [1, 2, 3, 6] (i_X9_carryRow_8_1 l D k _ (1628 : Int) mo mo_thrown mo_ascalar mo_acane mo_ais mo_astrandOf mo_aweight mo_aheight mo_achairOf mo_anoteMinute mo_anoteWho mo_anoteIs mo_atoldCane mo_anewScalar mo_anewCane mo_anewHeight mo_anewStrand mo_anewChair mo_anewWeight mo_taped mo_p mo_fault mo_slot mo_rules mo_entries mo_deep mo_counted mo_opened mo_words mo_atape mo_asort mo_anumber mo_aclauses mo_asumAt mo_atestAt mo_aendAt mo_aopen mo_aasked mo_astack mo_amust mo_apast mo_apastOf mo_pastMany mo_pastAt mo_takesBack mo_acanRise mo_afirstHas mo_asecondHas mo_alay mo_ashows mo_aimages mo_aisMade w23 mo_rimages mo_aweight mo_rweight ⟨by omega, by omega⟩ ⟨by omega, by omega⟩ ⟨by omega, by omega⟩ ⟨by omega, by omega⟩ ⟨by omega, by omega⟩ ⟨by omega, by omega⟩ ⟨by omega, by omega⟩ ⟨by omega, by omega⟩ ⟨by omega, by omega⟩ ⟨by omega, by omega⟩ ⟨by omega, by omega⟩ ⟨by omega, by omega⟩ ⟨by omega, by omega⟩ (by omega) (by omega)) (ci := 7) (q0 := 4) rfl rfl gX9_carriesAll_X9_carryRow rfl ⟨rfl, rfl, Nat.le_of_ble_eq_true rfl, Nat.le_of_ble_eq_true rfl⟩ (by decide +kernel) rfl rfl ⟨by decide, by decide, by decide⟩ ⟨rfl, rfl, Nat.le_of_ble_eq_true rfl, Nat.le_of_ble_eq_true rfl, Nat.le_of_ble_eq_true rfl⟩ dX9_carriesAll_51 (fun u27 H locs hw hP hD hS => ?_)
  obtain ⟨w29, w30⟩ := u27
  have hP : va_P D vwCl ([(mo_ascalar, hcI k 8 w6), (mo_acane, hcI k 4 w12), (mo_ais, hcI k 8 w18), (mo_astrandOf, hcI k 8 w24), (mo, .inr (7, [.int mo_thrown, .ref mo_ascalar, .ref mo_acane, .ref mo_ais, .ref mo_astrandOf, .ref mo_aweight, .ref mo_aheight, .ref mo_achairOf, .ref mo_anoteMinute, .ref mo_anoteWho, .ref mo_anoteIs, .ref mo_atoldCane, .ref mo_anewScalar, .ref mo_anewCane, .ref mo_anewHeight, .ref mo_anewStrand, .ref mo_anewChair, .ref mo_anewWeight, .int mo_taped, .int mo_p, .int mo_fault, .int mo_slot, .int mo_rules, .int mo_entries, .int mo_deep, .int mo_counted, .int mo_opened, .int mo_words, .ref mo_atape, .ref mo_asort, .ref mo_anumber, .ref mo_aclauses, .ref mo_asumAt, .ref mo_atestAt, .ref mo_aendAt, .ref mo_aopen, .ref mo_aasked, .ref mo_astack, .ref mo_amust, .ref mo_apast, .ref mo_apastOf, .int mo_pastMany, .int mo_pastAt, .int mo_takesBack, .ref mo_acanRise, .ref mo_afirstHas, .ref mo_asecondHas, .ref mo_alay, .ref mo_ashows, .ref mo_aimages, .ref mo_aisMade, .int w29, .int 1])), (mo_aimages, hcI k 2000 mo_rimages), (mo_aweight, hcI k 8 w30)]) H := hP
  have hD : va_D A ([(mo_ascalar, hcI k 8 w6), (mo_acane, hcI k 4 w12), (mo_ais, hcI k 8 w18), (mo_astrandOf, hcI k 8 w24), (mo, .inr (7, [.int mo_thrown, .ref mo_ascalar, .ref mo_acane, .ref mo_ais, .ref mo_astrandOf, .ref mo_aweight, .ref mo_aheight, .ref mo_achairOf, .ref mo_anoteMinute, .ref mo_anoteWho, .ref mo_anoteIs, .ref mo_atoldCane, .ref mo_anewScalar, .ref mo_anewCane, .ref mo_anewHeight, .ref mo_anewStrand, .ref mo_anewChair, .ref mo_anewWeight, .int mo_taped, .int mo_p, .int mo_fault, .int mo_slot, .int mo_rules, .int mo_entries, .int mo_deep, .int mo_counted, .int mo_opened, .int mo_words, .ref mo_atape, .ref mo_asort, .ref mo_anumber, .ref mo_aclauses, .ref mo_asumAt, .ref mo_atestAt, .ref mo_aendAt, .ref mo_aopen, .ref mo_aasked, .ref mo_astack, .ref mo_amust, .ref mo_apast, .ref mo_apastOf, .int mo_pastMany, .int mo_pastAt, .int mo_takesBack, .ref mo_acanRise, .ref mo_afirstHas, .ref mo_asecondHas, .ref mo_alay, .ref mo_ashows, .ref mo_aimages, .ref mo_aisMade, .int w29, .int 1])), (mo_aimages, hcI k 2000 mo_rimages), (mo_aweight, hcI k 8 w30)]) := hD
  obtain ⟨bw29, rel31⟩ := hw
  have bw29 : iv (0) (2000) w29 := bw29
  have bw29_l := bw29.1
  have bw29_u := bw29.2
  try dsimp only at rel31
  refine lv_iload_n hx hb dX9_carriesAll_54 rfl (lv_at hl 1 rfl) ?_
  refine lv_iconst (v := 4) hx hb dX9_carriesAll_55 (by decide) ?_
  refine lv_icmp_ne (tgt := 60) hx hb dX9_carriesAll_56 (by decide) (fun h => absurd h (by decide)) (fun _ => ?_)
  have hD := va_D.set (e := hcI k 8 (sc8 gs0 gs1 gs2 gs3 gs4 gs5 gs6 gs7)) hD (p := 0) rfl
  have hP := row_cong (g := (sc8 gs0 gs1 gs2 gs3 gs4 gs5 gs6 gs7)) hP 0 rfl (fun j hj => by rw [CpO.at rel7.1 (b := 1600) (by omega) (by omega)]; exact hg_reg.1 j hj)
  have hP : va_P D vwCl ([(mo_ascalar, hcI k 8 (sc8 gs0 gs1 gs2 gs3 gs4 gs5 gs6 gs7)), (mo_acane, hcI k 4 w12), (mo_ais, hcI k 8 w18), (mo_astrandOf, hcI k 8 w24), (mo, .inr (7, [.int mo_thrown, .ref mo_ascalar, .ref mo_acane, .ref mo_ais, .ref mo_astrandOf, .ref mo_aweight, .ref mo_aheight, .ref mo_achairOf, .ref mo_anoteMinute, .ref mo_anoteWho, .ref mo_anoteIs, .ref mo_atoldCane, .ref mo_anewScalar, .ref mo_anewCane, .ref mo_anewHeight, .ref mo_anewStrand, .ref mo_anewChair, .ref mo_anewWeight, .int mo_taped, .int mo_p, .int mo_fault, .int mo_slot, .int mo_rules, .int mo_entries, .int mo_deep, .int mo_counted, .int mo_opened, .int mo_words, .ref mo_atape, .ref mo_asort, .ref mo_anumber, .ref mo_aclauses, .ref mo_asumAt, .ref mo_atestAt, .ref mo_aendAt, .ref mo_aopen, .ref mo_aasked, .ref mo_astack, .ref mo_amust, .ref mo_apast, .ref mo_apastOf, .int mo_pastMany, .int mo_pastAt, .int mo_takesBack, .ref mo_acanRise, .ref mo_afirstHas, .ref mo_asecondHas, .ref mo_alay, .ref mo_ashows, .ref mo_aimages, .ref mo_aisMade, .int w29, .int 1])), (mo_aimages, hcI k 2000 mo_rimages), (mo_aweight, hcI k 8 w30)]) H := hP
  have hD : va_D A ([(mo_ascalar, hcI k 8 (sc8 gs0 gs1 gs2 gs3 gs4 gs5 gs6 gs7)), (mo_acane, hcI k 4 w12), (mo_ais, hcI k 8 w18), (mo_astrandOf, hcI k 8 w24), (mo, .inr (7, [.int mo_thrown, .ref mo_ascalar, .ref mo_acane, .ref mo_ais, .ref mo_astrandOf, .ref mo_aweight, .ref mo_aheight, .ref mo_achairOf, .ref mo_anoteMinute, .ref mo_anoteWho, .ref mo_anoteIs, .ref mo_atoldCane, .ref mo_anewScalar, .ref mo_anewCane, .ref mo_anewHeight, .ref mo_anewStrand, .ref mo_anewChair, .ref mo_anewWeight, .int mo_taped, .int mo_p, .int mo_fault, .int mo_slot, .int mo_rules, .int mo_entries, .int mo_deep, .int mo_counted, .int mo_opened, .int mo_words, .ref mo_atape, .ref mo_asort, .ref mo_anumber, .ref mo_aclauses, .ref mo_asumAt, .ref mo_atestAt, .ref mo_aendAt, .ref mo_aopen, .ref mo_aasked, .ref mo_astack, .ref mo_amust, .ref mo_apast, .ref mo_apastOf, .int mo_pastMany, .int mo_pastAt, .int mo_takesBack, .ref mo_acanRise, .ref mo_afirstHas, .ref mo_asecondHas, .ref mo_alay, .ref mo_ashows, .ref mo_aimages, .ref mo_aisMade, .int w29, .int 1])), (mo_aimages, hcI k 2000 mo_rimages), (mo_aweight, hcI k 8 w30)]) := hD
  have hD := va_D.set (e := hcI k 4 gca) hD (p := 1) rfl
  have hP := row_cong (g := gca) hP 1 rfl (fun j hj => by rw [CpO.at rel13.1 (b := 1608) (by omega) (by omega)]; exact hg_reg.2.1 j hj)
  have hP : va_P D vwCl ([(mo_ascalar, hcI k 8 (sc8 gs0 gs1 gs2 gs3 gs4 gs5 gs6 gs7)), (mo_acane, hcI k 4 gca), (mo_ais, hcI k 8 w18), (mo_astrandOf, hcI k 8 w24), (mo, .inr (7, [.int mo_thrown, .ref mo_ascalar, .ref mo_acane, .ref mo_ais, .ref mo_astrandOf, .ref mo_aweight, .ref mo_aheight, .ref mo_achairOf, .ref mo_anoteMinute, .ref mo_anoteWho, .ref mo_anoteIs, .ref mo_atoldCane, .ref mo_anewScalar, .ref mo_anewCane, .ref mo_anewHeight, .ref mo_anewStrand, .ref mo_anewChair, .ref mo_anewWeight, .int mo_taped, .int mo_p, .int mo_fault, .int mo_slot, .int mo_rules, .int mo_entries, .int mo_deep, .int mo_counted, .int mo_opened, .int mo_words, .ref mo_atape, .ref mo_asort, .ref mo_anumber, .ref mo_aclauses, .ref mo_asumAt, .ref mo_atestAt, .ref mo_aendAt, .ref mo_aopen, .ref mo_aasked, .ref mo_astack, .ref mo_amust, .ref mo_apast, .ref mo_apastOf, .int mo_pastMany, .int mo_pastAt, .int mo_takesBack, .ref mo_acanRise, .ref mo_afirstHas, .ref mo_asecondHas, .ref mo_alay, .ref mo_ashows, .ref mo_aimages, .ref mo_aisMade, .int w29, .int 1])), (mo_aimages, hcI k 2000 mo_rimages), (mo_aweight, hcI k 8 w30)]) H := hP
  have hD : va_D A ([(mo_ascalar, hcI k 8 (sc8 gs0 gs1 gs2 gs3 gs4 gs5 gs6 gs7)), (mo_acane, hcI k 4 gca), (mo_ais, hcI k 8 w18), (mo_astrandOf, hcI k 8 w24), (mo, .inr (7, [.int mo_thrown, .ref mo_ascalar, .ref mo_acane, .ref mo_ais, .ref mo_astrandOf, .ref mo_aweight, .ref mo_aheight, .ref mo_achairOf, .ref mo_anoteMinute, .ref mo_anoteWho, .ref mo_anoteIs, .ref mo_atoldCane, .ref mo_anewScalar, .ref mo_anewCane, .ref mo_anewHeight, .ref mo_anewStrand, .ref mo_anewChair, .ref mo_anewWeight, .int mo_taped, .int mo_p, .int mo_fault, .int mo_slot, .int mo_rules, .int mo_entries, .int mo_deep, .int mo_counted, .int mo_opened, .int mo_words, .ref mo_atape, .ref mo_asort, .ref mo_anumber, .ref mo_aclauses, .ref mo_asumAt, .ref mo_atestAt, .ref mo_aendAt, .ref mo_aopen, .ref mo_aasked, .ref mo_astack, .ref mo_amust, .ref mo_apast, .ref mo_apastOf, .int mo_pastMany, .int mo_pastAt, .int mo_takesBack, .ref mo_acanRise, .ref mo_afirstHas, .ref mo_asecondHas, .ref mo_alay, .ref mo_ashows, .ref mo_aimages, .ref mo_aisMade, .int w29, .int 1])), (mo_aimages, hcI k 2000 mo_rimages), (mo_aweight, hcI k 8 w30)]) := hD
  have hD := va_D.set (e := hcI k 8 gis) hD (p := 2) rfl
  have hP := row_cong (g := gis) hP 2 rfl (fun j hj => by rw [CpO.at rel19.1 (b := 1612) (by omega) (by omega)]; exact hg_reg.2.2.1 j hj)
  have hP : va_P D vwCl ([(mo_ascalar, hcI k 8 (sc8 gs0 gs1 gs2 gs3 gs4 gs5 gs6 gs7)), (mo_acane, hcI k 4 gca), (mo_ais, hcI k 8 gis), (mo_astrandOf, hcI k 8 w24), (mo, .inr (7, [.int mo_thrown, .ref mo_ascalar, .ref mo_acane, .ref mo_ais, .ref mo_astrandOf, .ref mo_aweight, .ref mo_aheight, .ref mo_achairOf, .ref mo_anoteMinute, .ref mo_anoteWho, .ref mo_anoteIs, .ref mo_atoldCane, .ref mo_anewScalar, .ref mo_anewCane, .ref mo_anewHeight, .ref mo_anewStrand, .ref mo_anewChair, .ref mo_anewWeight, .int mo_taped, .int mo_p, .int mo_fault, .int mo_slot, .int mo_rules, .int mo_entries, .int mo_deep, .int mo_counted, .int mo_opened, .int mo_words, .ref mo_atape, .ref mo_asort, .ref mo_anumber, .ref mo_aclauses, .ref mo_asumAt, .ref mo_atestAt, .ref mo_aendAt, .ref mo_aopen, .ref mo_aasked, .ref mo_astack, .ref mo_amust, .ref mo_apast, .ref mo_apastOf, .int mo_pastMany, .int mo_pastAt, .int mo_takesBack, .ref mo_acanRise, .ref mo_afirstHas, .ref mo_asecondHas, .ref mo_alay, .ref mo_ashows, .ref mo_aimages, .ref mo_aisMade, .int w29, .int 1])), (mo_aimages, hcI k 2000 mo_rimages), (mo_aweight, hcI k 8 w30)]) H := hP
  have hD : va_D A ([(mo_ascalar, hcI k 8 (sc8 gs0 gs1 gs2 gs3 gs4 gs5 gs6 gs7)), (mo_acane, hcI k 4 gca), (mo_ais, hcI k 8 gis), (mo_astrandOf, hcI k 8 w24), (mo, .inr (7, [.int mo_thrown, .ref mo_ascalar, .ref mo_acane, .ref mo_ais, .ref mo_astrandOf, .ref mo_aweight, .ref mo_aheight, .ref mo_achairOf, .ref mo_anoteMinute, .ref mo_anoteWho, .ref mo_anoteIs, .ref mo_atoldCane, .ref mo_anewScalar, .ref mo_anewCane, .ref mo_anewHeight, .ref mo_anewStrand, .ref mo_anewChair, .ref mo_anewWeight, .int mo_taped, .int mo_p, .int mo_fault, .int mo_slot, .int mo_rules, .int mo_entries, .int mo_deep, .int mo_counted, .int mo_opened, .int mo_words, .ref mo_atape, .ref mo_asort, .ref mo_anumber, .ref mo_aclauses, .ref mo_asumAt, .ref mo_atestAt, .ref mo_aendAt, .ref mo_aopen, .ref mo_aasked, .ref mo_astack, .ref mo_amust, .ref mo_apast, .ref mo_apastOf, .int mo_pastMany, .int mo_pastAt, .int mo_takesBack, .ref mo_acanRise, .ref mo_afirstHas, .ref mo_asecondHas, .ref mo_alay, .ref mo_ashows, .ref mo_aimages, .ref mo_aisMade, .int w29, .int 1])), (mo_aimages, hcI k 2000 mo_rimages), (mo_aweight, hcI k 8 w30)]) := hD
  have hD := va_D.set (e := hcI k 8 gso) hD (p := 3) rfl
  have hP := row_cong (g := gso) hP 3 rfl (fun j hj => by rw [CpO.at rel25.1 (b := 1620) (by omega) (by omega)]; exact hg_reg.2.2.2.1 j hj)
  have hP : va_P D vwCl ([(mo_ascalar, hcI k 8 (sc8 gs0 gs1 gs2 gs3 gs4 gs5 gs6 gs7)), (mo_acane, hcI k 4 gca), (mo_ais, hcI k 8 gis), (mo_astrandOf, hcI k 8 gso), (mo, .inr (7, [.int mo_thrown, .ref mo_ascalar, .ref mo_acane, .ref mo_ais, .ref mo_astrandOf, .ref mo_aweight, .ref mo_aheight, .ref mo_achairOf, .ref mo_anoteMinute, .ref mo_anoteWho, .ref mo_anoteIs, .ref mo_atoldCane, .ref mo_anewScalar, .ref mo_anewCane, .ref mo_anewHeight, .ref mo_anewStrand, .ref mo_anewChair, .ref mo_anewWeight, .int mo_taped, .int mo_p, .int mo_fault, .int mo_slot, .int mo_rules, .int mo_entries, .int mo_deep, .int mo_counted, .int mo_opened, .int mo_words, .ref mo_atape, .ref mo_asort, .ref mo_anumber, .ref mo_aclauses, .ref mo_asumAt, .ref mo_atestAt, .ref mo_aendAt, .ref mo_aopen, .ref mo_aasked, .ref mo_astack, .ref mo_amust, .ref mo_apast, .ref mo_apastOf, .int mo_pastMany, .int mo_pastAt, .int mo_takesBack, .ref mo_acanRise, .ref mo_afirstHas, .ref mo_asecondHas, .ref mo_alay, .ref mo_ashows, .ref mo_aimages, .ref mo_aisMade, .int w29, .int 1])), (mo_aimages, hcI k 2000 mo_rimages), (mo_aweight, hcI k 8 w30)]) H := hP
  have hD : va_D A ([(mo_ascalar, hcI k 8 (sc8 gs0 gs1 gs2 gs3 gs4 gs5 gs6 gs7)), (mo_acane, hcI k 4 gca), (mo_ais, hcI k 8 gis), (mo_astrandOf, hcI k 8 gso), (mo, .inr (7, [.int mo_thrown, .ref mo_ascalar, .ref mo_acane, .ref mo_ais, .ref mo_astrandOf, .ref mo_aweight, .ref mo_aheight, .ref mo_achairOf, .ref mo_anoteMinute, .ref mo_anoteWho, .ref mo_anoteIs, .ref mo_atoldCane, .ref mo_anewScalar, .ref mo_anewCane, .ref mo_anewHeight, .ref mo_anewStrand, .ref mo_anewChair, .ref mo_anewWeight, .int mo_taped, .int mo_p, .int mo_fault, .int mo_slot, .int mo_rules, .int mo_entries, .int mo_deep, .int mo_counted, .int mo_opened, .int mo_words, .ref mo_atape, .ref mo_asort, .ref mo_anumber, .ref mo_aclauses, .ref mo_asumAt, .ref mo_atestAt, .ref mo_aendAt, .ref mo_aopen, .ref mo_aasked, .ref mo_astack, .ref mo_amust, .ref mo_apast, .ref mo_apastOf, .int mo_pastMany, .int mo_pastAt, .int mo_takesBack, .ref mo_acanRise, .ref mo_afirstHas, .ref mo_asecondHas, .ref mo_alay, .ref mo_ashows, .ref mo_aimages, .ref mo_aisMade, .int w29, .int 1])), (mo_aimages, hcI k 2000 mo_rimages), (mo_aweight, hcI k 8 w30)]) := hD
  have hD := va_D.set (e := hcI k 8 gw) hD (p := 6) rfl
  have hP := row_cong (g := gw) hP 6 rfl (fun j hj => by rw [CpO.at rel31.1 (b := 1628) (by omega) (by omega)]; exact hg_reg.2.2.2.2 j hj)
  have hP : va_P D vwCl ([(mo_ascalar, hcI k 8 (sc8 gs0 gs1 gs2 gs3 gs4 gs5 gs6 gs7)), (mo_acane, hcI k 4 gca), (mo_ais, hcI k 8 gis), (mo_astrandOf, hcI k 8 gso), (mo, .inr (7, [.int mo_thrown, .ref mo_ascalar, .ref mo_acane, .ref mo_ais, .ref mo_astrandOf, .ref mo_aweight, .ref mo_aheight, .ref mo_achairOf, .ref mo_anoteMinute, .ref mo_anoteWho, .ref mo_anoteIs, .ref mo_atoldCane, .ref mo_anewScalar, .ref mo_anewCane, .ref mo_anewHeight, .ref mo_anewStrand, .ref mo_anewChair, .ref mo_anewWeight, .int mo_taped, .int mo_p, .int mo_fault, .int mo_slot, .int mo_rules, .int mo_entries, .int mo_deep, .int mo_counted, .int mo_opened, .int mo_words, .ref mo_atape, .ref mo_asort, .ref mo_anumber, .ref mo_aclauses, .ref mo_asumAt, .ref mo_atestAt, .ref mo_aendAt, .ref mo_aopen, .ref mo_aasked, .ref mo_astack, .ref mo_amust, .ref mo_apast, .ref mo_apastOf, .int mo_pastMany, .int mo_pastAt, .int mo_takesBack, .ref mo_acanRise, .ref mo_afirstHas, .ref mo_asecondHas, .ref mo_alay, .ref mo_ashows, .ref mo_aimages, .ref mo_aisMade, .int w29, .int 1])), (mo_aimages, hcI k 2000 mo_rimages), (mo_aweight, hcI k 8 gw)]) H := hP
  have hD : va_D A ([(mo_ascalar, hcI k 8 (sc8 gs0 gs1 gs2 gs3 gs4 gs5 gs6 gs7)), (mo_acane, hcI k 4 gca), (mo_ais, hcI k 8 gis), (mo_astrandOf, hcI k 8 gso), (mo, .inr (7, [.int mo_thrown, .ref mo_ascalar, .ref mo_acane, .ref mo_ais, .ref mo_astrandOf, .ref mo_aweight, .ref mo_aheight, .ref mo_achairOf, .ref mo_anoteMinute, .ref mo_anoteWho, .ref mo_anoteIs, .ref mo_atoldCane, .ref mo_anewScalar, .ref mo_anewCane, .ref mo_anewHeight, .ref mo_anewStrand, .ref mo_anewChair, .ref mo_anewWeight, .int mo_taped, .int mo_p, .int mo_fault, .int mo_slot, .int mo_rules, .int mo_entries, .int mo_deep, .int mo_counted, .int mo_opened, .int mo_words, .ref mo_atape, .ref mo_asort, .ref mo_anumber, .ref mo_aclauses, .ref mo_asumAt, .ref mo_atestAt, .ref mo_aendAt, .ref mo_aopen, .ref mo_aasked, .ref mo_astack, .ref mo_amust, .ref mo_apast, .ref mo_apastOf, .int mo_pastMany, .int mo_pastAt, .int mo_takesBack, .ref mo_acanRise, .ref mo_afirstHas, .ref mo_asecondHas, .ref mo_alay, .ref mo_ashows, .ref mo_aimages, .ref mo_aisMade, .int w29, .int 1])), (mo_aimages, hcI k 2000 mo_rimages), (mo_aweight, hcI k 8 gw)]) := hD
  exact hc_endV hx hb hr hlocks (w29, 1) ⟨(show iv (0) (2000) w29 from ⟨by omega, by omega⟩), (show iv (0) (1) 1 from iv_lit (by decide) (by decide))⟩ (hP.sub [4, 1, 2, 3, 6, 5, 0] rfl) (hD.sub [4, 1, 2, 3, 6, 5, 0] (by decide) rfl) hS dX9_carriesAll_59
set_option maxHeartbeats 4000000 in
set_option maxRecDepth 100000 in
theorem i_X9_keepsAll (l : Launch) (D : va_G) (k : Nat → ClassId) (sz : Nat) (mo : Nat) (mo_thrown : Int32) (mo_ascalar : Nat) (mo_acane : Nat) (mo_ais : Nat) (mo_astrandOf : Nat) (mo_aweight : Nat) (mo_aheight : Nat) (mo_achairOf : Nat) (mo_anoteMinute : Nat) (mo_anoteWho : Nat) (mo_anoteIs : Nat) (mo_atoldCane : Nat) (mo_anewScalar : Nat) (mo_anewCane : Nat) (mo_anewHeight : Nat) (mo_anewStrand : Nat) (mo_anewChair : Nat) (mo_anewWeight : Nat) (mo_taped : Int32) (mo_p : Int32) (mo_fault : Int32) (mo_slot : Int32) (mo_rules : Int32) (mo_entries : Int32) (mo_deep : Int32) (mo_counted : Int32) (mo_opened : Int32) (mo_words : Int32) (mo_atape : Nat) (mo_asort : Nat) (mo_anumber : Nat) (mo_aclauses : Nat) (mo_asumAt : Nat) (mo_atestAt : Nat) (mo_aendAt : Nat) (mo_aopen : Nat) (mo_aasked : Nat) (mo_astack : Nat) (mo_amust : Nat) (mo_apast : Nat) (mo_apastOf : Nat) (mo_pastMany : Int32) (mo_pastAt : Int32) (mo_takesBack : Int32) (mo_acanRise : Nat) (mo_afirstHas : Nat) (mo_asecondHas : Nat) (mo_alay : Nat) (mo_ashows : Nat) (mo_aimages : Nat) (mo_aisMade : Nat) (mo_imageAt : Int32) (mo_goesBack : Int32) (mo_rcane : Nat → Int32) (mo_ris : Nat → Int32) (mo_rstrandOf : Nat → Int32) (mo_rweight : Nat → Int32) (mo_rimages : Nat → Int32) (mo_s0 : Int32) (mo_s1 : Int32) (mo_s2 : Int32) (mo_s3 : Int32) (mo_s4 : Int32) (mo_s5 : Int32) (mo_s6 : Int32) (mo_s7 : Int32) (h_mo_taped : iv (0) (400) mo_taped) (h_mo_p : iv (0) (402) mo_p) (h_mo_fault : iv (0) (4000) mo_fault) (h_mo_slot : iv (0) (5) mo_slot) (h_mo_rules : iv (0) (6) mo_rules) (h_mo_entries : iv (0) (300) mo_entries) (h_mo_counted : iv (0) (70) mo_counted) (h_mo_opened : iv (0) (402) mo_opened) (h_mo_words : iv (11) (11) mo_words) (h_mo_pastMany : iv (0) (20) mo_pastMany) (h_mo_pastAt : iv (0) (260) mo_pastAt) (h_mo_takesBack : iv (0) (1) mo_takesBack) (h_mo_imageAt : iv (0) (2000) mo_imageAt) (h_mo_goesBack : iv (0) (1) mo_goesBack) (h_mo_rweight : rowIn (0) (20) mo_rweight) (h_mo_s1 : iv (0) (4) mo_s1) (h_mo_s2 : iv (0) (8) mo_s2) (h_mo_s3 : iv (0) (8) mo_s3) (h_mo_s5 : iv (0) (10) mo_s5) (h_mo_s7 : iv (-1) (5) mo_s7) : CtV l yX9_keepsAll wsX9_keepsAll (rmK 3 0 0) [.ref mo] D k sz ([(mo, .inr (7, [.int mo_thrown, .ref mo_ascalar, .ref mo_acane, .ref mo_ais, .ref mo_astrandOf, .ref mo_aweight, .ref mo_aheight, .ref mo_achairOf, .ref mo_anoteMinute, .ref mo_anoteWho, .ref mo_anoteIs, .ref mo_atoldCane, .ref mo_anewScalar, .ref mo_anewCane, .ref mo_anewHeight, .ref mo_anewStrand, .ref mo_anewChair, .ref mo_anewWeight, .int mo_taped, .int mo_p, .int mo_fault, .int mo_slot, .int mo_rules, .int mo_entries, .int mo_deep, .int mo_counted, .int mo_opened, .int mo_words, .ref mo_atape, .ref mo_asort, .ref mo_anumber, .ref mo_aclauses, .ref mo_asumAt, .ref mo_atestAt, .ref mo_aendAt, .ref mo_aopen, .ref mo_aasked, .ref mo_astack, .ref mo_amust, .ref mo_apast, .ref mo_apastOf, .int mo_pastMany, .int mo_pastAt, .int mo_takesBack, .ref mo_acanRise, .ref mo_afirstHas, .ref mo_asecondHas, .ref mo_alay, .ref mo_ashows, .ref mo_aimages, .ref mo_aisMade, .int mo_imageAt, .int mo_goesBack])), (mo_acane, hcI k 4 mo_rcane), (mo_ais, hcI k 8 mo_ris), (mo_astrandOf, hcI k 8 mo_rstrandOf), (mo_aweight, hcI k 8 mo_rweight), (mo_aimages, hcI k 2000 mo_rimages), (mo_ascalar, hcI k 8 (sc8 mo_s0 mo_s1 mo_s2 mo_s3 mo_s4 mo_s5 mo_s6 mo_s7))]) (fun u : (Int32) × (Int32) × (Nat → Int32) => iv (0) (2000) (u.1) ∧ iv (0) (1) (u.2.1) ∧ (Reg4 (u.2.2) mo_s0 mo_s1 mo_s2 mo_s3 mo_s4 mo_s5 mo_s6 mo_s7 mo_rcane mo_ris mo_rstrandOf mo_rweight ∧ ∀ j : Nat, j < 1600 → (u.2.2) j = mo_rimages j)) (fun u : (Int32) × (Int32) × (Nat → Int32) => [(mo, .inr (7, [.int mo_thrown, .ref mo_ascalar, .ref mo_acane, .ref mo_ais, .ref mo_astrandOf, .ref mo_aweight, .ref mo_aheight, .ref mo_achairOf, .ref mo_anoteMinute, .ref mo_anoteWho, .ref mo_anoteIs, .ref mo_atoldCane, .ref mo_anewScalar, .ref mo_anewCane, .ref mo_anewHeight, .ref mo_anewStrand, .ref mo_anewChair, .ref mo_anewWeight, .int mo_taped, .int mo_p, .int mo_fault, .int mo_slot, .int mo_rules, .int mo_entries, .int mo_deep, .int mo_counted, .int mo_opened, .int mo_words, .ref mo_atape, .ref mo_asort, .ref mo_anumber, .ref mo_aclauses, .ref mo_asumAt, .ref mo_atestAt, .ref mo_aendAt, .ref mo_aopen, .ref mo_aasked, .ref mo_astack, .ref mo_amust, .ref mo_apast, .ref mo_apastOf, .int mo_pastMany, .int mo_pastAt, .int mo_takesBack, .ref mo_acanRise, .ref mo_afirstHas, .ref mo_asecondHas, .ref mo_alay, .ref mo_ashows, .ref mo_aimages, .ref mo_aisMade, .int (u.1), .int (u.2.1)])), (mo_acane, hcI k 4 mo_rcane), (mo_ais, hcI k 8 mo_ris), (mo_astrandOf, hcI k 8 mo_rstrandOf), (mo_aweight, hcI k 8 mo_rweight), (mo_aimages, hcI k 2000 (u.2.2)), (mo_ascalar, hcI k 8 (sc8 mo_s0 mo_s1 mo_s2 mo_s3 mo_s4 mo_s5 mo_s6 mo_s7))]) 0 0 := by
  have h_mo_taped_l := h_mo_taped.1
  have h_mo_taped_u := h_mo_taped.2
  have h_mo_p_l := h_mo_p.1
  have h_mo_p_u := h_mo_p.2
  have h_mo_fault_l := h_mo_fault.1
  have h_mo_fault_u := h_mo_fault.2
  have h_mo_slot_l := h_mo_slot.1
  have h_mo_slot_u := h_mo_slot.2
  have h_mo_rules_l := h_mo_rules.1
  have h_mo_rules_u := h_mo_rules.2
  have h_mo_entries_l := h_mo_entries.1
  have h_mo_entries_u := h_mo_entries.2
  have h_mo_counted_l := h_mo_counted.1
  have h_mo_counted_u := h_mo_counted.2
  have h_mo_opened_l := h_mo_opened.1
  have h_mo_opened_u := h_mo_opened.2
  have h_mo_words_l := h_mo_words.1
  have h_mo_words_u := h_mo_words.2
  have h_mo_pastMany_l := h_mo_pastMany.1
  have h_mo_pastMany_u := h_mo_pastMany.2
  have h_mo_pastAt_l := h_mo_pastAt.1
  have h_mo_pastAt_u := h_mo_pastAt.2
  have h_mo_takesBack_l := h_mo_takesBack.1
  have h_mo_takesBack_u := h_mo_takesBack.2
  have h_mo_imageAt_l := h_mo_imageAt.1
  have h_mo_imageAt_u := h_mo_imageAt.2
  have h_mo_goesBack_l := h_mo_goesBack.1
  have h_mo_goesBack_u := h_mo_goesBack.2
  have h_mo_s1_l := h_mo_s1.1
  have h_mo_s1_u := h_mo_s1.2
  have h_mo_s2_l := h_mo_s2.1
  have h_mo_s2_u := h_mo_s2.2
  have h_mo_s3_l := h_mo_s3.1
  have h_mo_s3_u := h_mo_s3.2
  have h_mo_s5_l := h_mo_s5.1
  have h_mo_s5_u := h_mo_s5.2
  have h_mo_s7_l := h_mo_s7.1
  have h_mo_s7_u := h_mo_s7.2
  refine CtV.mk (cc := cX9_keepsAll) (maxL := 1) (ret := none) (by decide) rfl (Nat.le_of_ble_eq_true rfl) ?_
  intro p e s m below meth c A ls E hP hD hS hl
  obtain ⟨hx, hb, hr, hml, hown, hts, hlocks, hin, hG, hA⟩ := E
  have hown : s.vm.findClass RX9 = some m.cls := hown
  have in9 : ∀ w ∈ u_ws RX9 TX9 53, w ∈ wsX9_keepsAll := fun _ h => List.mem_cons_of_mem _ (List.mem_append_right _ h)
  have hl : lv_has ls 1 [(0, .ref mo)] := hl
  refine lv_aload_n hx hb dX9_keepsAll_0 rfl (lv_at hl 0 rfl) ?_
  refine lv_iconst (v := 4) hx hb dX9_keepsAll_1 (by decide) ?_
  refine lv_iconst (v := 0) hx hb dX9_keepsAll_2 (by decide) ?_
  refine hc_Vv (As := [.int 4, .int 0]) (rest := []) (n := 2) (wr := []) hx hb hml hown hts hG hA hP hD hS hl.1 [0, 1, 2, 3, 4, 5, 6] [] (i_X9_carries_4_0 l D k _ mo mo_thrown mo_ascalar mo_acane mo_ais mo_astrandOf mo_aweight mo_aheight mo_achairOf mo_anoteMinute mo_anoteWho mo_anoteIs mo_atoldCane mo_anewScalar mo_anewCane mo_anewHeight mo_anewStrand mo_anewChair mo_anewWeight mo_taped mo_p mo_fault mo_slot mo_rules mo_entries mo_deep mo_counted mo_opened mo_words mo_atape mo_asort mo_anumber mo_aclauses mo_asumAt mo_atestAt mo_aendAt mo_aopen mo_aasked mo_astack mo_amust mo_apast mo_apastOf mo_pastMany mo_pastAt mo_takesBack mo_acanRise mo_afirstHas mo_asecondHas mo_alay mo_ashows mo_aimages mo_aisMade mo_imageAt mo_goesBack mo_rcane mo_ris mo_rstrandOf mo_rweight mo_rimages mo_s0 mo_s1 mo_s2 mo_s3 mo_s4 mo_s5 mo_s6 mo_s7 ⟨by omega, by omega⟩ ⟨by omega, by omega⟩ ⟨by omega, by omega⟩ ⟨by omega, by omega⟩ ⟨by omega, by omega⟩ ⟨by omega, by omega⟩ ⟨by omega, by omega⟩ ⟨by omega, by omega⟩ ⟨by omega, by omega⟩ ⟨by omega, by omega⟩ ⟨by omega, by omega⟩ ⟨by omega, by omega⟩ ⟨by omega, by omega⟩ ⟨by omega, by omega⟩ h_mo_rweight ⟨by omega, by omega⟩ ⟨by omega, by omega⟩ ⟨by omega, by omega⟩ ⟨by omega, by omega⟩ ⟨by omega, by omega⟩) (ci := 7) (q0 := 0) rfl rfl gX9_keepsAll_X9_carriesAll rfl ⟨rfl, rfl, Nat.le_of_ble_eq_true rfl, Nat.le_of_ble_eq_true rfl⟩ (by decide +kernel) rfl rfl ⟨by decide, by decide, by decide⟩ ⟨rfl, rfl, Nat.le_of_ble_eq_true rfl, Nat.le_of_ble_eq_true rfl, Nat.le_of_ble_eq_true rfl⟩ dX9_keepsAll_3 (fun u1 H locs hw hP hD hS => ?_)
  obtain ⟨w3, w4, w5⟩ := u1
  have hP : va_P D vwCl ([(mo, .inr (7, [.int mo_thrown, .ref mo_ascalar, .ref mo_acane, .ref mo_ais, .ref mo_astrandOf, .ref mo_aweight, .ref mo_aheight, .ref mo_achairOf, .ref mo_anoteMinute, .ref mo_anoteWho, .ref mo_anoteIs, .ref mo_atoldCane, .ref mo_anewScalar, .ref mo_anewCane, .ref mo_anewHeight, .ref mo_anewStrand, .ref mo_anewChair, .ref mo_anewWeight, .int mo_taped, .int mo_p, .int mo_fault, .int mo_slot, .int mo_rules, .int mo_entries, .int mo_deep, .int mo_counted, .int mo_opened, .int mo_words, .ref mo_atape, .ref mo_asort, .ref mo_anumber, .ref mo_aclauses, .ref mo_asumAt, .ref mo_atestAt, .ref mo_aendAt, .ref mo_aopen, .ref mo_aasked, .ref mo_astack, .ref mo_amust, .ref mo_apast, .ref mo_apastOf, .int mo_pastMany, .int mo_pastAt, .int mo_takesBack, .ref mo_acanRise, .ref mo_afirstHas, .ref mo_asecondHas, .ref mo_alay, .ref mo_ashows, .ref mo_aimages, .ref mo_aisMade, .int w3, .int w4])), (mo_acane, hcI k 4 mo_rcane), (mo_ais, hcI k 8 mo_ris), (mo_astrandOf, hcI k 8 mo_rstrandOf), (mo_aweight, hcI k 8 mo_rweight), (mo_aimages, hcI k 2000 w5), (mo_ascalar, hcI k 8 (sc8 mo_s0 mo_s1 mo_s2 mo_s3 mo_s4 mo_s5 mo_s6 mo_s7))]) H := hP
  have hD : va_D A ([(mo, .inr (7, [.int mo_thrown, .ref mo_ascalar, .ref mo_acane, .ref mo_ais, .ref mo_astrandOf, .ref mo_aweight, .ref mo_aheight, .ref mo_achairOf, .ref mo_anoteMinute, .ref mo_anoteWho, .ref mo_anoteIs, .ref mo_atoldCane, .ref mo_anewScalar, .ref mo_anewCane, .ref mo_anewHeight, .ref mo_anewStrand, .ref mo_anewChair, .ref mo_anewWeight, .int mo_taped, .int mo_p, .int mo_fault, .int mo_slot, .int mo_rules, .int mo_entries, .int mo_deep, .int mo_counted, .int mo_opened, .int mo_words, .ref mo_atape, .ref mo_asort, .ref mo_anumber, .ref mo_aclauses, .ref mo_asumAt, .ref mo_atestAt, .ref mo_aendAt, .ref mo_aopen, .ref mo_aasked, .ref mo_astack, .ref mo_amust, .ref mo_apast, .ref mo_apastOf, .int mo_pastMany, .int mo_pastAt, .int mo_takesBack, .ref mo_acanRise, .ref mo_afirstHas, .ref mo_asecondHas, .ref mo_alay, .ref mo_ashows, .ref mo_aimages, .ref mo_aisMade, .int w3, .int w4])), (mo_acane, hcI k 4 mo_rcane), (mo_ais, hcI k 8 mo_ris), (mo_astrandOf, hcI k 8 mo_rstrandOf), (mo_aweight, hcI k 8 mo_rweight), (mo_aimages, hcI k 2000 w5), (mo_ascalar, hcI k 8 (sc8 mo_s0 mo_s1 mo_s2 mo_s3 mo_s4 mo_s5 mo_s6 mo_s7))]) := hD
  have ql7 : (4 : Int32).toInt = 4 := by decide
  have ql8 : (0 : Int32).toInt = 0 := by decide
  obtain ⟨bw3, bw4, rel6⟩ := hw
  have bw3 : iv (0) (2000) w3 := bw3
  have bw3_l := bw3.1
  have bw3_u := bw3.2
  have bw4 : iv (0) (1) w4 := bw4
  have bw4_l := bw4.1
  have bw4_u := bw4.2
  try dsimp only at rel6
  exact hc_endV hx hb hr hlocks (w3, w4, w5) ⟨(show iv (0) (2000) w3 from ⟨by omega, by omega⟩), (show iv (0) (1) w4 from ⟨by omega, by omega⟩), (by (try dsimp only); exact rel6)⟩ hP hD hS dX9_keepsAll_6
set_option maxHeartbeats 4000000 in
set_option maxRecDepth 100000 in
theorem i_X9_laysBack (l : Launch) (D : va_G) (k : Nat → ClassId) (sz : Nat) (gs0 : Int32) (gs1 : Int32) (gs2 : Int32) (gs3 : Int32) (gs4 : Int32) (gs5 : Int32) (gs6 : Int32) (gs7 : Int32) (gca : Nat → Int32) (gis : Nat → Int32) (gso : Nat → Int32) (gw : Nat → Int32) (mo : Nat) (mo_thrown : Int32) (mo_ascalar : Nat) (mo_acane : Nat) (mo_ais : Nat) (mo_astrandOf : Nat) (mo_aweight : Nat) (mo_aheight : Nat) (mo_achairOf : Nat) (mo_anoteMinute : Nat) (mo_anoteWho : Nat) (mo_anoteIs : Nat) (mo_atoldCane : Nat) (mo_anewScalar : Nat) (mo_anewCane : Nat) (mo_anewHeight : Nat) (mo_anewStrand : Nat) (mo_anewChair : Nat) (mo_anewWeight : Nat) (mo_taped : Int32) (mo_p : Int32) (mo_fault : Int32) (mo_slot : Int32) (mo_rules : Int32) (mo_entries : Int32) (mo_deep : Int32) (mo_counted : Int32) (mo_opened : Int32) (mo_words : Int32) (mo_atape : Nat) (mo_asort : Nat) (mo_anumber : Nat) (mo_aclauses : Nat) (mo_asumAt : Nat) (mo_atestAt : Nat) (mo_aendAt : Nat) (mo_aopen : Nat) (mo_aasked : Nat) (mo_astack : Nat) (mo_amust : Nat) (mo_apast : Nat) (mo_apastOf : Nat) (mo_pastMany : Int32) (mo_pastAt : Int32) (mo_takesBack : Int32) (mo_acanRise : Nat) (mo_afirstHas : Nat) (mo_asecondHas : Nat) (mo_alay : Nat) (mo_ashows : Nat) (mo_aimages : Nat) (mo_aisMade : Nat) (mo_imageAt : Int32) (mo_goesBack : Int32) (mo_rcane : Nat → Int32) (mo_ris : Nat → Int32) (mo_rstrandOf : Nat → Int32) (mo_rweight : Nat → Int32) (mo_rimages : Nat → Int32) (mo_s0 : Int32) (mo_s1 : Int32) (mo_s2 : Int32) (mo_s3 : Int32) (mo_s4 : Int32) (mo_s5 : Int32) (mo_s6 : Int32) (mo_s7 : Int32) (h_mo_taped : iv (0) (400) mo_taped) (h_mo_p : iv (0) (402) mo_p) (h_mo_fault : iv (0) (4000) mo_fault) (h_mo_slot : iv (0) (5) mo_slot) (h_mo_rules : iv (0) (6) mo_rules) (h_mo_entries : iv (0) (300) mo_entries) (h_mo_counted : iv (0) (70) mo_counted) (h_mo_opened : iv (0) (402) mo_opened) (h_mo_words : iv (11) (11) mo_words) (h_mo_pastMany : iv (0) (20) mo_pastMany) (h_mo_pastAt : iv (0) (260) mo_pastAt) (h_mo_takesBack : iv (0) (1) mo_takesBack) (h_mo_imageAt : iv (0) (2000) mo_imageAt) (h_mo_goesBack : iv (0) (1) mo_goesBack) (h_mo_rweight : rowIn (0) (20) mo_rweight) (h_mo_s1 : iv (0) (4) mo_s1) (h_mo_s2 : iv (0) (8) mo_s2) (h_mo_s3 : iv (0) (8) mo_s3) (h_mo_s5 : iv (0) (10) mo_s5) (h_mo_s7 : iv (-1) (5) mo_s7) (hg_reg : Reg4 mo_rimages gs0 gs1 gs2 gs3 gs4 gs5 gs6 gs7 gca gis gso gw) : CtV l yX9_laysBack wsX9_laysBack (rmK 3 0 0) [.ref mo] D k sz ([(mo, .inr (7, [.int mo_thrown, .ref mo_ascalar, .ref mo_acane, .ref mo_ais, .ref mo_astrandOf, .ref mo_aweight, .ref mo_aheight, .ref mo_achairOf, .ref mo_anoteMinute, .ref mo_anoteWho, .ref mo_anoteIs, .ref mo_atoldCane, .ref mo_anewScalar, .ref mo_anewCane, .ref mo_anewHeight, .ref mo_anewStrand, .ref mo_anewChair, .ref mo_anewWeight, .int mo_taped, .int mo_p, .int mo_fault, .int mo_slot, .int mo_rules, .int mo_entries, .int mo_deep, .int mo_counted, .int mo_opened, .int mo_words, .ref mo_atape, .ref mo_asort, .ref mo_anumber, .ref mo_aclauses, .ref mo_asumAt, .ref mo_atestAt, .ref mo_aendAt, .ref mo_aopen, .ref mo_aasked, .ref mo_astack, .ref mo_amust, .ref mo_apast, .ref mo_apastOf, .int mo_pastMany, .int mo_pastAt, .int mo_takesBack, .ref mo_acanRise, .ref mo_afirstHas, .ref mo_asecondHas, .ref mo_alay, .ref mo_ashows, .ref mo_aimages, .ref mo_aisMade, .int mo_imageAt, .int mo_goesBack])), (mo_acane, hcI k 4 mo_rcane), (mo_ais, hcI k 8 mo_ris), (mo_astrandOf, hcI k 8 mo_rstrandOf), (mo_aweight, hcI k 8 mo_rweight), (mo_aimages, hcI k 2000 mo_rimages), (mo_ascalar, hcI k 8 (sc8 mo_s0 mo_s1 mo_s2 mo_s3 mo_s4 mo_s5 mo_s6 mo_s7))]) (fun u : (Int32) × (Int32) => iv (0) (2000) (u.1) ∧ iv (0) (1) (u.2)) (fun u : (Int32) × (Int32) => [(mo, .inr (7, [.int mo_thrown, .ref mo_ascalar, .ref mo_acane, .ref mo_ais, .ref mo_astrandOf, .ref mo_aweight, .ref mo_aheight, .ref mo_achairOf, .ref mo_anoteMinute, .ref mo_anoteWho, .ref mo_anoteIs, .ref mo_atoldCane, .ref mo_anewScalar, .ref mo_anewCane, .ref mo_anewHeight, .ref mo_anewStrand, .ref mo_anewChair, .ref mo_anewWeight, .int mo_taped, .int mo_p, .int mo_fault, .int mo_slot, .int mo_rules, .int mo_entries, .int mo_deep, .int mo_counted, .int mo_opened, .int mo_words, .ref mo_atape, .ref mo_asort, .ref mo_anumber, .ref mo_aclauses, .ref mo_asumAt, .ref mo_atestAt, .ref mo_aendAt, .ref mo_aopen, .ref mo_aasked, .ref mo_astack, .ref mo_amust, .ref mo_apast, .ref mo_apastOf, .int mo_pastMany, .int mo_pastAt, .int mo_takesBack, .ref mo_acanRise, .ref mo_afirstHas, .ref mo_asecondHas, .ref mo_alay, .ref mo_ashows, .ref mo_aimages, .ref mo_aisMade, .int (u.1), .int (u.2)])), (mo_acane, hcI k 4 gca), (mo_ais, hcI k 8 gis), (mo_astrandOf, hcI k 8 gso), (mo_aweight, hcI k 8 gw), (mo_aimages, hcI k 2000 mo_rimages), (mo_ascalar, hcI k 8 (sc8 gs0 gs1 gs2 gs3 gs4 gs5 gs6 gs7))]) 0 0 := by
  have h_mo_taped_l := h_mo_taped.1
  have h_mo_taped_u := h_mo_taped.2
  have h_mo_p_l := h_mo_p.1
  have h_mo_p_u := h_mo_p.2
  have h_mo_fault_l := h_mo_fault.1
  have h_mo_fault_u := h_mo_fault.2
  have h_mo_slot_l := h_mo_slot.1
  have h_mo_slot_u := h_mo_slot.2
  have h_mo_rules_l := h_mo_rules.1
  have h_mo_rules_u := h_mo_rules.2
  have h_mo_entries_l := h_mo_entries.1
  have h_mo_entries_u := h_mo_entries.2
  have h_mo_counted_l := h_mo_counted.1
  have h_mo_counted_u := h_mo_counted.2
  have h_mo_opened_l := h_mo_opened.1
  have h_mo_opened_u := h_mo_opened.2
  have h_mo_words_l := h_mo_words.1
  have h_mo_words_u := h_mo_words.2
  have h_mo_pastMany_l := h_mo_pastMany.1
  have h_mo_pastMany_u := h_mo_pastMany.2
  have h_mo_pastAt_l := h_mo_pastAt.1
  have h_mo_pastAt_u := h_mo_pastAt.2
  have h_mo_takesBack_l := h_mo_takesBack.1
  have h_mo_takesBack_u := h_mo_takesBack.2
  have h_mo_imageAt_l := h_mo_imageAt.1
  have h_mo_imageAt_u := h_mo_imageAt.2
  have h_mo_goesBack_l := h_mo_goesBack.1
  have h_mo_goesBack_u := h_mo_goesBack.2
  have h_mo_s1_l := h_mo_s1.1
  have h_mo_s1_u := h_mo_s1.2
  have h_mo_s2_l := h_mo_s2.1
  have h_mo_s2_u := h_mo_s2.2
  have h_mo_s3_l := h_mo_s3.1
  have h_mo_s3_u := h_mo_s3.2
  have h_mo_s5_l := h_mo_s5.1
  have h_mo_s5_u := h_mo_s5.2
  have h_mo_s7_l := h_mo_s7.1
  have h_mo_s7_u := h_mo_s7.2
  refine CtV.mk (cc := cX9_laysBack) (maxL := 1) (ret := none) (by decide) rfl (Nat.le_of_ble_eq_true rfl) ?_
  intro p e s m below meth c A ls E hP hD hS hl
  obtain ⟨hx, hb, hr, hml, hown, hts, hlocks, hin, hG, hA⟩ := E
  have hown : s.vm.findClass RX9 = some m.cls := hown
  have in9 : ∀ w ∈ u_ws RX9 TX9 53, w ∈ wsX9_laysBack := fun _ h => List.mem_cons_of_mem _ (List.mem_append_right _ h)
  have hl : lv_has ls 1 [(0, .ref mo)] := hl
  refine lv_aload_n hx hb dX9_laysBack_0 rfl (lv_at hl 0 rfl) ?_
  refine lv_iconst (v := 4) hx hb dX9_laysBack_1 (by decide) ?_
  refine lv_iconst (v := 1) hx hb dX9_laysBack_2 (by decide) ?_
  refine hc_Vv (As := [.int 4, .int 1]) (rest := []) (n := 2) (wr := []) hx hb hml hown hts hG hA hP hD hS hl.1 [0, 1, 2, 3, 4, 5, 6] [] (i_X9_carries_4_1 l D k _ gs0 gs1 gs2 gs3 gs4 gs5 gs6 gs7 gca gis gso gw mo mo_thrown mo_ascalar mo_acane mo_ais mo_astrandOf mo_aweight mo_aheight mo_achairOf mo_anoteMinute mo_anoteWho mo_anoteIs mo_atoldCane mo_anewScalar mo_anewCane mo_anewHeight mo_anewStrand mo_anewChair mo_anewWeight mo_taped mo_p mo_fault mo_slot mo_rules mo_entries mo_deep mo_counted mo_opened mo_words mo_atape mo_asort mo_anumber mo_aclauses mo_asumAt mo_atestAt mo_aendAt mo_aopen mo_aasked mo_astack mo_amust mo_apast mo_apastOf mo_pastMany mo_pastAt mo_takesBack mo_acanRise mo_afirstHas mo_asecondHas mo_alay mo_ashows mo_aimages mo_aisMade mo_imageAt mo_goesBack mo_rcane mo_ris mo_rstrandOf mo_rweight mo_rimages mo_s0 mo_s1 mo_s2 mo_s3 mo_s4 mo_s5 mo_s6 mo_s7 ⟨by omega, by omega⟩ ⟨by omega, by omega⟩ ⟨by omega, by omega⟩ ⟨by omega, by omega⟩ ⟨by omega, by omega⟩ ⟨by omega, by omega⟩ ⟨by omega, by omega⟩ ⟨by omega, by omega⟩ ⟨by omega, by omega⟩ ⟨by omega, by omega⟩ ⟨by omega, by omega⟩ ⟨by omega, by omega⟩ ⟨by omega, by omega⟩ ⟨by omega, by omega⟩ h_mo_rweight ⟨by omega, by omega⟩ ⟨by omega, by omega⟩ ⟨by omega, by omega⟩ ⟨by omega, by omega⟩ ⟨by omega, by omega⟩ (hg_reg)) (ci := 7) (q0 := 0) rfl rfl gX9_laysBack_X9_carriesAll rfl ⟨rfl, rfl, Nat.le_of_ble_eq_true rfl, Nat.le_of_ble_eq_true rfl⟩ (by decide +kernel) rfl rfl ⟨by decide, by decide, by decide⟩ ⟨rfl, rfl, Nat.le_of_ble_eq_true rfl, Nat.le_of_ble_eq_true rfl, Nat.le_of_ble_eq_true rfl⟩ dX9_laysBack_3 (fun u1 H locs hw hP hD hS => ?_)
  obtain ⟨w3, w4⟩ := u1
  have hP : va_P D vwCl ([(mo, .inr (7, [.int mo_thrown, .ref mo_ascalar, .ref mo_acane, .ref mo_ais, .ref mo_astrandOf, .ref mo_aweight, .ref mo_aheight, .ref mo_achairOf, .ref mo_anoteMinute, .ref mo_anoteWho, .ref mo_anoteIs, .ref mo_atoldCane, .ref mo_anewScalar, .ref mo_anewCane, .ref mo_anewHeight, .ref mo_anewStrand, .ref mo_anewChair, .ref mo_anewWeight, .int mo_taped, .int mo_p, .int mo_fault, .int mo_slot, .int mo_rules, .int mo_entries, .int mo_deep, .int mo_counted, .int mo_opened, .int mo_words, .ref mo_atape, .ref mo_asort, .ref mo_anumber, .ref mo_aclauses, .ref mo_asumAt, .ref mo_atestAt, .ref mo_aendAt, .ref mo_aopen, .ref mo_aasked, .ref mo_astack, .ref mo_amust, .ref mo_apast, .ref mo_apastOf, .int mo_pastMany, .int mo_pastAt, .int mo_takesBack, .ref mo_acanRise, .ref mo_afirstHas, .ref mo_asecondHas, .ref mo_alay, .ref mo_ashows, .ref mo_aimages, .ref mo_aisMade, .int w3, .int w4])), (mo_acane, hcI k 4 gca), (mo_ais, hcI k 8 gis), (mo_astrandOf, hcI k 8 gso), (mo_aweight, hcI k 8 gw), (mo_aimages, hcI k 2000 mo_rimages), (mo_ascalar, hcI k 8 (sc8 gs0 gs1 gs2 gs3 gs4 gs5 gs6 gs7))]) H := hP
  have hD : va_D A ([(mo, .inr (7, [.int mo_thrown, .ref mo_ascalar, .ref mo_acane, .ref mo_ais, .ref mo_astrandOf, .ref mo_aweight, .ref mo_aheight, .ref mo_achairOf, .ref mo_anoteMinute, .ref mo_anoteWho, .ref mo_anoteIs, .ref mo_atoldCane, .ref mo_anewScalar, .ref mo_anewCane, .ref mo_anewHeight, .ref mo_anewStrand, .ref mo_anewChair, .ref mo_anewWeight, .int mo_taped, .int mo_p, .int mo_fault, .int mo_slot, .int mo_rules, .int mo_entries, .int mo_deep, .int mo_counted, .int mo_opened, .int mo_words, .ref mo_atape, .ref mo_asort, .ref mo_anumber, .ref mo_aclauses, .ref mo_asumAt, .ref mo_atestAt, .ref mo_aendAt, .ref mo_aopen, .ref mo_aasked, .ref mo_astack, .ref mo_amust, .ref mo_apast, .ref mo_apastOf, .int mo_pastMany, .int mo_pastAt, .int mo_takesBack, .ref mo_acanRise, .ref mo_afirstHas, .ref mo_asecondHas, .ref mo_alay, .ref mo_ashows, .ref mo_aimages, .ref mo_aisMade, .int w3, .int w4])), (mo_acane, hcI k 4 gca), (mo_ais, hcI k 8 gis), (mo_astrandOf, hcI k 8 gso), (mo_aweight, hcI k 8 gw), (mo_aimages, hcI k 2000 mo_rimages), (mo_ascalar, hcI k 8 (sc8 gs0 gs1 gs2 gs3 gs4 gs5 gs6 gs7))]) := hD
  obtain ⟨bw3, bw4⟩ := hw
  have bw3 : iv (0) (2000) w3 := bw3
  have bw3_l := bw3.1
  have bw3_u := bw3.2
  have bw4 : iv (0) (1) w4 := bw4
  have bw4_l := bw4.1
  have bw4_u := bw4.2
  exact hc_endV hx hb hr hlocks (w3, w4) ⟨(show iv (0) (2000) w3 from ⟨by omega, by omega⟩), (show iv (0) (1) w4 from ⟨by omega, by omega⟩)⟩ hP hD hS dX9_laysBack_6
set_option maxHeartbeats 4000000 in
set_option maxRecDepth 100000 in
theorem i_X9_truth (l : Launch) (D : va_G) (k : Nat → ClassId) (sz : Nat) (x1 : Int32)  : CtL l yX9_truth wsX9_truth (rmK 1 0 0) [.int x1] D k sz ([]) (fun (r : Int64) (u : Unit) => True) (fun u : Unit => []) 0 0 := by
  refine CtL.mk (cc := cX9_truth) (maxL := 1) (ret := (some .long)) (by decide) rfl (Nat.le_of_ble_eq_true rfl) ?_
  intro p e s m below meth c A ls E hP hD hS hl
  obtain ⟨hx, hb, hr, hml, hown, hts, hlocks, hin, hG, hA⟩ := E
  have hown : s.vm.findClass RX9 = some m.cls := hown
  have hl : lv_has ls 1 [(0, .int x1)] := hl
  refine lv_iload_n hx hb dX9_truth_0 rfl (lv_at hl 0 rfl) ?_
  refine lv_if_eq (tgt := 8) hx hb dX9_truth_1 (by decide) (fun c1 => ?_) (fun c1 => ?_)
  · have fc1 := cx_eq_t (a := x1.toInt) (b := 0) rfl (by decide) c1
    refine lv_lconst (v := 0) hx hb dX9_truth_8 (by decide) ?_
    exact hc_endL hx hb hr hlocks () trivial hP hD hS dX9_truth_9
  · have fc1 := cx_eq_f (a := x1.toInt) (b := 0) rfl (by decide) c1
    refine lv_lconst (v := 1) hx hb dX9_truth_4 (by decide) ?_
    refine lv_goto (tgt := 9) hx hb dX9_truth_5 (by decide) ?_
    exact hc_endL hx hb hr hlocks () trivial hP hD hS dX9_truth_9
set_option maxHeartbeats 4000000 in
set_option maxRecDepth 100000 in
theorem i_X9_both (l : Launch) (D : va_G) (k : Nat → ClassId) (sz : Nat) (x1 : Int32) (y1 : Int64) (y2 : Int64)  : CtL l yX9_both wsX9_both (rmK 2 0 0) [.int x1, .long y1, .long y2] D k sz ([]) (fun (r : Int64) (u : Unit) => True) (fun u : Unit => []) 0 0 := by
  refine CtL.mk (cc := cX9_both) (maxL := 5) (ret := (some .long)) (by decide) rfl (Nat.le_of_ble_eq_true rfl) ?_
  intro p e s m below meth c A ls E hP hD hS hl
  obtain ⟨hx, hb, hr, hml, hown, hts, hlocks, hin, hG, hA⟩ := E
  have hown : s.vm.findClass RX9 = some m.cls := hown
  have hl : lv_has ls 5 [(0, .int x1), (1, .long y1), (3, .long y2)] := hl
  refine lv_iload_n hx hb dX9_both_0 rfl (lv_at hl 0 rfl) ?_
  rcases (show (x1.toInt = 2) ∨ (x1.toInt = 3) ∨ (x1.toInt = 4) ∨ (x1.toInt = 5) ∨ (x1.toInt = 6) ∨ (x1.toInt = 7) ∨ (x1.toInt = 8) ∨ (x1.toInt = 9 ∨ x1.toInt = 11 ∨ x1.toInt = 12) ∨ (x1.toInt = 10) ∨ (x1.toInt = 13) ∨ (x1.toInt = 14) ∨ (x1.toInt = 15) ∨ (x1.toInt < 2 ∨ 15 < x1.toInt) from by omega) with s1 | s1 | s1 | s1 | s1 | s1 | s1 | s1 | s1 | s1 | s1 | s1 | s1
  · refine lv_tableIn (off := 71) (tgt := 72) hx hb dX9_both_1 (by omega) (by omega) (by rw [s1]; rfl) (by decide) ?_
    refine lv_lload_n hx hb dX9_both_72 rfl (lv_at hl 1 rfl) ?_
    refine lv_lload_n hx hb dX9_both_73 rfl (lv_at hl 2 rfl) ?_
    refine lv_ladd hx hb dX9_both_74 ?_
    refine lv_topl (fun y2 ey2 => ?_)
    exact hc_endL hx hb hr hlocks () trivial hP hD hS dX9_both_75
  · refine lv_tableIn (off := 75) (tgt := 76) hx hb dX9_both_1 (by omega) (by omega) (by rw [s1]; rfl) (by decide) ?_
    refine lv_lload_n hx hb dX9_both_76 rfl (lv_at hl 1 rfl) ?_
    refine lv_lload_n hx hb dX9_both_77 rfl (lv_at hl 2 rfl) ?_
    refine lv_lsub hx hb dX9_both_78 ?_
    refine lv_topl (fun y3 ey3 => ?_)
    exact hc_endL hx hb hr hlocks () trivial hP hD hS dX9_both_79
  · refine lv_tableIn (off := 111) (tgt := 112) hx hb dX9_both_1 (by omega) (by omega) (by rw [s1]; rfl) (by decide) ?_
    refine lv_lload_n hx hb dX9_both_112 rfl (lv_at hl 1 rfl) ?_
    refine lv_lload_n hx hb dX9_both_113 rfl (lv_at hl 2 rfl) ?_
    refine W.lcmp hx hb dX9_both_114 ?_
    refine lv_topi (fun z4 ez4 => ?_)
    have tz4 := lcmp_rel (a := y1.toInt) (b := y2.toInt) rfl rfl ez4
    refine lv_if_ge (tgt := 122) hx hb dX9_both_115 (by decide) (fun c5 => ?_) (fun c5 => ?_)
    · have fc5 := cx_ge_t (a := z4.toInt) (b := 0) rfl (by decide) c5
      refine lv_iconst (v := 0) hx hb dX9_both_122 (by decide) ?_
      refine hc_Sl (As := [.int 0]) (rest := []) (n := 1) (wr := []) hx hb hml hown hts hG hA hP hD hS hl.1 [] [] (i_X9_truth l D k _ 0 ) gX9_both_X9_truth rfl ⟨rfl, rfl, Nat.le_of_ble_eq_true rfl, Nat.le_of_ble_eq_true rfl⟩ (by decide +kernel) rfl rfl ⟨by decide, by decide, by decide⟩ ⟨rfl, rfl, Nat.le_of_ble_eq_true rfl, Nat.le_of_ble_eq_true rfl, Nat.le_of_ble_eq_true rfl⟩ dX9_both_123 (fun r7 u6 H locs hw hP hD hS => ?_)
      have hP : va_P D vwCl ([]) H := hP
      have hD : va_D A ([]) := hD
      exact hc_endL hx hb hr hlocks () trivial hP hD hS dX9_both_126
    · have fc5 := cx_ge_f (a := z4.toInt) (b := 0) rfl (by decide) c5
      refine lv_iconst (v := 1) hx hb dX9_both_118 (by decide) ?_
      refine lv_goto (tgt := 123) hx hb dX9_both_119 (by decide) ?_
      refine hc_Sl (As := [.int 1]) (rest := []) (n := 1) (wr := []) hx hb hml hown hts hG hA hP hD hS hl.1 [] [] (i_X9_truth l D k _ 1 ) gX9_both_X9_truth rfl ⟨rfl, rfl, Nat.le_of_ble_eq_true rfl, Nat.le_of_ble_eq_true rfl⟩ (by decide +kernel) rfl rfl ⟨by decide, by decide, by decide⟩ ⟨rfl, rfl, Nat.le_of_ble_eq_true rfl, Nat.le_of_ble_eq_true rfl, Nat.le_of_ble_eq_true rfl⟩ dX9_both_123 (fun r9 u8 H locs hw hP hD hS => ?_)
      have hP : va_P D vwCl ([]) H := hP
      have hD : va_D A ([]) := hD
      exact hc_endL hx hb hr hlocks () trivial hP hD hS dX9_both_126
  · refine lv_tableIn (off := 126) (tgt := 127) hx hb dX9_both_1 (by omega) (by omega) (by rw [s1]; rfl) (by decide) ?_
    refine lv_lload_n hx hb dX9_both_127 rfl (lv_at hl 1 rfl) ?_
    refine lv_lload_n hx hb dX9_both_128 rfl (lv_at hl 2 rfl) ?_
    refine W.lcmp hx hb dX9_both_129 ?_
    refine lv_topi (fun z10 ez10 => ?_)
    have tz10 := lcmp_rel (a := y1.toInt) (b := y2.toInt) rfl rfl ez10
    refine lv_if_gt (tgt := 137) hx hb dX9_both_130 (by decide) (fun c11 => ?_) (fun c11 => ?_)
    · have fc11 := cx_gt_t (a := z10.toInt) (b := 0) rfl (by decide) c11
      refine lv_iconst (v := 0) hx hb dX9_both_137 (by decide) ?_
      refine hc_Sl (As := [.int 0]) (rest := []) (n := 1) (wr := []) hx hb hml hown hts hG hA hP hD hS hl.1 [] [] (i_X9_truth l D k _ 0 ) gX9_both_X9_truth rfl ⟨rfl, rfl, Nat.le_of_ble_eq_true rfl, Nat.le_of_ble_eq_true rfl⟩ (by decide +kernel) rfl rfl ⟨by decide, by decide, by decide⟩ ⟨rfl, rfl, Nat.le_of_ble_eq_true rfl, Nat.le_of_ble_eq_true rfl, Nat.le_of_ble_eq_true rfl⟩ dX9_both_138 (fun r13 u12 H locs hw hP hD hS => ?_)
      have hP : va_P D vwCl ([]) H := hP
      have hD : va_D A ([]) := hD
      exact hc_endL hx hb hr hlocks () trivial hP hD hS dX9_both_141
    · have fc11 := cx_gt_f (a := z10.toInt) (b := 0) rfl (by decide) c11
      refine lv_iconst (v := 1) hx hb dX9_both_133 (by decide) ?_
      refine lv_goto (tgt := 138) hx hb dX9_both_134 (by decide) ?_
      refine hc_Sl (As := [.int 1]) (rest := []) (n := 1) (wr := []) hx hb hml hown hts hG hA hP hD hS hl.1 [] [] (i_X9_truth l D k _ 1 ) gX9_both_X9_truth rfl ⟨rfl, rfl, Nat.le_of_ble_eq_true rfl, Nat.le_of_ble_eq_true rfl⟩ (by decide +kernel) rfl rfl ⟨by decide, by decide, by decide⟩ ⟨rfl, rfl, Nat.le_of_ble_eq_true rfl, Nat.le_of_ble_eq_true rfl, Nat.le_of_ble_eq_true rfl⟩ dX9_both_138 (fun r15 u14 H locs hw hP hD hS => ?_)
      have hP : va_P D vwCl ([]) H := hP
      have hD : va_D A ([]) := hD
      exact hc_endL hx hb hr hlocks () trivial hP hD hS dX9_both_141
  · refine lv_tableIn (off := 141) (tgt := 142) hx hb dX9_both_1 (by omega) (by omega) (by rw [s1]; rfl) (by decide) ?_
    refine lv_lload_n hx hb dX9_both_142 rfl (lv_at hl 1 rfl) ?_
    refine lv_lload_n hx hb dX9_both_143 rfl (lv_at hl 2 rfl) ?_
    refine W.lcmp hx hb dX9_both_144 ?_
    refine lv_topi (fun z16 ez16 => ?_)
    have tz16 := lcmp_rel (a := y1.toInt) (b := y2.toInt) rfl rfl ez16
    refine lv_if_ne (tgt := 152) hx hb dX9_both_145 (by decide) (fun c17 => ?_) (fun c17 => ?_)
    · have fc17 := cx_ne_t (a := z16.toInt) (b := 0) rfl (by decide) c17
      refine lv_iconst (v := 0) hx hb dX9_both_152 (by decide) ?_
      refine hc_Sl (As := [.int 0]) (rest := []) (n := 1) (wr := []) hx hb hml hown hts hG hA hP hD hS hl.1 [] [] (i_X9_truth l D k _ 0 ) gX9_both_X9_truth rfl ⟨rfl, rfl, Nat.le_of_ble_eq_true rfl, Nat.le_of_ble_eq_true rfl⟩ (by decide +kernel) rfl rfl ⟨by decide, by decide, by decide⟩ ⟨rfl, rfl, Nat.le_of_ble_eq_true rfl, Nat.le_of_ble_eq_true rfl, Nat.le_of_ble_eq_true rfl⟩ dX9_both_153 (fun r19 u18 H locs hw hP hD hS => ?_)
      have hP : va_P D vwCl ([]) H := hP
      have hD : va_D A ([]) := hD
      exact hc_endL hx hb hr hlocks () trivial hP hD hS dX9_both_156
    · have fc17 := cx_ne_f (a := z16.toInt) (b := 0) rfl (by decide) c17
      refine lv_iconst (v := 1) hx hb dX9_both_148 (by decide) ?_
      refine lv_goto (tgt := 153) hx hb dX9_both_149 (by decide) ?_
      refine hc_Sl (As := [.int 1]) (rest := []) (n := 1) (wr := []) hx hb hml hown hts hG hA hP hD hS hl.1 [] [] (i_X9_truth l D k _ 1 ) gX9_both_X9_truth rfl ⟨rfl, rfl, Nat.le_of_ble_eq_true rfl, Nat.le_of_ble_eq_true rfl⟩ (by decide +kernel) rfl rfl ⟨by decide, by decide, by decide⟩ ⟨rfl, rfl, Nat.le_of_ble_eq_true rfl, Nat.le_of_ble_eq_true rfl, Nat.le_of_ble_eq_true rfl⟩ dX9_both_153 (fun r21 u20 H locs hw hP hD hS => ?_)
      have hP : va_P D vwCl ([]) H := hP
      have hD : va_D A ([]) := hD
      exact hc_endL hx hb hr hlocks () trivial hP hD hS dX9_both_156
  · refine lv_tableIn (off := 156) (tgt := 157) hx hb dX9_both_1 (by omega) (by omega) (by rw [s1]; rfl) (by decide) ?_
    refine lv_lload_n hx hb dX9_both_157 rfl (lv_at hl 1 rfl) ?_
    refine lv_lload_n hx hb dX9_both_158 rfl (lv_at hl 2 rfl) ?_
    refine W.lcmp hx hb dX9_both_159 ?_
    refine lv_topi (fun z22 ez22 => ?_)
    have tz22 := lcmp_rel (a := y1.toInt) (b := y2.toInt) rfl rfl ez22
    refine lv_if_lt (tgt := 167) hx hb dX9_both_160 (by decide) (fun c23 => ?_) (fun c23 => ?_)
    · have fc23 := cx_lt_t (a := z22.toInt) (b := 0) rfl (by decide) c23
      refine lv_iconst (v := 0) hx hb dX9_both_167 (by decide) ?_
      refine hc_Sl (As := [.int 0]) (rest := []) (n := 1) (wr := []) hx hb hml hown hts hG hA hP hD hS hl.1 [] [] (i_X9_truth l D k _ 0 ) gX9_both_X9_truth rfl ⟨rfl, rfl, Nat.le_of_ble_eq_true rfl, Nat.le_of_ble_eq_true rfl⟩ (by decide +kernel) rfl rfl ⟨by decide, by decide, by decide⟩ ⟨rfl, rfl, Nat.le_of_ble_eq_true rfl, Nat.le_of_ble_eq_true rfl, Nat.le_of_ble_eq_true rfl⟩ dX9_both_168 (fun r25 u24 H locs hw hP hD hS => ?_)
      have hP : va_P D vwCl ([]) H := hP
      have hD : va_D A ([]) := hD
      exact hc_endL hx hb hr hlocks () trivial hP hD hS dX9_both_171
    · have fc23 := cx_lt_f (a := z22.toInt) (b := 0) rfl (by decide) c23
      refine lv_iconst (v := 1) hx hb dX9_both_163 (by decide) ?_
      refine lv_goto (tgt := 168) hx hb dX9_both_164 (by decide) ?_
      refine hc_Sl (As := [.int 1]) (rest := []) (n := 1) (wr := []) hx hb hml hown hts hG hA hP hD hS hl.1 [] [] (i_X9_truth l D k _ 1 ) gX9_both_X9_truth rfl ⟨rfl, rfl, Nat.le_of_ble_eq_true rfl, Nat.le_of_ble_eq_true rfl⟩ (by decide +kernel) rfl rfl ⟨by decide, by decide, by decide⟩ ⟨rfl, rfl, Nat.le_of_ble_eq_true rfl, Nat.le_of_ble_eq_true rfl, Nat.le_of_ble_eq_true rfl⟩ dX9_both_168 (fun r27 u26 H locs hw hP hD hS => ?_)
      have hP : va_P D vwCl ([]) H := hP
      have hD : va_D A ([]) := hD
      exact hc_endL hx hb hr hlocks () trivial hP hD hS dX9_both_171
  · refine lv_tableIn (off := 171) (tgt := 172) hx hb dX9_both_1 (by omega) (by omega) (by rw [s1]; rfl) (by decide) ?_
    refine lv_lload_n hx hb dX9_both_172 rfl (lv_at hl 1 rfl) ?_
    refine lv_lload_n hx hb dX9_both_173 rfl (lv_at hl 2 rfl) ?_
    refine W.lcmp hx hb dX9_both_174 ?_
    refine lv_topi (fun z28 ez28 => ?_)
    have tz28 := lcmp_rel (a := y1.toInt) (b := y2.toInt) rfl rfl ez28
    refine lv_if_le (tgt := 182) hx hb dX9_both_175 (by decide) (fun c29 => ?_) (fun c29 => ?_)
    · have fc29 := cx_le_t (a := z28.toInt) (b := 0) rfl (by decide) c29
      refine lv_iconst (v := 0) hx hb dX9_both_182 (by decide) ?_
      refine hc_Sl (As := [.int 0]) (rest := []) (n := 1) (wr := []) hx hb hml hown hts hG hA hP hD hS hl.1 [] [] (i_X9_truth l D k _ 0 ) gX9_both_X9_truth rfl ⟨rfl, rfl, Nat.le_of_ble_eq_true rfl, Nat.le_of_ble_eq_true rfl⟩ (by decide +kernel) rfl rfl ⟨by decide, by decide, by decide⟩ ⟨rfl, rfl, Nat.le_of_ble_eq_true rfl, Nat.le_of_ble_eq_true rfl, Nat.le_of_ble_eq_true rfl⟩ dX9_both_183 (fun r31 u30 H locs hw hP hD hS => ?_)
      have hP : va_P D vwCl ([]) H := hP
      have hD : va_D A ([]) := hD
      exact hc_endL hx hb hr hlocks () trivial hP hD hS dX9_both_186
    · have fc29 := cx_le_f (a := z28.toInt) (b := 0) rfl (by decide) c29
      refine lv_iconst (v := 1) hx hb dX9_both_178 (by decide) ?_
      refine lv_goto (tgt := 183) hx hb dX9_both_179 (by decide) ?_
      refine hc_Sl (As := [.int 1]) (rest := []) (n := 1) (wr := []) hx hb hml hown hts hG hA hP hD hS hl.1 [] [] (i_X9_truth l D k _ 1 ) gX9_both_X9_truth rfl ⟨rfl, rfl, Nat.le_of_ble_eq_true rfl, Nat.le_of_ble_eq_true rfl⟩ (by decide +kernel) rfl rfl ⟨by decide, by decide, by decide⟩ ⟨rfl, rfl, Nat.le_of_ble_eq_true rfl, Nat.le_of_ble_eq_true rfl, Nat.le_of_ble_eq_true rfl⟩ dX9_both_183 (fun r33 u32 H locs hw hP hD hS => ?_)
      have hP : va_P D vwCl ([]) H := hP
      have hD : va_D A ([]) := hD
      exact hc_endL hx hb hr hlocks () trivial hP hD hS dX9_both_186
  · refine lv_tableIn (off := 190) (tgt := 191) hx hb dX9_both_1 (by omega) (by omega) (by rcases s1 with s1 | s1 | s1 <;> rw [s1] <;> rfl) (by decide) ?_
    refine lv_lload_n hx hb dX9_both_191 rfl (lv_at hl 1 rfl) ?_
    refine lv_lload_n hx hb dX9_both_192 rfl (lv_at hl 2 rfl) ?_
    refine lv_lor hx hb dX9_both_193 ?_
    refine lv_topl (fun y34 ey34 => ?_)
    exact hc_endL hx hb hr hlocks () trivial hP hD hS dX9_both_194
  · refine lv_tableIn (off := 186) (tgt := 187) hx hb dX9_both_1 (by omega) (by omega) (by rw [s1]; rfl) (by decide) ?_
    refine lv_lload_n hx hb dX9_both_187 rfl (lv_at hl 1 rfl) ?_
    refine lv_lload_n hx hb dX9_both_188 rfl (lv_at hl 2 rfl) ?_
    refine lv_land hx hb dX9_both_189 ?_
    refine lv_topl (fun y35 ey35 => ?_)
    exact hc_endL hx hb hr hlocks () trivial hP hD hS dX9_both_190
  · refine lv_tableIn (off := 79) (tgt := 80) hx hb dX9_both_1 (by omega) (by omega) (by rw [s1]; rfl) (by decide) ?_
    refine lv_lload_n hx hb dX9_both_80 rfl (lv_at hl 1 rfl) ?_
    refine lv_lload_n hx hb dX9_both_81 rfl (lv_at hl 2 rfl) ?_
    refine lv_lmul hx hb dX9_both_82 ?_
    refine lv_topl (fun y36 ey36 => ?_)
    exact hc_endL hx hb hr hlocks () trivial hP hD hS dX9_both_83
  · refine lv_tableIn (off := 83) (tgt := 84) hx hb dX9_both_1 (by omega) (by omega) (by rw [s1]; rfl) (by decide) ?_
    refine lv_lload_n hx hb dX9_both_84 rfl (lv_at hl 2 rfl) ?_
    refine lv_lconst (v := 0) hx hb dX9_both_85 (by decide) ?_
    refine W.lcmp hx hb dX9_both_86 ?_
    refine lv_topi (fun z37 ez37 => ?_)
    have tz37 := lcmp_rel (a := y2.toInt) (b := 0) rfl (by decide) ez37
    refine lv_if_ne (tgt := 94) hx hb dX9_both_87 (by decide) (fun c38 => ?_) (fun c38 => ?_)
    · have fc38 := cx_ne_t (a := z37.toInt) (b := 0) rfl (by decide) c38
      have nzc38 : ¬ y2 = 0 := lcmp_nz ez37 c38
      refine lv_lload_n hx hb dX9_both_94 rfl (lv_at hl 1 rfl) ?_
      refine lv_lload_n hx hb dX9_both_95 rfl (lv_at hl 2 rfl) ?_
      refine lv_ldiv hx hb dX9_both_96 nzc38 ?_
      refine lv_topl (fun y39 ey39 => ?_)
      exact hc_endL hx hb hr hlocks () trivial hP hD hS dX9_both_97
    · have fc38 := cx_ne_f (a := z37.toInt) (b := 0) rfl (by decide) c38
      refine lv_lconst (v := 0) hx hb dX9_both_90 (by decide) ?_
      refine lv_goto (tgt := 97) hx hb dX9_both_91 (by decide) ?_
      exact hc_endL hx hb hr hlocks () trivial hP hD hS dX9_both_97
  · refine lv_tableIn (off := 97) (tgt := 98) hx hb dX9_both_1 (by omega) (by omega) (by rw [s1]; rfl) (by decide) ?_
    refine lv_lload_n hx hb dX9_both_98 rfl (lv_at hl 2 rfl) ?_
    refine lv_lconst (v := 0) hx hb dX9_both_99 (by decide) ?_
    refine W.lcmp hx hb dX9_both_100 ?_
    refine lv_topi (fun z40 ez40 => ?_)
    have tz40 := lcmp_rel (a := y2.toInt) (b := 0) rfl (by decide) ez40
    refine lv_if_ne (tgt := 108) hx hb dX9_both_101 (by decide) (fun c41 => ?_) (fun c41 => ?_)
    · have fc41 := cx_ne_t (a := z40.toInt) (b := 0) rfl (by decide) c41
      have nzc41 : ¬ y2 = 0 := lcmp_nz ez40 c41
      refine lv_lload_n hx hb dX9_both_108 rfl (lv_at hl 1 rfl) ?_
      refine lv_lload_n hx hb dX9_both_109 rfl (lv_at hl 2 rfl) ?_
      refine lv_lrem hx hb dX9_both_110 nzc41 ?_
      refine lv_topl (fun y42 ey42 => ?_)
      exact hc_endL hx hb hr hlocks () trivial hP hD hS dX9_both_111
    · have fc41 := cx_ne_f (a := z40.toInt) (b := 0) rfl (by decide) c41
      refine lv_lconst (v := 0) hx hb dX9_both_104 (by decide) ?_
      refine lv_goto (tgt := 111) hx hb dX9_both_105 (by decide) ?_
      exact hc_endL hx hb hr hlocks () trivial hP hD hS dX9_both_111
  · refine lv_tableOut (tgt := 191) hx hb dX9_both_1 (by omega) (by decide) ?_
    refine lv_lload_n hx hb dX9_both_191 rfl (lv_at hl 1 rfl) ?_
    refine lv_lload_n hx hb dX9_both_192 rfl (lv_at hl 2 rfl) ?_
    refine lv_lor hx hb dX9_both_193 ?_
    refine lv_topl (fun y43 ey43 => ?_)
    exact hc_endL hx hb hr hlocks () trivial hP hD hS dX9_both_194
set_option maxHeartbeats 4000000 in
set_option maxRecDepth 100000 in
theorem i_X9_answer (l : Launch) (D : va_G) (k : Nat → ClassId) (sz : Nat) (x1 : Int32) (x2 : Int32) (x3 : Int32) (mo : Nat) (mo_thrown : Int32) (mo_ascalar : Nat) (mo_acane : Nat) (mo_ais : Nat) (mo_astrandOf : Nat) (mo_aweight : Nat) (mo_aheight : Nat) (mo_achairOf : Nat) (mo_anoteMinute : Nat) (mo_anoteWho : Nat) (mo_anoteIs : Nat) (mo_atoldCane : Nat) (mo_anewScalar : Nat) (mo_anewCane : Nat) (mo_anewHeight : Nat) (mo_anewStrand : Nat) (mo_anewChair : Nat) (mo_anewWeight : Nat) (mo_taped : Int32) (mo_p : Int32) (mo_fault : Int32) (mo_slot : Int32) (mo_rules : Int32) (mo_entries : Int32) (mo_deep : Int32) (mo_counted : Int32) (mo_opened : Int32) (mo_words : Int32) (mo_atape : Nat) (mo_asort : Nat) (mo_anumber : Nat) (mo_aclauses : Nat) (mo_asumAt : Nat) (mo_atestAt : Nat) (mo_aendAt : Nat) (mo_aopen : Nat) (mo_aasked : Nat) (mo_astack : Nat) (mo_amust : Nat) (mo_apast : Nat) (mo_apastOf : Nat) (mo_pastMany : Int32) (mo_pastAt : Int32) (mo_takesBack : Int32) (mo_acanRise : Nat) (mo_afirstHas : Nat) (mo_asecondHas : Nat) (mo_alay : Nat) (mo_ashows : Nat) (mo_aimages : Nat) (mo_aisMade : Nat) (mo_imageAt : Int32) (mo_goesBack : Int32) (mo_rsort : Nat → Int32) (mo_rnumber : Nat → Int32) (mo_rasked : Nat → Int64) (mo_rstack : Nat → Int64) (h_x1 : iv (0) (5) x1) (h_x2 : iv (0) (300) x2) (h_x3 : iv (0) (300) x3) (h_mo_taped : iv (0) (400) mo_taped) (h_mo_p : iv (0) (402) mo_p) (h_mo_fault : iv (0) (4000) mo_fault) (h_mo_slot : iv (0) (5) mo_slot) (h_mo_rules : iv (0) (6) mo_rules) (h_mo_entries : iv (0) (300) mo_entries) (h_mo_counted : iv (0) (70) mo_counted) (h_mo_opened : iv (0) (402) mo_opened) (h_mo_words : iv (11) (11) mo_words) (h_mo_pastMany : iv (0) (20) mo_pastMany) (h_mo_pastAt : iv (0) (260) mo_pastAt) (h_mo_takesBack : iv (0) (1) mo_takesBack) (h_mo_imageAt : iv (0) (2000) mo_imageAt) (h_mo_goesBack : iv (0) (1) mo_goesBack) (hg_run : RunFrom mo_rsort mo_rnumber x1.toInt x2.toInt x3.toInt 0) : CtL l yX9_answer wsX9_answer (rmK 3 0 0) [.ref mo, .int x1, .int x2, .int x3] D k sz ([(mo, .inr (7, [.int mo_thrown, .ref mo_ascalar, .ref mo_acane, .ref mo_ais, .ref mo_astrandOf, .ref mo_aweight, .ref mo_aheight, .ref mo_achairOf, .ref mo_anoteMinute, .ref mo_anoteWho, .ref mo_anoteIs, .ref mo_atoldCane, .ref mo_anewScalar, .ref mo_anewCane, .ref mo_anewHeight, .ref mo_anewStrand, .ref mo_anewChair, .ref mo_anewWeight, .int mo_taped, .int mo_p, .int mo_fault, .int mo_slot, .int mo_rules, .int mo_entries, .int mo_deep, .int mo_counted, .int mo_opened, .int mo_words, .ref mo_atape, .ref mo_asort, .ref mo_anumber, .ref mo_aclauses, .ref mo_asumAt, .ref mo_atestAt, .ref mo_aendAt, .ref mo_aopen, .ref mo_aasked, .ref mo_astack, .ref mo_amust, .ref mo_apast, .ref mo_apastOf, .int mo_pastMany, .int mo_pastAt, .int mo_takesBack, .ref mo_acanRise, .ref mo_afirstHas, .ref mo_asecondHas, .ref mo_alay, .ref mo_ashows, .ref mo_aimages, .ref mo_aisMade, .int mo_imageAt, .int mo_goesBack])), (mo_asort, hcI k 1800 mo_rsort), (mo_anumber, hcI k 1800 mo_rnumber), (mo_aasked, hcJ k 11 mo_rasked), (mo_astack, hcJ k 300 mo_rstack)]) (fun (r : Int64) (u : (Nat → Int64)) => True) (fun u : (Nat → Int64) => [(mo, .inr (7, [.int mo_thrown, .ref mo_ascalar, .ref mo_acane, .ref mo_ais, .ref mo_astrandOf, .ref mo_aweight, .ref mo_aheight, .ref mo_achairOf, .ref mo_anoteMinute, .ref mo_anoteWho, .ref mo_anoteIs, .ref mo_atoldCane, .ref mo_anewScalar, .ref mo_anewCane, .ref mo_anewHeight, .ref mo_anewStrand, .ref mo_anewChair, .ref mo_anewWeight, .int mo_taped, .int mo_p, .int mo_fault, .int mo_slot, .int mo_rules, .int mo_entries, .int mo_deep, .int mo_counted, .int mo_opened, .int mo_words, .ref mo_atape, .ref mo_asort, .ref mo_anumber, .ref mo_aclauses, .ref mo_asumAt, .ref mo_atestAt, .ref mo_aendAt, .ref mo_aopen, .ref mo_aasked, .ref mo_astack, .ref mo_amust, .ref mo_apast, .ref mo_apastOf, .int mo_pastMany, .int mo_pastAt, .int mo_takesBack, .ref mo_acanRise, .ref mo_afirstHas, .ref mo_asecondHas, .ref mo_alay, .ref mo_ashows, .ref mo_aimages, .ref mo_aisMade, .int mo_imageAt, .int mo_goesBack])), (mo_asort, hcI k 1800 mo_rsort), (mo_anumber, hcI k 1800 mo_rnumber), (mo_aasked, hcJ k 11 mo_rasked), (mo_astack, hcJ k 300 (u))]) 0 0 := by
  have h_x1_l := h_x1.1
  have h_x1_u := h_x1.2
  have h_x2_l := h_x2.1
  have h_x2_u := h_x2.2
  have h_x3_l := h_x3.1
  have h_x3_u := h_x3.2
  have h_mo_taped_l := h_mo_taped.1
  have h_mo_taped_u := h_mo_taped.2
  have h_mo_p_l := h_mo_p.1
  have h_mo_p_u := h_mo_p.2
  have h_mo_fault_l := h_mo_fault.1
  have h_mo_fault_u := h_mo_fault.2
  have h_mo_slot_l := h_mo_slot.1
  have h_mo_slot_u := h_mo_slot.2
  have h_mo_rules_l := h_mo_rules.1
  have h_mo_rules_u := h_mo_rules.2
  have h_mo_entries_l := h_mo_entries.1
  have h_mo_entries_u := h_mo_entries.2
  have h_mo_counted_l := h_mo_counted.1
  have h_mo_counted_u := h_mo_counted.2
  have h_mo_opened_l := h_mo_opened.1
  have h_mo_opened_u := h_mo_opened.2
  have h_mo_words_l := h_mo_words.1
  have h_mo_words_u := h_mo_words.2
  have h_mo_pastMany_l := h_mo_pastMany.1
  have h_mo_pastMany_u := h_mo_pastMany.2
  have h_mo_pastAt_l := h_mo_pastAt.1
  have h_mo_pastAt_u := h_mo_pastAt.2
  have h_mo_takesBack_l := h_mo_takesBack.1
  have h_mo_takesBack_u := h_mo_takesBack.2
  have h_mo_imageAt_l := h_mo_imageAt.1
  have h_mo_imageAt_u := h_mo_imageAt.2
  have h_mo_goesBack_l := h_mo_goesBack.1
  have h_mo_goesBack_u := h_mo_goesBack.2
  refine CtL.mk (cc := cX9_answer) (maxL := 8) (ret := (some .long)) (by decide) rfl (Nat.le_of_ble_eq_true rfl) ?_
  intro p e s m below meth c A ls E hP hD hS hl
  obtain ⟨hx, hb, hr, hml, hown, hts, hlocks, hin, hG, hA⟩ := E
  have hown : s.vm.findClass RX9 = some m.cls := hown
  have in9 : ∀ w ∈ u_ws RX9 TX9 53, w ∈ wsX9_answer := fun _ h => List.mem_cons_of_mem _ (List.mem_append_right _ h)
  have hl : lv_has ls 8 [(0, .ref mo), (1, .int x1), (2, .int x2), (3, .int x3)] := hl
  refine lv_iconst (v := 0) hx hb dX9_answer_0 (by decide) ?_
  refine lv_istore (lv' := [(4, .int 0), (0, .ref mo), (1, .int x1), (2, .int x2), (3, .int x3)]) hx hb dX9_answer_1 hl (by decide) rfl (fun ls hl => ?_)
  refine lv_iload_n hx hb dX9_answer_3 rfl (lv_at hl 3 rfl) ?_
  refine lv_istore (lv' := [(5, .int x2), (4, .int 0), (0, .ref mo), (1, .int x1), (2, .int x2), (3, .int x3)]) hx hb dX9_answer_4 hl (by decide) rfl (fun ls hl => ?_)
  have loop1 : ∀ (fu : Nat) (L4_1 : Int32) (L5_1 : Int32) (g_1mo_astack : Nat → Int64), iv (0) (300) L4_1 → iv (0) (300) L5_1 → x2.toInt ≤ L5_1.toInt → L4_1.toInt ≤ L5_1.toInt - x2.toInt → RunFrom mo_rsort mo_rnumber x1.toInt L5_1.toInt x3.toInt L4_1.toInt → 301 - L5_1.toInt < (fu : Int) → ∀ (H : Heap) (locs : List Loc) (ls : Array Slot), va_P D vwCl ([(mo, .inr (7, [.int mo_thrown, .ref mo_ascalar, .ref mo_acane, .ref mo_ais, .ref mo_astrandOf, .ref mo_aweight, .ref mo_aheight, .ref mo_achairOf, .ref mo_anoteMinute, .ref mo_anoteWho, .ref mo_anoteIs, .ref mo_atoldCane, .ref mo_anewScalar, .ref mo_anewCane, .ref mo_anewHeight, .ref mo_anewStrand, .ref mo_anewChair, .ref mo_anewWeight, .int mo_taped, .int mo_p, .int mo_fault, .int mo_slot, .int mo_rules, .int mo_entries, .int mo_deep, .int mo_counted, .int mo_opened, .int mo_words, .ref mo_atape, .ref mo_asort, .ref mo_anumber, .ref mo_aclauses, .ref mo_asumAt, .ref mo_atestAt, .ref mo_aendAt, .ref mo_aopen, .ref mo_aasked, .ref mo_astack, .ref mo_amust, .ref mo_apast, .ref mo_apastOf, .int mo_pastMany, .int mo_pastAt, .int mo_takesBack, .ref mo_acanRise, .ref mo_afirstHas, .ref mo_asecondHas, .ref mo_alay, .ref mo_ashows, .ref mo_aimages, .ref mo_aisMade, .int mo_imageAt, .int mo_goesBack])), (mo_asort, hcI k 1800 mo_rsort), (mo_anumber, hcI k 1800 mo_rnumber), (mo_aasked, hcJ k 11 mo_rasked), (mo_astack, hcJ k 300 g_1mo_astack)]) H → va_D A ([(mo, .inr (7, [.int mo_thrown, .ref mo_ascalar, .ref mo_acane, .ref mo_ais, .ref mo_astrandOf, .ref mo_aweight, .ref mo_aheight, .ref mo_achairOf, .ref mo_anoteMinute, .ref mo_anoteWho, .ref mo_anoteIs, .ref mo_atoldCane, .ref mo_anewScalar, .ref mo_anewCane, .ref mo_anewHeight, .ref mo_anewStrand, .ref mo_anewChair, .ref mo_anewWeight, .int mo_taped, .int mo_p, .int mo_fault, .int mo_slot, .int mo_rules, .int mo_entries, .int mo_deep, .int mo_counted, .int mo_opened, .int mo_words, .ref mo_atape, .ref mo_asort, .ref mo_anumber, .ref mo_aclauses, .ref mo_asumAt, .ref mo_atestAt, .ref mo_aendAt, .ref mo_aopen, .ref mo_aasked, .ref mo_astack, .ref mo_amust, .ref mo_apast, .ref mo_apastOf, .int mo_pastMany, .int mo_pastAt, .int mo_takesBack, .ref mo_acanRise, .ref mo_afirstHas, .ref mo_asecondHas, .ref mo_alay, .ref mo_ashows, .ref mo_aimages, .ref mo_aisMade, .int mo_imageAt, .int mo_goesBack])), (mo_asort, hcI k 1800 mo_rsort), (mo_anumber, hcI k 1800 mo_rnumber), (mo_aasked, hcJ k 11 mo_rasked), (mo_astack, hcJ k 300 g_1mo_astack)]) → va_S A s.heap H locs → lv_has ls 8 [(5, .int L5_1), (4, .int L4_1), (0, .ref mo), (1, .int x1), (2, .int x2), (3, .int x3)] → W p l e (rmK 3 0 0) s m (List.toArray [.ref mo, .int x1, .int x2, .int x3]) below meth c H locs 0 0 (MQ below (va_Ql (fun (r : Int64) (u : (Nat → Int64)) => True) (hcB D (fun u : (Nat → Int64) => [(mo, .inr (7, [.int mo_thrown, .ref mo_ascalar, .ref mo_acane, .ref mo_ais, .ref mo_astrandOf, .ref mo_aweight, .ref mo_aheight, .ref mo_achairOf, .ref mo_anoteMinute, .ref mo_anoteWho, .ref mo_anoteIs, .ref mo_atoldCane, .ref mo_anewScalar, .ref mo_anewCane, .ref mo_anewHeight, .ref mo_anewStrand, .ref mo_anewChair, .ref mo_anewWeight, .int mo_taped, .int mo_p, .int mo_fault, .int mo_slot, .int mo_rules, .int mo_entries, .int mo_deep, .int mo_counted, .int mo_opened, .int mo_words, .ref mo_atape, .ref mo_asort, .ref mo_anumber, .ref mo_aclauses, .ref mo_asumAt, .ref mo_atestAt, .ref mo_aendAt, .ref mo_aopen, .ref mo_aasked, .ref mo_astack, .ref mo_amust, .ref mo_apast, .ref mo_apastOf, .int mo_pastMany, .int mo_pastAt, .int mo_takesBack, .ref mo_acanRise, .ref mo_afirstHas, .ref mo_asecondHas, .ref mo_alay, .ref mo_ashows, .ref mo_aimages, .ref mo_aisMade, .int mo_imageAt, .int mo_goesBack])), (mo_asort, hcI k 1800 mo_rsort), (mo_anumber, hcI k 1800 mo_rnumber), (mo_aasked, hcJ k 11 mo_rasked), (mo_astack, hcJ k 300 (u))]) A) A) (List.toArray [.ref mo, .int x1, .int x2, .int x3]) s 0 0 A) (F0 m 6 ls []) := by
    intro fu
    induction fu with
    | zero =>
      intro L4_1 L5_1 g_1mo_astack bL4_1 bL5_1 hI1_1 hI2_1 hp1_1 hm
      have bL4_1_l := bL4_1.1
      have bL4_1_u := bL4_1.2
      have bL5_1_l := bL5_1.1
      have bL5_1_u := bL5_1.2
      exact absurd hm (by omega)
    | succ fu ih1 =>
      intro L4_1 L5_1 g_1mo_astack bL4_1 bL5_1 hI1_1 hI2_1 hp1_1 hm H locs ls hP hD hS hl
      have bL4_1_l := bL4_1.1
      have bL4_1_u := bL4_1.2
      have bL5_1_l := bL5_1.1
      have bL5_1_u := bL5_1.2
      refine lv_iload hx hb dX9_answer_6 (lv_at hl 0 rfl) ?_
      refine lv_iload_n hx hb dX9_answer_8 rfl (lv_at hl 5 rfl) ?_
      refine lv_icmp_ge (tgt := 153) hx hb dX9_answer_9 (by decide) (fun c2 => ?_) (fun c2 => ?_)
      · have fc2 := cx_ge_t (a := L5_1.toInt) (b := x3.toInt) rfl rfl c2
        refine lv_aload_n hx hb dX9_answer_153 rfl (lv_at hl 2 rfl) ?_
        refine va_get (D := D) (ci := 7) (v := .ref mo_astack) (C := RX9) (T := TX9) (N := 53) hx hb hts in9 hown hG.1 hP 0 rfl rfl 37 (by decide) (hts (.fieldLink RX9 94 "ChairCaneModel" "stack" "[J") (by decide +kernel)) (fun _ h9 => h9) rfl dX9_answer_154 ?_
        refine lv_iconst (v := 0) hx hb dX9_answer_157 (by decide) ?_
        refine va_lald hx hb hG.1 hP 4 3 rfl rfl (by unfold vp_in; decide) dX9_answer_158 ?_
        refine lv_topl (fun y3 ey3 => ?_)
        exact hc_endL hx hb hr hlocks (g_1mo_astack) trivial hP hD hS dX9_answer_159
      · have fc2 := cx_ge_f (a := L5_1.toInt) (b := x3.toInt) rfl rfl c2
        refine lv_aload_n hx hb dX9_answer_12 rfl (lv_at hl 2 rfl) ?_
        refine va_get (D := D) (ci := 7) (v := .ref mo_asort) (C := RX9) (T := TX9) (N := 53) hx hb hts in9 hown hG.1 hP 0 rfl rfl 29 (by decide) (hts (.fieldLink RX9 69 "ChairCaneModel" "sort" "[I") (by decide +kernel)) (fun _ h9 => h9) rfl dX9_answer_13 ?_
        refine lv_sipush (v := 300) hx hb dX9_answer_16 (by decide) ?_
        refine lv_iload_n hx hb dX9_answer_19 rfl (lv_at hl 3 rfl) ?_
        refine lv_imul hx hb dX9_answer_20 ?_
        refine lv_topi (fun z4 ez4 => ?_)
        have tz4 : z4.toInt = 300 * x1.toInt := ai_mul (by decide) rfl ez4 (by omega) (by omega)
        refine lv_iload hx hb dX9_answer_21 (lv_at hl 0 rfl) ?_
        refine lv_iadd hx hb dX9_answer_23 ?_
        refine lv_topi (fun z5 ez5 => ?_)
        have tz5 : z5.toInt = z4.toInt + L5_1.toInt := ai_add rfl rfl ez5 (by omega) (by omega)
        refine va_iald hx hb hG.1 hP 1 0 rfl rfl (vp_in_iff.mpr ⟨by omega, by omega⟩) dX9_answer_24 ?_
        refine lv_topi (fun z6 ez6 => ?_)
        refine lv_istore (lv' := [(6, .int z6), (5, .int L5_1), (4, .int L4_1), (0, .ref mo), (1, .int x1), (2, .int x2), (3, .int x3)]) hx hb dX9_answer_25 hl (by decide) rfl (fun ls hl => ?_)
        refine lv_aload_n hx hb dX9_answer_27 rfl (lv_at hl 3 rfl) ?_
        refine va_get (D := D) (ci := 7) (v := .ref mo_anumber) (C := RX9) (T := TX9) (N := 53) hx hb hts in9 hown hG.1 hP 0 rfl rfl 30 (by decide) (hts (.fieldLink RX9 72 "ChairCaneModel" "number" "[I") (by decide +kernel)) (fun _ h9 => h9) rfl dX9_answer_28 ?_
        refine lv_sipush (v := 300) hx hb dX9_answer_31 (by decide) ?_
        refine lv_iload_n hx hb dX9_answer_34 rfl (lv_at hl 4 rfl) ?_
        refine lv_imul hx hb dX9_answer_35 ?_
        refine lv_topi (fun z7 ez7 => ?_)
        have tz7 : z7.toInt = 300 * x1.toInt := ai_mul (by decide) rfl ez7 (by omega) (by omega)
        refine lv_iload hx hb dX9_answer_36 (lv_at hl 1 rfl) ?_
        refine lv_iadd hx hb dX9_answer_38 ?_
        refine lv_topi (fun z8 ez8 => ?_)
        have tz8 : z8.toInt = z7.toInt + L5_1.toInt := ai_add rfl rfl ez8 (by omega) (by omega)
        refine va_iald hx hb hG.1 hP 2 0 rfl rfl (vp_in_iff.mpr ⟨by omega, by omega⟩) dX9_answer_39 ?_
        refine lv_topi (fun z9 ez9 => ?_)
        refine lv_istore (lv' := [(7, .int z9), (6, .int z6), (5, .int L5_1), (4, .int L4_1), (0, .ref mo), (1, .int x1), (2, .int x2), (3, .int x3)]) hx hb dX9_answer_40 hl (by decide) rfl (fun ls hl => ?_)
        have hstp := RunFrom.step (z := z5) (v := z6) (y := z9) hp1_1 (by omega) (by omega) (by omega) (by omega) (by omega) ez6 (by rw [ez9, show z8 = z5 from by rw [sp_eq]; omega])
        refine lv_iload hx hb dX9_answer_42 (lv_at hl 1 rfl) ?_
        refine lv_if_eq (tgt := 53) hx hb dX9_answer_44 (by decide) (fun c10 => ?_) (fun c10 => ?_)
        · have fc10 := cx_eq_t (a := z6.toInt) (b := 0) rfl (by decide) c10
          refine lv_aload_n hx hb dX9_answer_53 rfl (lv_at hl 4 rfl) ?_
          refine va_get (D := D) (ci := 7) (v := .ref mo_astack) (C := RX9) (T := TX9) (N := 53) hx hb hts in9 hown hG.1 hP 0 rfl rfl 37 (by decide) (hts (.fieldLink RX9 94 "ChairCaneModel" "stack" "[J") (by decide +kernel)) (fun _ h9 => h9) rfl dX9_answer_54 ?_
          refine lv_iload hx hb dX9_answer_57 (lv_at hl 3 rfl) ?_
          refine lv_iload hx hb dX9_answer_59 (lv_at hl 1 rfl) ?_
          refine lv_if_ne (tgt := 70) hx hb dX9_answer_61 (by decide) (fun c11 => ?_) (fun c11 => ?_)
          · have fc11 := cx_ne_t (a := z6.toInt) (b := 0) rfl (by decide) c11
            refine lv_aload_n hx hb dX9_answer_70 rfl (lv_at hl 4 rfl) ?_
            refine va_get (D := D) (ci := 7) (v := .ref mo_aasked) (C := RX9) (T := TX9) (N := 53) hx hb hts in9 hown hG.1 hP 0 rfl rfl 36 (by decide) (hts (.fieldLink RX9 90 "ChairCaneModel" "asked" "[J") (by decide +kernel)) (fun _ h9 => h9) rfl dX9_answer_71 ?_
            refine lv_iload hx hb dX9_answer_74 (lv_at hl 0 rfl) ?_
            refine va_lald hx hb hG.1 hP 3 3 rfl rfl (vp_in_iff.mpr ⟨by omega, by omega⟩) dX9_answer_76 ?_
            refine lv_topl (fun y12 ey12 => ?_)
            refine va_last hx hb hG.1 hP hD hS 4 3 rfl rfl (vp_in_iff.mpr ⟨by omega, by omega⟩) dX9_answer_77 (fun H locs hP hD hS => ?_)
            obtain ⟨f13, ef13⟩ : ∃ f : Nat → Int64, f = vp_updL g_1mo_astack (Int32.toNatClampNeg L4_1) (y12) := ⟨_, rfl⟩
            rw [← ef13] at hP hD
            have hP : va_P D vwCl ([(mo, .inr (7, [.int mo_thrown, .ref mo_ascalar, .ref mo_acane, .ref mo_ais, .ref mo_astrandOf, .ref mo_aweight, .ref mo_aheight, .ref mo_achairOf, .ref mo_anoteMinute, .ref mo_anoteWho, .ref mo_anoteIs, .ref mo_atoldCane, .ref mo_anewScalar, .ref mo_anewCane, .ref mo_anewHeight, .ref mo_anewStrand, .ref mo_anewChair, .ref mo_anewWeight, .int mo_taped, .int mo_p, .int mo_fault, .int mo_slot, .int mo_rules, .int mo_entries, .int mo_deep, .int mo_counted, .int mo_opened, .int mo_words, .ref mo_atape, .ref mo_asort, .ref mo_anumber, .ref mo_aclauses, .ref mo_asumAt, .ref mo_atestAt, .ref mo_aendAt, .ref mo_aopen, .ref mo_aasked, .ref mo_astack, .ref mo_amust, .ref mo_apast, .ref mo_apastOf, .int mo_pastMany, .int mo_pastAt, .int mo_takesBack, .ref mo_acanRise, .ref mo_afirstHas, .ref mo_asecondHas, .ref mo_alay, .ref mo_ashows, .ref mo_aimages, .ref mo_aisMade, .int mo_imageAt, .int mo_goesBack])), (mo_asort, hcI k 1800 mo_rsort), (mo_anumber, hcI k 1800 mo_rnumber), (mo_aasked, hcJ k 11 mo_rasked), (mo_astack, hcJ k 300 f13)]) H := hP
            have hD : va_D A ([(mo, .inr (7, [.int mo_thrown, .ref mo_ascalar, .ref mo_acane, .ref mo_ais, .ref mo_astrandOf, .ref mo_aweight, .ref mo_aheight, .ref mo_achairOf, .ref mo_anoteMinute, .ref mo_anoteWho, .ref mo_anoteIs, .ref mo_atoldCane, .ref mo_anewScalar, .ref mo_anewCane, .ref mo_anewHeight, .ref mo_anewStrand, .ref mo_anewChair, .ref mo_anewWeight, .int mo_taped, .int mo_p, .int mo_fault, .int mo_slot, .int mo_rules, .int mo_entries, .int mo_deep, .int mo_counted, .int mo_opened, .int mo_words, .ref mo_atape, .ref mo_asort, .ref mo_anumber, .ref mo_aclauses, .ref mo_asumAt, .ref mo_atestAt, .ref mo_aendAt, .ref mo_aopen, .ref mo_aasked, .ref mo_astack, .ref mo_amust, .ref mo_apast, .ref mo_apastOf, .int mo_pastMany, .int mo_pastAt, .int mo_takesBack, .ref mo_acanRise, .ref mo_afirstHas, .ref mo_asecondHas, .ref mo_alay, .ref mo_ashows, .ref mo_aimages, .ref mo_aisMade, .int mo_imageAt, .int mo_goesBack])), (mo_asort, hcI k 1800 mo_rsort), (mo_anumber, hcI k 1800 mo_rnumber), (mo_aasked, hcJ k 11 mo_rasked), (mo_astack, hcJ k 300 f13)]) := hD
            obtain ⟨z14, ez14⟩ : ∃ z : Int32, z = L4_1 + 1 := ⟨_, rfl⟩
            have tz14 : z14.toInt = L4_1.toInt + (1) := ai_add rfl (by decide) ez14 (by omega) (by omega)
            refine lv_iinc (v := z14) (lv' := [(4, .int z14), (7, .int z9), (6, .int z6), (5, .int L5_1), (0, .ref mo), (1, .int x1), (2, .int x2), (3, .int x3)]) hx hb dX9_answer_78 hl (k := 3) rfl (by rw [ez14]; rfl) (by decide) rfl (fun ls hl => ?_)
            refine lv_goto (tgt := 147) hx hb dX9_answer_81 (by decide) ?_
            obtain ⟨z15, ez15⟩ : ∃ z : Int32, z = L5_1 + 1 := ⟨_, rfl⟩
            have tz15 : z15.toInt = L5_1.toInt + (1) := ai_add rfl (by decide) ez15 (by omega) (by omega)
            refine lv_iinc (v := z15) (lv' := [(5, .int z15), (4, .int z14), (7, .int z9), (6, .int z6), (0, .ref mo), (1, .int x1), (2, .int x2), (3, .int x3)]) hx hb dX9_answer_147 hl (k := 3) rfl (by rw [ez15]; rfl) (by decide) rfl (fun ls hl => ?_)
            refine lv_goto (tgt := 6) hx hb dX9_answer_150 (by decide) ?_
            exact ih1 z14 z15 f13 ⟨by omega, by omega⟩ ⟨by omega, by omega⟩ (by omega) (by omega) (by rw [show z15.toInt = L5_1.toInt + 1 from by omega, show z14.toInt = L4_1.toInt + 1 from by omega]; rcases hstp with g | g | g <;> first | exact g.2 | exact g.2.2 | exact g.2.2.2.2 | exact absurd g.1 (by omega) | (exfalso; omega)) (by omega) _ _ _ hP hD hS (lv_sub hl [0, 1, 4, 5, 6, 7] rfl)
          · have fc11 := cx_ne_f (a := z6.toInt) (b := 0) rfl (by decide) c11
            refine lv_iload hx hb dX9_answer_64 (lv_at hl 0 rfl) ?_
            refine lv_i2l hx hb dX9_answer_66 rfl ?_
            refine lv_topl (fun y16 ey16 => ?_)
            have ty16 : y16.toInt = z9.toInt := ai_i2l rfl ey16
            refine lv_goto (tgt := 77) hx hb dX9_answer_67 (by decide) ?_
            refine va_last hx hb hG.1 hP hD hS 4 3 rfl rfl (vp_in_iff.mpr ⟨by omega, by omega⟩) dX9_answer_77 (fun H locs hP hD hS => ?_)
            obtain ⟨f17, ef17⟩ : ∃ f : Nat → Int64, f = vp_updL g_1mo_astack (Int32.toNatClampNeg L4_1) (y16) := ⟨_, rfl⟩
            rw [← ef17] at hP hD
            have hP : va_P D vwCl ([(mo, .inr (7, [.int mo_thrown, .ref mo_ascalar, .ref mo_acane, .ref mo_ais, .ref mo_astrandOf, .ref mo_aweight, .ref mo_aheight, .ref mo_achairOf, .ref mo_anoteMinute, .ref mo_anoteWho, .ref mo_anoteIs, .ref mo_atoldCane, .ref mo_anewScalar, .ref mo_anewCane, .ref mo_anewHeight, .ref mo_anewStrand, .ref mo_anewChair, .ref mo_anewWeight, .int mo_taped, .int mo_p, .int mo_fault, .int mo_slot, .int mo_rules, .int mo_entries, .int mo_deep, .int mo_counted, .int mo_opened, .int mo_words, .ref mo_atape, .ref mo_asort, .ref mo_anumber, .ref mo_aclauses, .ref mo_asumAt, .ref mo_atestAt, .ref mo_aendAt, .ref mo_aopen, .ref mo_aasked, .ref mo_astack, .ref mo_amust, .ref mo_apast, .ref mo_apastOf, .int mo_pastMany, .int mo_pastAt, .int mo_takesBack, .ref mo_acanRise, .ref mo_afirstHas, .ref mo_asecondHas, .ref mo_alay, .ref mo_ashows, .ref mo_aimages, .ref mo_aisMade, .int mo_imageAt, .int mo_goesBack])), (mo_asort, hcI k 1800 mo_rsort), (mo_anumber, hcI k 1800 mo_rnumber), (mo_aasked, hcJ k 11 mo_rasked), (mo_astack, hcJ k 300 f17)]) H := hP
            have hD : va_D A ([(mo, .inr (7, [.int mo_thrown, .ref mo_ascalar, .ref mo_acane, .ref mo_ais, .ref mo_astrandOf, .ref mo_aweight, .ref mo_aheight, .ref mo_achairOf, .ref mo_anoteMinute, .ref mo_anoteWho, .ref mo_anoteIs, .ref mo_atoldCane, .ref mo_anewScalar, .ref mo_anewCane, .ref mo_anewHeight, .ref mo_anewStrand, .ref mo_anewChair, .ref mo_anewWeight, .int mo_taped, .int mo_p, .int mo_fault, .int mo_slot, .int mo_rules, .int mo_entries, .int mo_deep, .int mo_counted, .int mo_opened, .int mo_words, .ref mo_atape, .ref mo_asort, .ref mo_anumber, .ref mo_aclauses, .ref mo_asumAt, .ref mo_atestAt, .ref mo_aendAt, .ref mo_aopen, .ref mo_aasked, .ref mo_astack, .ref mo_amust, .ref mo_apast, .ref mo_apastOf, .int mo_pastMany, .int mo_pastAt, .int mo_takesBack, .ref mo_acanRise, .ref mo_afirstHas, .ref mo_asecondHas, .ref mo_alay, .ref mo_ashows, .ref mo_aimages, .ref mo_aisMade, .int mo_imageAt, .int mo_goesBack])), (mo_asort, hcI k 1800 mo_rsort), (mo_anumber, hcI k 1800 mo_rnumber), (mo_aasked, hcJ k 11 mo_rasked), (mo_astack, hcJ k 300 f17)]) := hD
            obtain ⟨z18, ez18⟩ : ∃ z : Int32, z = L4_1 + 1 := ⟨_, rfl⟩
            have tz18 : z18.toInt = L4_1.toInt + (1) := ai_add rfl (by decide) ez18 (by omega) (by omega)
            refine lv_iinc (v := z18) (lv' := [(4, .int z18), (7, .int z9), (6, .int z6), (5, .int L5_1), (0, .ref mo), (1, .int x1), (2, .int x2), (3, .int x3)]) hx hb dX9_answer_78 hl (k := 3) rfl (by rw [ez18]; rfl) (by decide) rfl (fun ls hl => ?_)
            refine lv_goto (tgt := 147) hx hb dX9_answer_81 (by decide) ?_
            obtain ⟨z19, ez19⟩ : ∃ z : Int32, z = L5_1 + 1 := ⟨_, rfl⟩
            have tz19 : z19.toInt = L5_1.toInt + (1) := ai_add rfl (by decide) ez19 (by omega) (by omega)
            refine lv_iinc (v := z19) (lv' := [(5, .int z19), (4, .int z18), (7, .int z9), (6, .int z6), (0, .ref mo), (1, .int x1), (2, .int x2), (3, .int x3)]) hx hb dX9_answer_147 hl (k := 3) rfl (by rw [ez19]; rfl) (by decide) rfl (fun ls hl => ?_)
            refine lv_goto (tgt := 6) hx hb dX9_answer_150 (by decide) ?_
            exact ih1 z18 z19 f17 ⟨by omega, by omega⟩ ⟨by omega, by omega⟩ (by omega) (by omega) (by rw [show z19.toInt = L5_1.toInt + 1 from by omega, show z18.toInt = L4_1.toInt + 1 from by omega]; rcases hstp with g | g | g <;> first | exact g.2 | exact g.2.2 | exact g.2.2.2.2 | exact absurd g.1 (by omega) | (exfalso; omega)) (by omega) _ _ _ hP hD hS (lv_sub hl [0, 1, 4, 5, 6, 7] rfl)
        · have fc10 := cx_eq_f (a := z6.toInt) (b := 0) rfl (by decide) c10
          refine lv_iload hx hb dX9_answer_47 (lv_at hl 1 rfl) ?_
          refine lv_iconst (v := 1) hx hb dX9_answer_49 (by decide) ?_
          refine lv_icmp_ne (tgt := 84) hx hb dX9_answer_50 (by decide) (fun c20 => ?_) (fun c20 => ?_)
          · have fc20 := cx_ne_t (a := z6.toInt) (b := 1) rfl (by decide) c20
            refine lv_iload hx hb dX9_answer_84 (lv_at hl 1 rfl) ?_
            refine lv_bipush (v := 9) hx hb dX9_answer_86 (by decide) ?_
            refine lv_icmp_ne (tgt := 114) hx hb dX9_answer_88 (by decide) (fun c21 => ?_) (fun c21 => ?_)
            · have fc21 := cx_ne_t (a := z6.toInt) (b := 9) rfl (by decide) c21
              obtain ⟨z22, ez22⟩ : ∃ z : Int32, z = L4_1 + (-1) := ⟨_, rfl⟩
              have tz22 : z22.toInt = L4_1.toInt + (-1) := ai_add rfl (by decide) ez22 (by omega) (by omega)
              refine lv_iinc (v := z22) (lv' := [(4, .int z22), (7, .int z9), (6, .int z6), (5, .int L5_1), (0, .ref mo), (1, .int x1), (2, .int x2), (3, .int x3)]) hx hb dX9_answer_114 hl (k := 3) rfl (by rw [ez22]; rfl) (by decide) rfl (fun ls hl => ?_)
              refine lv_aload_n hx hb dX9_answer_117 rfl (lv_at hl 4 rfl) ?_
              refine va_get (D := D) (ci := 7) (v := .ref mo_astack) (C := RX9) (T := TX9) (N := 53) hx hb hts in9 hown hG.1 hP 0 rfl rfl 37 (by decide) (hts (.fieldLink RX9 94 "ChairCaneModel" "stack" "[J") (by decide +kernel)) (fun _ h9 => h9) rfl dX9_answer_118 ?_
              refine lv_iload hx hb dX9_answer_121 (lv_at hl 0 rfl) ?_
              refine lv_iconst (v := 1) hx hb dX9_answer_123 (by decide) ?_
              refine lv_isub hx hb dX9_answer_124 ?_
              refine lv_topi (fun z23 ez23 => ?_)
              have tz23 : z23.toInt = z22.toInt - 1 := ai_sub rfl (by decide) ez23 (by omega) (by omega)
              refine lv_iload hx hb dX9_answer_125 (lv_at hl 2 rfl) ?_
              refine lv_aload_n hx hb dX9_answer_127 rfl (lv_at hl 4 rfl) ?_
              refine va_get (D := D) (ci := 7) (v := .ref mo_astack) (C := RX9) (T := TX9) (N := 53) hx hb hts in9 hown hG.1 hP 0 rfl rfl 37 (by decide) (hts (.fieldLink RX9 94 "ChairCaneModel" "stack" "[J") (by decide +kernel)) (fun _ h9 => h9) rfl dX9_answer_128 ?_
              refine lv_iload hx hb dX9_answer_131 (lv_at hl 0 rfl) ?_
              refine lv_iconst (v := 1) hx hb dX9_answer_133 (by decide) ?_
              refine lv_isub hx hb dX9_answer_134 ?_
              refine lv_topi (fun z24 ez24 => ?_)
              have tz24 : z24.toInt = z22.toInt - 1 := ai_sub rfl (by decide) ez24 (by omega) (by omega)
              refine va_lald hx hb hG.1 hP 4 3 rfl rfl (vp_in_iff.mpr ⟨by omega, by omega⟩) dX9_answer_135 ?_
              refine lv_topl (fun y25 ey25 => ?_)
              refine lv_aload_n hx hb dX9_answer_136 rfl (lv_at hl 4 rfl) ?_
              refine va_get (D := D) (ci := 7) (v := .ref mo_astack) (C := RX9) (T := TX9) (N := 53) hx hb hts in9 hown hG.1 hP 0 rfl rfl 37 (by decide) (hts (.fieldLink RX9 94 "ChairCaneModel" "stack" "[J") (by decide +kernel)) (fun _ h9 => h9) rfl dX9_answer_137 ?_
              refine lv_iload hx hb dX9_answer_140 (lv_at hl 0 rfl) ?_
              refine va_lald hx hb hG.1 hP 4 3 rfl rfl (vp_in_iff.mpr ⟨by omega, by omega⟩) dX9_answer_142 ?_
              refine lv_topl (fun y26 ey26 => ?_)
              refine hc_Sl (As := [.int z6, .long y25, .long y26]) (rest := [.int z23, .ref mo_astack]) (n := 3) (wr := [(mo, .inr (7, [.int mo_thrown, .ref mo_ascalar, .ref mo_acane, .ref mo_ais, .ref mo_astrandOf, .ref mo_aweight, .ref mo_aheight, .ref mo_achairOf, .ref mo_anoteMinute, .ref mo_anoteWho, .ref mo_anoteIs, .ref mo_atoldCane, .ref mo_anewScalar, .ref mo_anewCane, .ref mo_anewHeight, .ref mo_anewStrand, .ref mo_anewChair, .ref mo_anewWeight, .int mo_taped, .int mo_p, .int mo_fault, .int mo_slot, .int mo_rules, .int mo_entries, .int mo_deep, .int mo_counted, .int mo_opened, .int mo_words, .ref mo_atape, .ref mo_asort, .ref mo_anumber, .ref mo_aclauses, .ref mo_asumAt, .ref mo_atestAt, .ref mo_aendAt, .ref mo_aopen, .ref mo_aasked, .ref mo_astack, .ref mo_amust, .ref mo_apast, .ref mo_apastOf, .int mo_pastMany, .int mo_pastAt, .int mo_takesBack, .ref mo_acanRise, .ref mo_afirstHas, .ref mo_asecondHas, .ref mo_alay, .ref mo_ashows, .ref mo_aimages, .ref mo_aisMade, .int mo_imageAt, .int mo_goesBack])), (mo_asort, hcI k 1800 mo_rsort), (mo_anumber, hcI k 1800 mo_rnumber), (mo_aasked, hcJ k 11 mo_rasked), (mo_astack, hcJ k 300 g_1mo_astack)]) hx hb hml hown hts hG hA hP hD hS hl.1 [] [0, 1, 2, 3, 4] (i_X9_both l D k _ z6 y25 y26 ) gX9_answer_X9_both rfl ⟨rfl, rfl, Nat.le_of_ble_eq_true rfl, Nat.le_of_ble_eq_true rfl⟩ (by decide +kernel) rfl rfl ⟨by decide, by decide, by decide⟩ ⟨rfl, rfl, Nat.le_of_ble_eq_true rfl, Nat.le_of_ble_eq_true rfl, Nat.le_of_ble_eq_true rfl⟩ dX9_answer_143 (fun r28 u27 H locs hw hP hD hS => ?_)
              have hP : va_P D vwCl ([(mo, .inr (7, [.int mo_thrown, .ref mo_ascalar, .ref mo_acane, .ref mo_ais, .ref mo_astrandOf, .ref mo_aweight, .ref mo_aheight, .ref mo_achairOf, .ref mo_anoteMinute, .ref mo_anoteWho, .ref mo_anoteIs, .ref mo_atoldCane, .ref mo_anewScalar, .ref mo_anewCane, .ref mo_anewHeight, .ref mo_anewStrand, .ref mo_anewChair, .ref mo_anewWeight, .int mo_taped, .int mo_p, .int mo_fault, .int mo_slot, .int mo_rules, .int mo_entries, .int mo_deep, .int mo_counted, .int mo_opened, .int mo_words, .ref mo_atape, .ref mo_asort, .ref mo_anumber, .ref mo_aclauses, .ref mo_asumAt, .ref mo_atestAt, .ref mo_aendAt, .ref mo_aopen, .ref mo_aasked, .ref mo_astack, .ref mo_amust, .ref mo_apast, .ref mo_apastOf, .int mo_pastMany, .int mo_pastAt, .int mo_takesBack, .ref mo_acanRise, .ref mo_afirstHas, .ref mo_asecondHas, .ref mo_alay, .ref mo_ashows, .ref mo_aimages, .ref mo_aisMade, .int mo_imageAt, .int mo_goesBack])), (mo_asort, hcI k 1800 mo_rsort), (mo_anumber, hcI k 1800 mo_rnumber), (mo_aasked, hcJ k 11 mo_rasked), (mo_astack, hcJ k 300 g_1mo_astack)]) H := hP
              have hD : va_D A ([(mo, .inr (7, [.int mo_thrown, .ref mo_ascalar, .ref mo_acane, .ref mo_ais, .ref mo_astrandOf, .ref mo_aweight, .ref mo_aheight, .ref mo_achairOf, .ref mo_anoteMinute, .ref mo_anoteWho, .ref mo_anoteIs, .ref mo_atoldCane, .ref mo_anewScalar, .ref mo_anewCane, .ref mo_anewHeight, .ref mo_anewStrand, .ref mo_anewChair, .ref mo_anewWeight, .int mo_taped, .int mo_p, .int mo_fault, .int mo_slot, .int mo_rules, .int mo_entries, .int mo_deep, .int mo_counted, .int mo_opened, .int mo_words, .ref mo_atape, .ref mo_asort, .ref mo_anumber, .ref mo_aclauses, .ref mo_asumAt, .ref mo_atestAt, .ref mo_aendAt, .ref mo_aopen, .ref mo_aasked, .ref mo_astack, .ref mo_amust, .ref mo_apast, .ref mo_apastOf, .int mo_pastMany, .int mo_pastAt, .int mo_takesBack, .ref mo_acanRise, .ref mo_afirstHas, .ref mo_asecondHas, .ref mo_alay, .ref mo_ashows, .ref mo_aimages, .ref mo_aisMade, .int mo_imageAt, .int mo_goesBack])), (mo_asort, hcI k 1800 mo_rsort), (mo_anumber, hcI k 1800 mo_rnumber), (mo_aasked, hcJ k 11 mo_rasked), (mo_astack, hcJ k 300 g_1mo_astack)]) := hD
              refine va_last hx hb hG.1 hP hD hS 4 3 rfl rfl (vp_in_iff.mpr ⟨by omega, by omega⟩) dX9_answer_146 (fun H locs hP hD hS => ?_)
              obtain ⟨f29, ef29⟩ : ∃ f : Nat → Int64, f = vp_updL g_1mo_astack (Int32.toNatClampNeg z23) (r28) := ⟨_, rfl⟩
              rw [← ef29] at hP hD
              have hP : va_P D vwCl ([(mo, .inr (7, [.int mo_thrown, .ref mo_ascalar, .ref mo_acane, .ref mo_ais, .ref mo_astrandOf, .ref mo_aweight, .ref mo_aheight, .ref mo_achairOf, .ref mo_anoteMinute, .ref mo_anoteWho, .ref mo_anoteIs, .ref mo_atoldCane, .ref mo_anewScalar, .ref mo_anewCane, .ref mo_anewHeight, .ref mo_anewStrand, .ref mo_anewChair, .ref mo_anewWeight, .int mo_taped, .int mo_p, .int mo_fault, .int mo_slot, .int mo_rules, .int mo_entries, .int mo_deep, .int mo_counted, .int mo_opened, .int mo_words, .ref mo_atape, .ref mo_asort, .ref mo_anumber, .ref mo_aclauses, .ref mo_asumAt, .ref mo_atestAt, .ref mo_aendAt, .ref mo_aopen, .ref mo_aasked, .ref mo_astack, .ref mo_amust, .ref mo_apast, .ref mo_apastOf, .int mo_pastMany, .int mo_pastAt, .int mo_takesBack, .ref mo_acanRise, .ref mo_afirstHas, .ref mo_asecondHas, .ref mo_alay, .ref mo_ashows, .ref mo_aimages, .ref mo_aisMade, .int mo_imageAt, .int mo_goesBack])), (mo_asort, hcI k 1800 mo_rsort), (mo_anumber, hcI k 1800 mo_rnumber), (mo_aasked, hcJ k 11 mo_rasked), (mo_astack, hcJ k 300 f29)]) H := hP
              have hD : va_D A ([(mo, .inr (7, [.int mo_thrown, .ref mo_ascalar, .ref mo_acane, .ref mo_ais, .ref mo_astrandOf, .ref mo_aweight, .ref mo_aheight, .ref mo_achairOf, .ref mo_anoteMinute, .ref mo_anoteWho, .ref mo_anoteIs, .ref mo_atoldCane, .ref mo_anewScalar, .ref mo_anewCane, .ref mo_anewHeight, .ref mo_anewStrand, .ref mo_anewChair, .ref mo_anewWeight, .int mo_taped, .int mo_p, .int mo_fault, .int mo_slot, .int mo_rules, .int mo_entries, .int mo_deep, .int mo_counted, .int mo_opened, .int mo_words, .ref mo_atape, .ref mo_asort, .ref mo_anumber, .ref mo_aclauses, .ref mo_asumAt, .ref mo_atestAt, .ref mo_aendAt, .ref mo_aopen, .ref mo_aasked, .ref mo_astack, .ref mo_amust, .ref mo_apast, .ref mo_apastOf, .int mo_pastMany, .int mo_pastAt, .int mo_takesBack, .ref mo_acanRise, .ref mo_afirstHas, .ref mo_asecondHas, .ref mo_alay, .ref mo_ashows, .ref mo_aimages, .ref mo_aisMade, .int mo_imageAt, .int mo_goesBack])), (mo_asort, hcI k 1800 mo_rsort), (mo_anumber, hcI k 1800 mo_rnumber), (mo_aasked, hcJ k 11 mo_rasked), (mo_astack, hcJ k 300 f29)]) := hD
              obtain ⟨z30, ez30⟩ : ∃ z : Int32, z = L5_1 + 1 := ⟨_, rfl⟩
              have tz30 : z30.toInt = L5_1.toInt + (1) := ai_add rfl (by decide) ez30 (by omega) (by omega)
              refine lv_iinc (v := z30) (lv' := [(5, .int z30), (4, .int z22), (7, .int z9), (6, .int z6), (0, .ref mo), (1, .int x1), (2, .int x2), (3, .int x3)]) hx hb dX9_answer_147 hl (k := 3) rfl (by rw [ez30]; rfl) (by decide) rfl (fun ls hl => ?_)
              refine lv_goto (tgt := 6) hx hb dX9_answer_150 (by decide) ?_
              exact ih1 z22 z30 f29 ⟨by omega, by omega⟩ ⟨by omega, by omega⟩ (by omega) (by omega) (by rw [show z30.toInt = L5_1.toInt + 1 from by omega, show z22.toInt = L4_1.toInt - 1 from by omega]; rcases hstp with g | g | g <;> first | exact g.2 | exact g.2.2 | exact g.2.2.2.2 | exact absurd g.1 (by omega) | (exfalso; omega)) (by omega) _ _ _ hP hD hS (lv_sub hl [0, 1, 4, 5, 6, 7] rfl)
            · have fc21 := cx_ne_f (a := z6.toInt) (b := 9) rfl (by decide) c21
              refine lv_aload_n hx hb dX9_answer_91 rfl (lv_at hl 4 rfl) ?_
              refine va_get (D := D) (ci := 7) (v := .ref mo_astack) (C := RX9) (T := TX9) (N := 53) hx hb hts in9 hown hG.1 hP 0 rfl rfl 37 (by decide) (hts (.fieldLink RX9 94 "ChairCaneModel" "stack" "[J") (by decide +kernel)) (fun _ h9 => h9) rfl dX9_answer_92 ?_
              refine lv_iload hx hb dX9_answer_95 (lv_at hl 3 rfl) ?_
              refine lv_iconst (v := 1) hx hb dX9_answer_97 (by decide) ?_
              refine lv_isub hx hb dX9_answer_98 ?_
              refine lv_topi (fun z31 ez31 => ?_)
              have tz31 : z31.toInt = L4_1.toInt - 1 := ai_sub rfl (by decide) ez31 (by omega) (by omega)
              refine lv_lconst (v := 1) hx hb dX9_answer_99 (by decide) ?_
              refine lv_aload_n hx hb dX9_answer_100 rfl (lv_at hl 4 rfl) ?_
              refine va_get (D := D) (ci := 7) (v := .ref mo_astack) (C := RX9) (T := TX9) (N := 53) hx hb hts in9 hown hG.1 hP 0 rfl rfl 37 (by decide) (hts (.fieldLink RX9 94 "ChairCaneModel" "stack" "[J") (by decide +kernel)) (fun _ h9 => h9) rfl dX9_answer_101 ?_
              refine lv_iload hx hb dX9_answer_104 (lv_at hl 3 rfl) ?_
              refine lv_iconst (v := 1) hx hb dX9_answer_106 (by decide) ?_
              refine lv_isub hx hb dX9_answer_107 ?_
              refine lv_topi (fun z32 ez32 => ?_)
              have tz32 : z32.toInt = L4_1.toInt - 1 := ai_sub rfl (by decide) ez32 (by omega) (by omega)
              refine va_lald hx hb hG.1 hP 4 3 rfl rfl (vp_in_iff.mpr ⟨by omega, by omega⟩) dX9_answer_108 ?_
              refine lv_topl (fun y33 ey33 => ?_)
              refine lv_lsub hx hb dX9_answer_109 ?_
              refine lv_topl (fun y34 ey34 => ?_)
              refine va_last hx hb hG.1 hP hD hS 4 3 rfl rfl (vp_in_iff.mpr ⟨by omega, by omega⟩) dX9_answer_110 (fun H locs hP hD hS => ?_)
              obtain ⟨f35, ef35⟩ : ∃ f : Nat → Int64, f = vp_updL g_1mo_astack (Int32.toNatClampNeg z31) (y34) := ⟨_, rfl⟩
              rw [← ef35] at hP hD
              have hP : va_P D vwCl ([(mo, .inr (7, [.int mo_thrown, .ref mo_ascalar, .ref mo_acane, .ref mo_ais, .ref mo_astrandOf, .ref mo_aweight, .ref mo_aheight, .ref mo_achairOf, .ref mo_anoteMinute, .ref mo_anoteWho, .ref mo_anoteIs, .ref mo_atoldCane, .ref mo_anewScalar, .ref mo_anewCane, .ref mo_anewHeight, .ref mo_anewStrand, .ref mo_anewChair, .ref mo_anewWeight, .int mo_taped, .int mo_p, .int mo_fault, .int mo_slot, .int mo_rules, .int mo_entries, .int mo_deep, .int mo_counted, .int mo_opened, .int mo_words, .ref mo_atape, .ref mo_asort, .ref mo_anumber, .ref mo_aclauses, .ref mo_asumAt, .ref mo_atestAt, .ref mo_aendAt, .ref mo_aopen, .ref mo_aasked, .ref mo_astack, .ref mo_amust, .ref mo_apast, .ref mo_apastOf, .int mo_pastMany, .int mo_pastAt, .int mo_takesBack, .ref mo_acanRise, .ref mo_afirstHas, .ref mo_asecondHas, .ref mo_alay, .ref mo_ashows, .ref mo_aimages, .ref mo_aisMade, .int mo_imageAt, .int mo_goesBack])), (mo_asort, hcI k 1800 mo_rsort), (mo_anumber, hcI k 1800 mo_rnumber), (mo_aasked, hcJ k 11 mo_rasked), (mo_astack, hcJ k 300 f35)]) H := hP
              have hD : va_D A ([(mo, .inr (7, [.int mo_thrown, .ref mo_ascalar, .ref mo_acane, .ref mo_ais, .ref mo_astrandOf, .ref mo_aweight, .ref mo_aheight, .ref mo_achairOf, .ref mo_anoteMinute, .ref mo_anoteWho, .ref mo_anoteIs, .ref mo_atoldCane, .ref mo_anewScalar, .ref mo_anewCane, .ref mo_anewHeight, .ref mo_anewStrand, .ref mo_anewChair, .ref mo_anewWeight, .int mo_taped, .int mo_p, .int mo_fault, .int mo_slot, .int mo_rules, .int mo_entries, .int mo_deep, .int mo_counted, .int mo_opened, .int mo_words, .ref mo_atape, .ref mo_asort, .ref mo_anumber, .ref mo_aclauses, .ref mo_asumAt, .ref mo_atestAt, .ref mo_aendAt, .ref mo_aopen, .ref mo_aasked, .ref mo_astack, .ref mo_amust, .ref mo_apast, .ref mo_apastOf, .int mo_pastMany, .int mo_pastAt, .int mo_takesBack, .ref mo_acanRise, .ref mo_afirstHas, .ref mo_asecondHas, .ref mo_alay, .ref mo_ashows, .ref mo_aimages, .ref mo_aisMade, .int mo_imageAt, .int mo_goesBack])), (mo_asort, hcI k 1800 mo_rsort), (mo_anumber, hcI k 1800 mo_rnumber), (mo_aasked, hcJ k 11 mo_rasked), (mo_astack, hcJ k 300 f35)]) := hD
              refine lv_goto (tgt := 147) hx hb dX9_answer_111 (by decide) ?_
              obtain ⟨z36, ez36⟩ : ∃ z : Int32, z = L5_1 + 1 := ⟨_, rfl⟩
              have tz36 : z36.toInt = L5_1.toInt + (1) := ai_add rfl (by decide) ez36 (by omega) (by omega)
              refine lv_iinc (v := z36) (lv' := [(5, .int z36), (7, .int z9), (6, .int z6), (4, .int L4_1), (0, .ref mo), (1, .int x1), (2, .int x2), (3, .int x3)]) hx hb dX9_answer_147 hl (k := 2) rfl (by rw [ez36]; rfl) (by decide) rfl (fun ls hl => ?_)
              refine lv_goto (tgt := 6) hx hb dX9_answer_150 (by decide) ?_
              exact ih1 L4_1 z36 f35 ⟨by omega, by omega⟩ ⟨by omega, by omega⟩ (by omega) (by omega) (by rw [show z36.toInt = L5_1.toInt + 1 from by omega]; rcases hstp with g | g | g <;> first | exact g.2 | exact g.2.2 | exact g.2.2.2.2 | exact absurd g.1 (by omega) | (exfalso; omega)) (by omega) _ _ _ hP hD hS (lv_sub hl [0, 3, 4, 5, 6, 7] rfl)
          · have fc20 := cx_ne_f (a := z6.toInt) (b := 1) rfl (by decide) c20
            refine lv_aload_n hx hb dX9_answer_53 rfl (lv_at hl 4 rfl) ?_
            refine va_get (D := D) (ci := 7) (v := .ref mo_astack) (C := RX9) (T := TX9) (N := 53) hx hb hts in9 hown hG.1 hP 0 rfl rfl 37 (by decide) (hts (.fieldLink RX9 94 "ChairCaneModel" "stack" "[J") (by decide +kernel)) (fun _ h9 => h9) rfl dX9_answer_54 ?_
            refine lv_iload hx hb dX9_answer_57 (lv_at hl 3 rfl) ?_
            refine lv_iload hx hb dX9_answer_59 (lv_at hl 1 rfl) ?_
            refine lv_if_ne (tgt := 70) hx hb dX9_answer_61 (by decide) (fun _ => ?_) (fun h => absurd h (cd_ne_t (a := z6.toInt) (b := 0) rfl (by decide) (by omega)))
            refine lv_aload_n hx hb dX9_answer_70 rfl (lv_at hl 4 rfl) ?_
            refine va_get (D := D) (ci := 7) (v := .ref mo_aasked) (C := RX9) (T := TX9) (N := 53) hx hb hts in9 hown hG.1 hP 0 rfl rfl 36 (by decide) (hts (.fieldLink RX9 90 "ChairCaneModel" "asked" "[J") (by decide +kernel)) (fun _ h9 => h9) rfl dX9_answer_71 ?_
            refine lv_iload hx hb dX9_answer_74 (lv_at hl 0 rfl) ?_
            refine va_lald hx hb hG.1 hP 3 3 rfl rfl (vp_in_iff.mpr ⟨by omega, by omega⟩) dX9_answer_76 ?_
            refine lv_topl (fun y37 ey37 => ?_)
            refine va_last hx hb hG.1 hP hD hS 4 3 rfl rfl (vp_in_iff.mpr ⟨by omega, by omega⟩) dX9_answer_77 (fun H locs hP hD hS => ?_)
            obtain ⟨f38, ef38⟩ : ∃ f : Nat → Int64, f = vp_updL g_1mo_astack (Int32.toNatClampNeg L4_1) (y37) := ⟨_, rfl⟩
            rw [← ef38] at hP hD
            have hP : va_P D vwCl ([(mo, .inr (7, [.int mo_thrown, .ref mo_ascalar, .ref mo_acane, .ref mo_ais, .ref mo_astrandOf, .ref mo_aweight, .ref mo_aheight, .ref mo_achairOf, .ref mo_anoteMinute, .ref mo_anoteWho, .ref mo_anoteIs, .ref mo_atoldCane, .ref mo_anewScalar, .ref mo_anewCane, .ref mo_anewHeight, .ref mo_anewStrand, .ref mo_anewChair, .ref mo_anewWeight, .int mo_taped, .int mo_p, .int mo_fault, .int mo_slot, .int mo_rules, .int mo_entries, .int mo_deep, .int mo_counted, .int mo_opened, .int mo_words, .ref mo_atape, .ref mo_asort, .ref mo_anumber, .ref mo_aclauses, .ref mo_asumAt, .ref mo_atestAt, .ref mo_aendAt, .ref mo_aopen, .ref mo_aasked, .ref mo_astack, .ref mo_amust, .ref mo_apast, .ref mo_apastOf, .int mo_pastMany, .int mo_pastAt, .int mo_takesBack, .ref mo_acanRise, .ref mo_afirstHas, .ref mo_asecondHas, .ref mo_alay, .ref mo_ashows, .ref mo_aimages, .ref mo_aisMade, .int mo_imageAt, .int mo_goesBack])), (mo_asort, hcI k 1800 mo_rsort), (mo_anumber, hcI k 1800 mo_rnumber), (mo_aasked, hcJ k 11 mo_rasked), (mo_astack, hcJ k 300 f38)]) H := hP
            have hD : va_D A ([(mo, .inr (7, [.int mo_thrown, .ref mo_ascalar, .ref mo_acane, .ref mo_ais, .ref mo_astrandOf, .ref mo_aweight, .ref mo_aheight, .ref mo_achairOf, .ref mo_anoteMinute, .ref mo_anoteWho, .ref mo_anoteIs, .ref mo_atoldCane, .ref mo_anewScalar, .ref mo_anewCane, .ref mo_anewHeight, .ref mo_anewStrand, .ref mo_anewChair, .ref mo_anewWeight, .int mo_taped, .int mo_p, .int mo_fault, .int mo_slot, .int mo_rules, .int mo_entries, .int mo_deep, .int mo_counted, .int mo_opened, .int mo_words, .ref mo_atape, .ref mo_asort, .ref mo_anumber, .ref mo_aclauses, .ref mo_asumAt, .ref mo_atestAt, .ref mo_aendAt, .ref mo_aopen, .ref mo_aasked, .ref mo_astack, .ref mo_amust, .ref mo_apast, .ref mo_apastOf, .int mo_pastMany, .int mo_pastAt, .int mo_takesBack, .ref mo_acanRise, .ref mo_afirstHas, .ref mo_asecondHas, .ref mo_alay, .ref mo_ashows, .ref mo_aimages, .ref mo_aisMade, .int mo_imageAt, .int mo_goesBack])), (mo_asort, hcI k 1800 mo_rsort), (mo_anumber, hcI k 1800 mo_rnumber), (mo_aasked, hcJ k 11 mo_rasked), (mo_astack, hcJ k 300 f38)]) := hD
            obtain ⟨z39, ez39⟩ : ∃ z : Int32, z = L4_1 + 1 := ⟨_, rfl⟩
            have tz39 : z39.toInt = L4_1.toInt + (1) := ai_add rfl (by decide) ez39 (by omega) (by omega)
            refine lv_iinc (v := z39) (lv' := [(4, .int z39), (7, .int z9), (6, .int z6), (5, .int L5_1), (0, .ref mo), (1, .int x1), (2, .int x2), (3, .int x3)]) hx hb dX9_answer_78 hl (k := 3) rfl (by rw [ez39]; rfl) (by decide) rfl (fun ls hl => ?_)
            refine lv_goto (tgt := 147) hx hb dX9_answer_81 (by decide) ?_
            obtain ⟨z40, ez40⟩ : ∃ z : Int32, z = L5_1 + 1 := ⟨_, rfl⟩
            have tz40 : z40.toInt = L5_1.toInt + (1) := ai_add rfl (by decide) ez40 (by omega) (by omega)
            refine lv_iinc (v := z40) (lv' := [(5, .int z40), (4, .int z39), (7, .int z9), (6, .int z6), (0, .ref mo), (1, .int x1), (2, .int x2), (3, .int x3)]) hx hb dX9_answer_147 hl (k := 3) rfl (by rw [ez40]; rfl) (by decide) rfl (fun ls hl => ?_)
            refine lv_goto (tgt := 6) hx hb dX9_answer_150 (by decide) ?_
            exact ih1 z39 z40 f38 ⟨by omega, by omega⟩ ⟨by omega, by omega⟩ (by omega) (by omega) (by rw [show z40.toInt = L5_1.toInt + 1 from by omega, show z39.toInt = L4_1.toInt + 1 from by omega]; rcases hstp with g | g | g <;> first | exact g.2 | exact g.2.2 | exact g.2.2.2.2 | exact absurd g.1 (by omega) | (exfalso; omega)) (by omega) _ _ _ hP hD hS (lv_sub hl [0, 1, 4, 5, 6, 7] rfl)
  exact loop1 400 0 x2 mo_rstack (iv_lit (by decide) (by decide)) ⟨by omega, by omega⟩ (by have q0 : (0 : Int32).toInt = 0 := (by decide); omega) (by have q0 : (0 : Int32).toInt = 0 := (by decide); omega) (by rw [sp0]; exact hg_run) (by have q0 : (0 : Int32).toInt = 0 := (by decide); omega) _ _ _ hP hD hS hl
