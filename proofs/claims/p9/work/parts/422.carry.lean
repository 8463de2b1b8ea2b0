/-! rows that are carried to and fro -/
theorem row_cong {D : va_G} {cl : List vw_C} {ws : va_W} {H : Heap} {a n : Nat} {cA : ClassId} {f g : Nat → Int32} (hP : va_P D cl ws H) (i : Nat) (hi : ws[i]? = some (a, .inl (cA, n, .inl f))) (h : ∀ j, j < n → f j = g j) : va_P D cl (ws.set i (a, .inl (cA, n, .inl g))) H := by
  intro k q hq
  by_cases e : k = i
  · subst e
    have hl : k < ws.length := by
      rcases Nat.lt_or_ge k ws.length with h1 | h1
      · exact h1
      · rw [List.getElem?_eq_none h1] at hi; cases hi
    rw [List.getElem?_set_self hl] at hq
    cases hq
    have h2 : H[a]? = some (vp_cell cA (n, .inl f)) := hP k _ hi
    show H[a]? = some (vp_cell cA (n, .inl g))
    rw [h2]
    have h3 : (fun j : Fin n => Value.int (f j.val)) = fun j : Fin n => Value.int (g j.val) := funext (fun j => by rw [h j.val j.isLt])
    show some (arrV cA n (fun j => .int (f j))) = some (arrV cA n (fun j => .int (g j)))
    unfold arrV
    rw [h3]
  · rw [List.getElem?_set_ne (fun q => e q.symm)] at hq
    exact hP k q hq
noncomputable def CpI (g0 g f : Nat → Int32) (a k : Int) : Prop := ∀ j : Nat, (a ≤ j → (j : Int) < a + k → g j = f ((j : Int) - a).toNat) ∧ (((j : Int) < a ∨ a + k ≤ j) → g j = g0 j)
theorem CpI.out {g0 g f : Nat → Int32} {a n : Int} (h : CpI g0 g f a n) {j : Nat} (hj : (j : Int) < a ∨ a + n ≤ j) : g j = g0 j := (h j).2 hj
theorem CpI.at {g0 g f : Nat → Int32} {a n : Int} (h : CpI g0 g f a n) {b i : Nat} (hb : (b : Int) = a) (hi : (i : Int) < n) : g (b + i) = f i := by
  rw [(h (b + i)).1 (by omega) (by omega)]
  congr 1
  omega
noncomputable def CpO (f0 f g : Nat → Int32) (a k : Int) : Prop := ∀ j : Nat, ((j : Int) < k → f j = g (a + j).toNat) ∧ (k ≤ j → f j = f0 j)
theorem CpO.at {f0 f g : Nat → Int32} {a n : Int} (h : CpO f0 f g a n) {b i : Nat} (hb : (b : Int) = a) (hi : (i : Int) < n) : f i = g (b + i) := by
  rw [(h i).1 hi]
  congr 1
  omega
/-! orders of entries that can be reckoned -/
noncomputable def run (so nu : Nat → Int32) : Nat → Nat → Nat → Nat → Prop
  | 0, _, h, h2 => h = h2
  | n + 1, b, h, h2 => (((so b).toInt = 0 ∨ ((so b).toInt = 1 ∧ 0 ≤ (nu b).toInt ∧ (nu b).toInt ≤ 10)) ∧ run so nu n (b + 1) (h + 1) h2) ∨ ((so b).toInt = 9 ∧ 1 ≤ h ∧ run so nu n (b + 1) h h2) ∨ ((so b).toInt ≠ 0 ∧ (so b).toInt ≠ 1 ∧ (so b).toInt ≠ 9 ∧ 2 ≤ h ∧ run so nu n (b + 1) (h - 1) h2)
noncomputable def RunFrom (so nu : Nat → Int32) (w k u n : Int) : Prop := ∃ h, run so nu (u - k).toNat (300 * w + k).toNat n.toNat h
/-- the next entry -/
theorem RunFrom.step {so nu : Nat → Int32} {w k u n : Int} {z v y : Int32} (h : RunFrom so nu w k u n) (hw : 0 ≤ w) (hk : 0 ≤ k) (hu : k < u) (hn : 0 ≤ n) (hz : z.toInt = 300 * w + k) (ev : v = so (Int32.toNatClampNeg z)) (ey : y = nu (Int32.toNatClampNeg z)) : ((v.toInt = 0 ∨ (v.toInt = 1 ∧ 0 ≤ y.toInt ∧ y.toInt ≤ 10)) ∧ RunFrom so nu w (k + 1) u (n + 1)) ∨ (v.toInt = 9 ∧ 1 ≤ n ∧ RunFrom so nu w (k + 1) u n) ∨ (v.toInt ≠ 0 ∧ v.toInt ≠ 1 ∧ v.toInt ≠ 9 ∧ 2 ≤ n ∧ RunFrom so nu w (k + 1) u (n - 1)) := by
  obtain ⟨h2, hr⟩ := h
  have e1 : (u - k).toNat = (u - (k + 1)).toNat + 1 := by omega
  have e2 := toNatClampNeg_toInt (x := z) (by omega)
  have e3 : (300 * w + k).toNat = Int32.toNatClampNeg z := by omega
  have e4 : (300 * w + (k + 1)).toNat = Int32.toNatClampNeg z + 1 := by omega
  rw [e1, e3] at hr
  unfold run at hr
  rw [← ev, ← ey] at hr
  unfold RunFrom
  rw [e4]
  rcases hr with ⟨q1, q2⟩ | ⟨q1, q2, q3⟩ | ⟨q1, q2, q3, q4, q5⟩
  · refine Or.inl ⟨q1, h2, ?_⟩
    rw [show (n + 1).toNat = n.toNat + 1 from by omega]
    exact q2
  · exact Or.inr (Or.inl ⟨q1, by omega, h2, q3⟩)
  · refine Or.inr (Or.inr ⟨q1, q2, q3, by omega, h2, ?_⟩)
    rw [show (n - 1).toNat = n.toNat - 1 from by omega]
    exact q5
noncomputable def RulesOk (rl : Int32) (cl sa ta ea so nu : Nat → Int32) : Prop := ∀ r : Nat, (r : Int) < rl.toInt → (cl r).toInt ≤ 12 ∧ ∀ c : Nat, (c : Int) < (cl r).toInt → RunFrom so nu r (sa (12 * r + c)).toInt (ta (12 * r + c)).toInt 0 ∧ RunFrom so nu r (ta (12 * r + c)).toInt (ea (12 * r + c)).toInt 0
theorem RulesOk.cl {rl r z : Int32} {cl sa ta ea so nu : Nat → Int32} (h : RulesOk rl cl sa ta ea so nu) (h0 : 0 ≤ r.toInt) (h1 : r.toInt < rl.toInt) (ez : z = cl (Int32.toNatClampNeg r)) : z.toInt ≤ 12 := by
  have e := toNatClampNeg_toInt h0
  rw [ez]
  exact (h _ (by omega)).1
theorem RulesOk.two {rl r c z x y t : Int32} {cl sa ta ea so nu : Nat → Int32} (h : RulesOk rl cl sa ta ea so nu) (h0 : 0 ≤ r.toInt) (h1 : r.toInt < rl.toInt) (ez : z = cl (Int32.toNatClampNeg r)) (h2 : 12 * r.toInt ≤ c.toInt) (h3 : c.toInt < 12 * r.toInt + z.toInt) : RunFrom so nu r.toInt (sa (Int32.toNatClampNeg c)).toInt (ta (Int32.toNatClampNeg c)).toInt 0 ∧ RunFrom so nu r.toInt (ta (Int32.toNatClampNeg c)).toInt (ea (Int32.toNatClampNeg c)).toInt 0 := by
  have e := toNatClampNeg_toInt h0
  have e2 := toNatClampNeg_toInt (x := c) (by omega)
  have e3 : Int32.toNatClampNeg c = 12 * Int32.toNatClampNeg r + (Int32.toNatClampNeg c - 12 * Int32.toNatClampNeg r) := by omega
  have e4 := (h (Int32.toNatClampNeg r) (by omega)).2 (Int32.toNatClampNeg c - 12 * Int32.toNatClampNeg r) (by rw [← ez]; omega)
  rw [← e3, ← e] at e4
  exact e4
