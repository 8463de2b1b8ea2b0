/-! worlds in pieces -/
section QMT
variable {D : va_G} {cl : List vw_C} {H : Heap} {A : Nat → Prop} {w1 w2 : va_W}
theorem qm_P (p : w1.Perm w2) (h : va_P D cl w1 H) : va_P D cl w2 H := fun k q hk => by
  obtain ⟨j, hj⟩ := List.mem_iff_getElem?.mp (p.mem_iff.mpr (List.mem_of_getElem? hk))
  exact h j q hj
theorem qm_n : (∀ (i j : Nat) (p q : Nat × va_E), w1[i]? = some p → w1[j]? = some q → p.1 = q.1 → i = j) ↔ List.Pairwise (fun p q : Nat × va_E => p.1 ≠ q.1) w1 := by
  rw [List.pairwise_iff_getElem]
  constructor
  · intro h i j hi hj hij e
    have := h i j _ _ (List.getElem?_eq_getElem hi) (List.getElem?_eq_getElem hj) e
    omega
  · intro h i j p q hp hq e
    obtain ⟨hi, ei⟩ := List.getElem?_eq_some_iff.mp hp
    obtain ⟨hj, ej⟩ := List.getElem?_eq_some_iff.mp hq
    rcases Nat.lt_trichotomy i j with u | u | u
    · have := h i j hi hj u
      rw [ei, ej] at this
      exact absurd e this
    · exact u
    · have := h j i hj hi u
      rw [ei, ej] at this
      exact absurd e.symm this
theorem qm_D (p : w1.Perm w2) (h : va_D A w1) : va_D A w2 := by
  refine ⟨qm_n.mpr ((p.pairwise_iff (fun {x y} (z : x.1 ≠ y.1) => Ne.symm z)).mp (qm_n.mp h.1)), fun k q hk => ?_⟩
  obtain ⟨j, hj⟩ := List.mem_iff_getElem?.mp (p.mem_iff.mpr (List.mem_of_getElem? hk))
  exact h.2 j q hj
theorem qm (hP : va_P D cl w1 H) (hD : va_D A w1) (p : w1.Perm w2) : va_P D cl w2 H ∧ va_D A w2 := ⟨qm_P p hP, qm_D p hD⟩
end QMT
theorem q_nd0 {l : List Nat} (h : l.Nodup) : va_nd l = true := by
  induction l with
  | nil => rfl
  | cons a l ih =>
    rw [List.nodup_cons] at h
    simp only [va_nd, Bool.and_eq_true, decide_eq_true_eq]
    exact ⟨h.1, ih h.2⟩
theorem q_l {α : Type} (w1 w2 : List α) : (List.range w1.length).map (fun i => (w1 ++ w2)[i]?) = w1.map some := by
  apply List.ext_getElem?
  intro i
  by_cases hi : i < w1.length
  · simp [List.getElem?_append_left hi, hi]
  · simp [hi]
theorem q_r {α : Type} (w1 w2 : List α) : (List.range' w1.length w2.length).map (fun i => (w1 ++ w2)[i]?) = w2.map some := by
  apply List.ext_getElem?
  intro i
  by_cases hi : i < w2.length
  · simp [hi, List.getElem?_append_right]
  · simp [hi]
theorem q_nd (n m : Nat) : va_nd (List.range n) = true ∧ va_nd (List.range' n m) = true ∧ ∀ i ∈ List.range' n m, i ∉ List.range n := by
  refine ⟨q_nd0 List.nodup_range, q_nd0 List.nodup_range', fun i h z => ?_⟩
  have := List.mem_range'_1.mp h
  have := List.mem_range.mp z
  omega
theorem q_nd2 (n m : Nat) : va_nd (List.range' n m) = true ∧ va_nd (List.range n) = true ∧ ∀ i ∈ List.range n, i ∉ List.range' n m := by
  refine ⟨q_nd0 List.nodup_range', q_nd0 List.nodup_range, fun i h z => ?_⟩
  have := List.mem_range'_1.mp z
  have := List.mem_range.mp h
  omega
noncomputable def qt (f : Nat → va_W) : List Nat → va_W
  | [] => []
  | [i] => f i
  | i :: j :: l => f i ++ qt f (j :: l)
theorem qt_fm (f : Nat → va_W) : ∀ l, qt f l = l.flatMap f
  | [] => rfl
  | [i] => by simp [qt]
  | i :: j :: l => by
    show f i ++ qt f (j :: l) = _
    rw [qt_fm f (j :: l)]
    exact List.flatMap_cons.symm
noncomputable def ql (us : List va_W) (l : List Nat) : va_W := qt (fun i => us.getD i []) l
theorem q_to (us : List va_W) (is isC isR : List Nat) (h : is.Perm (isC ++ isR)) : (ql us is).Perm (ql us isC ++ ql us isR) := by
  unfold ql
  rw [qt_fm, qt_fm, qt_fm, ← List.flatMap_append]
  exact h.flatMap_right _
theorem q_from (us : List va_W) (isR isC is : List Nat) (h : (isR ++ isC).Perm is) : (ql us isR ++ ql us isC).Perm (ql us is) := by
  unfold ql
  rw [qt_fm, qt_fm, qt_fm, ← List.flatMap_append]
  exact h.flatMap_right _
