/-! frames over pieces of a world -/
section PMT
variable {D : va_G} {cl : List vw_C} {H : Heap} {A : Nat → Prop} {w1 w2 : va_W}
theorem pm_P (p : w1.Perm w2) (h : va_P D cl w1 H) : va_P D cl w2 H := fun k q hk => by
  obtain ⟨j, hj⟩ := List.mem_iff_getElem?.mp (p.mem_iff.mpr (List.mem_of_getElem? hk))
  exact h j q hj
theorem pm_n : (∀ (i j : Nat) (p q : Nat × va_E), w1[i]? = some p → w1[j]? = some q → p.1 = q.1 → i = j) ↔ List.Pairwise (fun p q : Nat × va_E => p.1 ≠ q.1) w1 := by
  rw [List.pairwise_iff_getElem]
  constructor
  · intro h i j hi hj hij e
    have := h i j _ _ (List.getElem?_eq_getElem hi) (List.getElem?_eq_getElem hj) e
    omega
  · intro h i j p q hp hq e
    obtain ⟨hi, ei⟩ := List.getElem?_eq_some_iff.mp hp
    obtain ⟨hj, ej⟩ := List.getElem?_eq_some_iff.mp hq
    rcases Nat.lt_trichotomy i j with u | u | u
    · have := h i j hi hj u
      rw [ei, ej] at this
      exact absurd e this
    · exact u
    · have := h j i hj hi u
      rw [ei, ej] at this
      exact absurd e.symm this
theorem pm_D (p : w1.Perm w2) (h : va_D A w1) : va_D A w2 := by
  refine ⟨pm_n.mpr ((p.pairwise_iff (fun {x y} (z : x.1 ≠ y.1) => Ne.symm z)).mp (pm_n.mp h.1)), fun k q hk => ?_⟩
  obtain ⟨j, hj⟩ := List.mem_iff_getElem?.mp (p.mem_iff.mpr (List.mem_of_getElem? hk))
  exact h.2 j q hj
theorem pm_A (p : w1.Perm w2) (sz : Nat) : va_A w1 sz = va_A w2 sz := by
  funext q
  apply propext
  constructor
  · rintro (⟨k, e, h⟩ | h)
    · obtain ⟨j, hj⟩ := List.mem_iff_getElem?.mp (p.mem_iff.mp (List.mem_of_getElem? h))
      exact Or.inl ⟨j, e, hj⟩
    · exact Or.inr h
  · rintro (⟨k, e, h⟩ | h)
    · obtain ⟨j, hj⟩ := List.mem_iff_getElem?.mp (p.mem_iff.mpr (List.mem_of_getElem? h))
      exact Or.inl ⟨j, e, hj⟩
    · exact Or.inr h
end PMT
theorem nd_of {l : List Nat} (h : l.Nodup) : va_nd l = true := by
  induction l with
  | nil => rfl
  | cons a l ih =>
    rw [List.nodup_cons] at h
    simp only [va_nd, Bool.and_eq_true, decide_eq_true_eq]
    exact ⟨h.1, ih h.2⟩
theorem gl_l {α : Type} (w1 w2 : List α) : (List.range w1.length).map (fun i => (w1 ++ w2)[i]?) = w1.map some := by
  apply List.ext_getElem?
  intro i
  by_cases hi : i < w1.length
  · simp [List.getElem?_append_left hi, hi]
  · simp [hi]
theorem gl_r {α : Type} (w1 w2 : List α) : (List.range' w1.length w2.length).map (fun i => (w1 ++ w2)[i]?) = w2.map some := by
  apply List.ext_getElem?
  intro i
  by_cases hi : i < w2.length
  · simp [hi, List.getElem?_append_right]
  · simp [hi]
section FRS
variable {l : Launch} {y : MethodName} {wd : List Cond} {rm : Room} {av : List Value} {D : va_G} {k : Nat → ClassId} {sz mc ms : Nat} {ws wc wp wp' : va_W} {post : Int32 → Unit → Prop} {E : (Nat → Prop) → State → Prop}
theorem fr_nds (n m q : Nat) : va_nd (List.range n) = true ∧ va_nd (List.range' n m) = true ∧ va_nd (List.range' m q ++ List.range m) = true ∧ ∀ i ∈ List.range' n m, i ∉ List.range n := by
  refine ⟨nd_of List.nodup_range, nd_of List.nodup_range', nd_of ?_, fun i h z => ?_⟩
  · rw [List.nodup_append]
    refine ⟨List.nodup_range', List.nodup_range, fun a ha b hb e => ?_⟩
    have := List.mem_range'_1.mp ha
    have := List.mem_range.mp hb
    omega
  · have := List.mem_range'_1.mp h
    have := List.mem_range.mp z
    omega
theorem CtI.fr0 (h : CtI l y wd rm av D k sz wc post (fun _ : Unit => wp) mc ms) (wr : va_W) : CtI l y wd rm av D k sz (wc ++ wr) post (fun _ : Unit => wp ++ wr) mc ms :=
  CtI.fr (wr := wr) h (List.range wc.length) (List.range' wc.length wr.length) (List.range' wr.length wp.length ++ List.range wr.length) (fun u => u) (gl_l wc wr) (gl_r wc wr) (fr_nds _ _ _) (fun _ => by rw [List.map_append, gl_r, gl_l, List.map_append]) (fr_in _ (gl_l wc wr)) (fun _ _ z => z)
theorem CtIE.fr0 (hE : EOk E) (h : CtIE l y wd rm av D k E sz wc post (fun _ : Unit => wp) mc ms) (wr : va_W) : CtIE l y wd rm av D k E sz (wc ++ wr) post (fun _ : Unit => wp ++ wr) mc ms :=
  CtIE.fr (wr := wr) hE h (List.range wc.length) (List.range' wc.length wr.length) (List.range' wr.length wp.length ++ List.range wr.length) (fun u => u) (gl_l wc wr) (gl_r wc wr) (fr_nds _ _ _) (fun _ => by rw [List.map_append, gl_r, gl_l, List.map_append]) (fr_in _ (gl_l wc wr)) (fun _ _ z => z)
theorem CtI.pm (h : CtI l y wd rm av D k sz wc post (fun _ : Unit => wp) mc ms) (p : wc.Perm ws) (p' : wp.Perm wp') : CtI l y wd rm av D k sz ws post (fun _ : Unit => wp') mc ms := by
  have eA := pm_A p sz
  unfold CtI at h ⊢
  rw [← eA]
  exact Met.wk h (fun a st q => ⟨q.1, q.2.1, pm_P p.symm q.2.2.1, q.2.2.2.1, pm_D p.symm q.2.2.2.2⟩) (fun a st o t _ q => by
    obtain ⟨⟨r, u, e1, e2, e3, e4⟩, e5⟩ := q
    exact ⟨⟨r, u, e1, e2, pm_P p' e3, pm_D p' e4⟩, e5⟩) (fun _ q => q)
theorem CtIE.pm (h : CtIE l y wd rm av D k E sz wc post (fun _ : Unit => wp) mc ms) (p : wc.Perm ws) (p' : wp.Perm wp') : CtIE l y wd rm av D k E sz ws post (fun _ : Unit => wp') mc ms := by
  have eA := pm_A p sz
  unfold CtIE at h ⊢
  rw [← eA]
  exact Met.wk h (fun a st q => ⟨q.1, ⟨q.2.1.1, pm_P p.symm q.2.1.2.1, q.2.1.2.2.1, pm_D p.symm q.2.1.2.2.2⟩, q.2.2⟩) (fun a st o t _ q => by
    obtain ⟨⟨r, u, e1, e2, e3, e4⟩, e5⟩ := q
    exact ⟨⟨r, u, e1, e2, pm_P p' e3, pm_D p' e4⟩, e5⟩) (fun _ q => q)
/-- pieces one behind the other -/
noncomputable def cat (f : Nat → va_W) : List Nat → va_W
  | [] => []
  | [i] => f i
  | i :: j :: l => f i ++ cat f (j :: l)
theorem cat_fm (f : Nat → va_W) : ∀ l, cat f l = l.flatMap f
  | [] => rfl
  | [i] => by simp [cat]
  | i :: j :: l => by
    show f i ++ cat f (j :: l) = _
    rw [cat_fm f (j :: l)]
    exact List.flatMap_cons.symm
theorem fm_cg {f g : Nat → va_W} : ∀ {l : List Nat}, (∀ j ∈ l, g j = f j) → l.flatMap g = l.flatMap f
  | [], _ => rfl
  | i :: l, h => by
    rw [List.flatMap_cons, List.flatMap_cons, h i (List.mem_cons_self ..), fm_cg (l := l) (fun j hj => h j (List.mem_cons_of_mem _ hj))]
theorem fm_pm {n : Nat} {f g : Nat → va_W} (isC isR : List Nat) (hp : (isC ++ isR).Perm (List.range n)) (hr : ∀ j ∈ isR, g j = f j) : (cat f isC ++ isR.flatMap f).Perm ((List.range n).flatMap f) ∧ (cat g isC ++ isR.flatMap f).Perm ((List.range n).flatMap g) := by
  refine ⟨?_, ?_⟩
  · rw [cat_fm, ← List.flatMap_append]
    exact hp.flatMap_right f
  · rw [cat_fm, ← fm_cg hr, ← List.flatMap_append]
    exact hp.flatMap_right g
theorem CtI.frC {n : Nat} {f g : Nat → va_W} (isC isR : List Nat) (h : CtI l y wd rm av D k sz (cat f isC) post (fun _ : Unit => cat g isC) mc ms) (hp : (isC ++ isR).Perm (List.range n)) (hr : ∀ j ∈ isR, g j = f j) : CtI l y wd rm av D k sz ((List.range n).flatMap f) post (fun _ : Unit => (List.range n).flatMap g) mc ms :=
  CtI.pm (CtI.fr0 h (isR.flatMap f)) (fm_pm isC isR hp hr).1 (fm_pm isC isR hp hr).2
theorem CtIE.frC {n : Nat} {f g : Nat → va_W} (hE : EOk E) (isC isR : List Nat) (h : CtIE l y wd rm av D k E sz (cat f isC) post (fun _ : Unit => cat g isC) mc ms) (hp : (isC ++ isR).Perm (List.range n)) (hr : ∀ j ∈ isR, g j = f j) : CtIE l y wd rm av D k E sz ((List.range n).flatMap f) post (fun _ : Unit => (List.range n).flatMap g) mc ms :=
  CtIE.pm (CtIE.fr0 hE h (isR.flatMap f)) (fm_pm isC isR hp hr).1 (fm_pm isC isR hp hr).2
end FRS
noncomputable def allq (f g : Nat → va_W) : List Nat → Prop
  | [] => True
  | i :: l => f i = g i ∧ allq f g l
theorem allq_of {f g : Nat → va_W} : ∀ {l : List Nat}, allq f g l → ∀ j ∈ l, f j = g j
  | [], _, _, h => absurd h List.not_mem_nil
  | i :: l, q, j, h => by
    rcases List.mem_cons.mp h with e | e
    · rw [e]
      exact q.1
    · exact allq_of q.2 j e
/-! the worlds of the law, over what the functions change -/
abbrev CSt : Type := (Nat → Int32) × OB × (Nat → Int32) × OB × OB × OB × (Nat → Int32) × OB × (Nat → Int32) × (Nat → Int32) × (Nat → Int32) × (Nat → Int32) × (Nat → Int32) × (Nat → OB) × (Nat → IZ1)
noncomputable def taz (a : Nat → Nat) : Nat → Nat := fun j => [a 1, a 12, a 13, a 14, a 15].getD j 0
noncomputable def xaz (a : Nat → Nat) : Nat → Nat := fun j => [a 16, a 19, a 20, a 21, a 22, a 23, a 24, a 25, a 26].getD j 0
noncomputable def caz (a : Nat → Nat) : Nat → Nat := fun j => [a 17, a 27, a 28, a 29].getD j 0
noncomputable def naz (a : Nat → Nat) : Nat → Nat := fun j => [a 18, a 30, a 31, a 32].getD j 0
noncomputable def trz (a : Nat → Nat) : Nat → Nat := fun j => [a 6, a 33, a 34, a 35, a 36, a 37, a 38, a 39, a 40].getD j 0
noncomputable def sgC (k : Nat → ClassId) (a ra ia : Nat → Nat) (rr ii : Nat → Option Nat) (s : CSt) : Nat → va_W
  | 0 => ([((a 0), .inr (6, [.ref (a 1), .ref (a 2), .int (s.1 2), .ref (a 3), .ref (a 4), .ref (a 5), .ref (a 6), .ref (a 7), .ref (a 8), .ref (a 9), .ref (a 10), .ref (a 11)]))] : va_W)
  | 1 => tpW k (taz a) s.2.1
  | 2 => ([((a 2), hcR k 6 rr)] : va_W)
  | 3 => ([((a 3), .inr (4, [.ref (a 16), .ref (a 17), .ref (a 18), .int (s.2.2.1 3), .int (s.2.2.1 4)]))] : va_W)
  | 4 => rmW k (xaz a) s.2.2.2.1
  | 5 => acW k (caz a) s.2.2.2.2.1
  | 6 => ntW k (naz a) s.2.2.2.2.2.1
  | 7 => ([((a 4), hcS k 4 ii)] : va_W)
  | 8 => ([((a 5), hcZ k 4 s.2.2.2.2.2.2.1)] : va_W)
  | 9 => rmW k (trz a) s.2.2.2.2.2.2.2.1
  | 10 => ([((a 7), hcZ k 256 s.2.2.2.2.2.2.2.2.1)] : va_W)
  | 11 => ([((a 8), hcI k 4 s.2.2.2.2.2.2.2.2.2.1)] : va_W)
  | 12 => ([((a 9), hcI k 4 s.2.2.2.2.2.2.2.2.2.2.1)] : va_W)
  | 13 => ([((a 10), hcI k 61 s.2.2.2.2.2.2.2.2.2.2.2.1)] : va_W)
  | 14 => ([((a 11), hcI k 24 s.2.2.2.2.2.2.2.2.2.2.2.2.1)] : va_W)
  | 15 => RU k ra s.2.2.2.2.2.2.2.2.2.2.2.2.2.1
  | 16 => ([((ia 0), .inr (4, [.ref (ia 1), .ref (ia 10), .ref (ia 14), .int ((s.2.2.2.2.2.2.2.2.2.2.2.2.2.2 0).1 3), .int ((s.2.2.2.2.2.2.2.2.2.2.2.2.2.2 0).1 4)]))] : va_W)
  | 17 => rmW k (fun j => ia (1 + j)) (s.2.2.2.2.2.2.2.2.2.2.2.2.2.2 0).2.1
  | 18 => acW k (fun j => ia (10 + j)) (s.2.2.2.2.2.2.2.2.2.2.2.2.2.2 0).2.2.1
  | 19 => ntW k (fun j => ia (14 + j)) (s.2.2.2.2.2.2.2.2.2.2.2.2.2.2 0).2.2.2
  | 20 => ([((ia 18), .inr (4, [.ref (ia 19), .ref (ia 28), .ref (ia 32), .int ((s.2.2.2.2.2.2.2.2.2.2.2.2.2.2 1).1 3), .int ((s.2.2.2.2.2.2.2.2.2.2.2.2.2.2 1).1 4)]))] : va_W)
  | 21 => rmW k (fun j => ia (19 + j)) (s.2.2.2.2.2.2.2.2.2.2.2.2.2.2 1).2.1
  | 22 => acW k (fun j => ia (28 + j)) (s.2.2.2.2.2.2.2.2.2.2.2.2.2.2 1).2.2.1
  | 23 => ntW k (fun j => ia (32 + j)) (s.2.2.2.2.2.2.2.2.2.2.2.2.2.2 1).2.2.2
  | 24 => ([((ia 36), .inr (4, [.ref (ia 37), .ref (ia 46), .ref (ia 50), .int ((s.2.2.2.2.2.2.2.2.2.2.2.2.2.2 2).1 3), .int ((s.2.2.2.2.2.2.2.2.2.2.2.2.2.2 2).1 4)]))] : va_W)
  | 25 => rmW k (fun j => ia (37 + j)) (s.2.2.2.2.2.2.2.2.2.2.2.2.2.2 2).2.1
  | 26 => acW k (fun j => ia (46 + j)) (s.2.2.2.2.2.2.2.2.2.2.2.2.2.2 2).2.2.1
  | 27 => ntW k (fun j => ia (50 + j)) (s.2.2.2.2.2.2.2.2.2.2.2.2.2.2 2).2.2.2
  | 28 => ([((ia 54), .inr (4, [.ref (ia 55), .ref (ia 64), .ref (ia 68), .int ((s.2.2.2.2.2.2.2.2.2.2.2.2.2.2 3).1 3), .int ((s.2.2.2.2.2.2.2.2.2.2.2.2.2.2 3).1 4)]))] : va_W)
  | 29 => rmW k (fun j => ia (55 + j)) (s.2.2.2.2.2.2.2.2.2.2.2.2.2.2 3).2.1
  | 30 => acW k (fun j => ia (64 + j)) (s.2.2.2.2.2.2.2.2.2.2.2.2.2.2 3).2.2.1
  | 31 => ntW k (fun j => ia (68 + j)) (s.2.2.2.2.2.2.2.2.2.2.2.2.2.2 3).2.2.2
  | _ => []
noncomputable def CWs (k : Nat → ClassId) (a ra ia : Nat → Nat) (rr ii : Nat → Option Nat) (s : CSt) : va_W := (List.range 32).flatMap (sgC k a ra ia rr ii s)
noncomputable def GLs (s : CSt) (mo : OB) : Prop := GL s.1 s.2.1 s.2.2.1 s.2.2.2.1 s.2.2.2.2.1 s.2.2.2.2.2.1 s.2.2.2.2.2.2.1 s.2.2.2.2.2.2.2.1 s.2.2.2.2.2.2.2.2.2.2.2.2.2.1 s.2.2.2.2.2.2.2.2.2.2.2.2.2.2 mo
