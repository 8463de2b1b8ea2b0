/-! contracts over worlds in pieces -/
theorem qm_A {w1 w2 : va_W} (p : w1.Perm w2) (sz : Nat) : va_A w1 sz = va_A w2 sz := by
  funext q
  apply propext
  constructor
  · rintro (⟨k, e, h⟩ | h)
    · obtain ⟨j, hj⟩ := List.mem_iff_getElem?.mp (p.mem_iff.mp (List.mem_of_getElem? h))
      exact Or.inl ⟨j, e, hj⟩
    · exact Or.inr h
  · rintro (⟨k, e, h⟩ | h)
    · obtain ⟨j, hj⟩ := List.mem_iff_getElem?.mp (p.mem_iff.mpr (List.mem_of_getElem? h))
      exact Or.inl ⟨j, e, hj⟩
    · exact Or.inr h
theorem q_ndo (n m q : Nat) : va_nd (List.range n) = true ∧ va_nd (List.range' n m) = true ∧ va_nd (List.range' m q ++ List.range m) = true ∧ ∀ i ∈ List.range' n m, i ∉ List.range n := by
  refine ⟨q_nd0 List.nodup_range, q_nd0 List.nodup_range', q_nd0 ?_, fun i h z => ?_⟩
  · rw [List.nodup_append]
    refine ⟨List.nodup_range', List.nodup_range, fun a ha b hb e => ?_⟩
    have := List.mem_range'_1.mp ha
    have := List.mem_range.mp hb
    omega
  · have := List.mem_range'_1.mp h
    have := List.mem_range.mp z
    omega
theorem ql_eq {us us' : List va_W} : ∀ {is : List Nat}, (∀ j ∈ is, us'.getD j [] = us.getD j []) → ql us' is = ql us is := by
  intro is h
  unfold ql
  rw [qt_fm, qt_fm]
  induction is with
  | nil => rfl
  | cons i l ih =>
    rw [List.flatMap_cons, List.flatMap_cons, ih (fun j hj => h j (List.mem_cons_of_mem _ hj))]
    exact congrArg (· ++ _) (h i (List.mem_cons_self ..))
noncomputable def qall (f g : Nat → va_W) : List Nat → Prop
  | [] => True
  | i :: l => f i = g i ∧ qall f g l
theorem qall_of {f g : Nat → va_W} : ∀ {l : List Nat}, qall f g l → ∀ j ∈ l, f j = g j
  | [], _, _, h => absurd h List.not_mem_nil
  | i :: l, q, j, h => by
    rcases List.mem_cons.mp h with e | e
    · rw [e]
      exact q.1
    · exact qall_of q.2 j e
section QFR
variable {l : Launch} {y : MethodName} {wd : List Cond} {rm : Room} {av : List Value} {D : va_G} {k : Nat → ClassId} {sz mc ms : Nat} {ws wc wp wp' : va_W} {post : Int32 → Unit → Prop} {E : (Nat → Prop) → State → Prop}
theorem CtI.qf0 (h : CtI l y wd rm av D k sz wc post (fun _ : Unit => wp) mc ms) (wr : va_W) : CtI l y wd rm av D k sz (wc ++ wr) post (fun _ : Unit => wp ++ wr) mc ms :=
  CtI.fr (wr := wr) h (List.range wc.length) (List.range' wc.length wr.length) (List.range' wr.length wp.length ++ List.range wr.length) (fun u => u) (q_l wc wr) (q_r wc wr) (q_ndo _ _ _) (fun _ => by rw [List.map_append, q_r, q_l, List.map_append]) (fr_in _ (q_l wc wr)) (fun _ _ z => z)
theorem CtIE.qf0 (hE : EOk E) (h : CtIE l y wd rm av D k E sz wc post (fun _ : Unit => wp) mc ms) (wr : va_W) : CtIE l y wd rm av D k E sz (wc ++ wr) post (fun _ : Unit => wp ++ wr) mc ms :=
  CtIE.fr (wr := wr) hE h (List.range wc.length) (List.range' wc.length wr.length) (List.range' wr.length wp.length ++ List.range wr.length) (fun u => u) (q_l wc wr) (q_r wc wr) (q_ndo _ _ _) (fun _ => by rw [List.map_append, q_r, q_l, List.map_append]) (fr_in _ (q_l wc wr)) (fun _ _ z => z)
theorem CtI.qp (h : CtI l y wd rm av D k sz wc post (fun _ : Unit => wp) mc ms) (p : wc.Perm ws) (p' : wp.Perm wp') : CtI l y wd rm av D k sz ws post (fun _ : Unit => wp') mc ms := by
  have eA := qm_A p sz
  unfold CtI at h ⊢
  rw [← eA]
  exact Met.wk h (fun a st q => ⟨q.1, q.2.1, qm_P p.symm q.2.2.1, q.2.2.2.1, qm_D p.symm q.2.2.2.2⟩) (fun a st o t _ q => by
    obtain ⟨⟨r, u, e1, e2, e3, e4⟩, e5⟩ := q
    exact ⟨⟨r, u, e1, e2, qm_P p' e3, qm_D p' e4⟩, e5⟩) (fun _ q => q)
theorem CtIE.qp (h : CtIE l y wd rm av D k E sz wc post (fun _ : Unit => wp) mc ms) (p : wc.Perm ws) (p' : wp.Perm wp') : CtIE l y wd rm av D k E sz ws post (fun _ : Unit => wp') mc ms := by
  have eA := qm_A p sz
  unfold CtIE at h ⊢
  rw [← eA]
  exact Met.wk h (fun a st q => ⟨q.1, ⟨q.2.1.1, qm_P p.symm q.2.1.2.1, q.2.1.2.2.1, qm_D p.symm q.2.1.2.2.2⟩, q.2.2⟩) (fun a st o t _ q => by
    obtain ⟨⟨r, u, e1, e2, e3, e4⟩, e5⟩ := q
    exact ⟨⟨r, u, e1, e2, qm_P p' e3, qm_D p' e4⟩, e5⟩) (fun _ q => q)
theorem CtI.qfr {us us' : List va_W} (isC isR is : List Nat) (h : CtI l y wd rm av D k sz (ql us isC) post (fun _ : Unit => ql us' isC) mc ms) (hp : is.Perm (isC ++ isR)) (hr : ∀ j ∈ isR, us'.getD j [] = us.getD j []) : CtI l y wd rm av D k sz (ql us is) post (fun _ : Unit => ql us' is) mc ms := by
  refine CtI.qp (CtI.qf0 h (ql us isR)) (q_to us is isC isR hp).symm ?_
  rw [← ql_eq hr]
  exact (q_to us' is isC isR hp).symm
theorem CtIE.qfr {us us' : List va_W} (hE : EOk E) (isC isR is : List Nat) (h : CtIE l y wd rm av D k E sz (ql us isC) post (fun _ : Unit => ql us' isC) mc ms) (hp : is.Perm (isC ++ isR)) (hr : ∀ j ∈ isR, us'.getD j [] = us.getD j []) : CtIE l y wd rm av D k E sz (ql us is) post (fun _ : Unit => ql us' is) mc ms := by
  refine CtIE.qp (CtIE.qf0 hE h (ql us isR)) (q_to us is isC isR hp).symm ?_
  rw [← ql_eq hr]
  exact (q_to us' is isC isR hp).symm
end QFR
