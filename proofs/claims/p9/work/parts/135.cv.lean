/-! a world in another form: both facts at once -/
theorem cv {D : va_G} {cl : List vw_C} {H : Heap} {A : Nat → Prop} {w w' : va_W} (hP : va_P D cl w H) (hD : va_D A w) (e : w = w') : va_P D cl w' H ∧ va_D A w' := by
  subst e
  exact ⟨hP, hD⟩
theorem cvs {D : va_G} {cl : List vw_C} {H : Heap} {A : Nat → Prop} {w w' : va_W} (hP : va_P D cl w H) (hD : va_D A w) (is : List Nat) (hn : va_nd is = true) (e : is.map (fun i => w[i]?) = w'.map some) : va_P D cl w' H ∧ va_D A w' := by
  refine ⟨hP.sub is ?_, hD.sub is hn e⟩
  have h := congrArg (List.filterMap id) e
  simpa [List.filterMap_map] using h
