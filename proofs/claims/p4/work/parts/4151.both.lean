/-! two contracts of one call hold together: an invocation ends once -/
theorem room_le {s : State} {pl : Platform} {r r' : Room} (h : s.hasRoom pl r = true) (hr : r'.frames ≤ r.frames ∧ r'.cells ≤ r.cells ∧ r'.slots ≤ r.slots ∧ r'.locals ≤ r.locals) : s.hasRoom pl r' = true := by
  obtain ⟨h1, h2, h3, h4⟩ := hr
  unfold State.hasRoom at h ⊢
  simp only [Bool.and_eq_true, decide_eq_true_eq] at h ⊢
  obtain ⟨⟨⟨⟨a1, a2, a3, a4, a5, a6⟩, a7⟩, a8⟩, a9⟩ := h
  exact ⟨⟨⟨⟨by omega, by omega, by omega, by omega, by omega, a6⟩, by omega⟩, by omega⟩, a9⟩
theorem loose_le {ws : List Cond} {x : MethodName} {pl : Platform} {s : State} {m : MethodId} {args : Array Value} {below : List Frame} {r r' : Room} (hf : s.frames = .invoking m args :: below) (h : (headSpec ws r).appliesLoose x pl s = true) (hr : r'.frames ≤ r.frames ∧ r'.cells ≤ r.cells ∧ r'.slots ≤ r.slots ∧ r'.locals ≤ r.locals) : (headSpec ws r').appliesLoose x pl s = true := by
  unfold Spec.appliesLoose at h ⊢
  rw [hf] at h ⊢
  dsimp only at h ⊢
  rw [Bool.and_eq_true, Bool.and_eq_true] at h ⊢
  obtain ⟨⟨h1, h2⟩, h3⟩ := h
  exact ⟨⟨h1, room_le (r := r) h2 hr⟩, h3⟩
theorem Met.two {l : Launch} {y : MethodName} {ws : List Cond} {r1 r2 r : Room} {P P2 : Array Value → State → Prop} {Q1 Q2 : Array Value → State → Outcome → State → Prop} {mc ms mc2 ms2 : Nat} {f f2 : Addr → Prop} (h1 : Met l y ws r1 P Q1 mc ms f) (h2 : Met l y ws r2 P2 Q2 mc2 ms2 f2) (hP : ∀ a st, P a st → P2 a st) (l1 : r1.frames ≤ r.frames ∧ r1.cells ≤ r.cells ∧ r1.slots ≤ r.slots ∧ r1.locals ≤ r.locals) (l2 : r2.frames ≤ r.frames ∧ r2.cells ≤ r.cells ∧ r2.slots ≤ r.slots ∧ r2.locals ≤ r.locals) : Met l y ws r P (fun a st o t => Q1 a st o t ∧ Q2 a st o t) mc ms f := by
  intro p e ha hc hk s m args below hf happ hp hK
  obtain ⟨n, o, a1, a2, a3, a4, L, a5, a6⟩ := h1 p e ha hc hk s m args below hf (loose_le hf happ l1) hp hK
  obtain ⟨n', o', b1, b2, b3, b4, L', b5, b6⟩ := h2 p e ha hc hk s m args below hf (loose_le hf happ l2) (hP _ _ hp) trivial
  obtain ⟨rfl, rfl⟩ := the_end_unique (f := fun k => stepsAlone p.tables e k s) a1 a3 b1 b3
  exact ⟨n, o, a1, a2, a3, ⟨a4, b4⟩, L, a5, a6⟩
theorem Qi_two {S S2 : Type} {D : va_G} {post : Int32 → S → Prop} {wp : S → va_W} {post2 : Int32 → S2 → Prop} {wp2 : S2 → va_W} {A A2 : Nat → Prop} {a : Array Value} {st t : State} {o : Outcome} (h : va_Qi post (hcB D wp A) A a st o t ∧ va_Qi post2 (hcB D wp2 A2) A2 a st o t) : va_Qi (fun r u => post r u ∧ ∃ (u2 : S2) (H : Heap), post2 r u2 ∧ va_P D vwCl (wp u) H ∧ va_P D vwCl (wp2 u2) H) (hcB D wp A) A a st o t := by
  obtain ⟨⟨⟨r, u, e1, e2, e3, e4⟩, e5⟩, ⟨⟨r2, u2, f1, f2, f3, f4⟩, f5⟩⟩ := h
  have hr : r2 = r := by
    rw [e1] at f1
    cases f1
    rfl
  subst hr
  exact ⟨⟨r2, u, e1, ⟨e2, u2, t.heap, f2, e3, f3⟩, e3, e4⟩, e5⟩
theorem CtIE.two {l : Launch} {y : MethodName} {wd : List Cond} {r1 r2 r : Room} {av : List Value} {D : va_G} {k : Nat → ClassId} {sz : Nat} {ws wc : va_W} {S S2 : Type} {E1 E2 : (Nat → Prop) → State → Prop} {post : Int32 → S → Prop} {wp : S → va_W} {post2 : Int32 → S2 → Prop} {wp2 : S2 → va_W} (hE : EOk E2) (h12 : ∀ A U, E2 A U → E1 A U) (h1 : CtIE l y wd r1 av D k E1 sz ws post wp 0 0) (h2 : CtIE l y wd r2 av D k E2 sz wc post2 wp2 0 0) (hpre : ∀ st, hcP D k sz ws st → hcP D k sz wc st) (hx : ∀ q, va_A wc sz q → va_A ws sz q) (l1 : r1.frames ≤ r.frames ∧ r1.cells ≤ r.cells ∧ r1.slots ≤ r.slots ∧ r1.locals ≤ r.locals) (l2 : r2.frames ≤ r.frames ∧ r2.cells ≤ r.cells ∧ r2.slots ≤ r.slots ∧ r2.locals ≤ r.locals) : CtIE l y wd r av D k E2 sz ws (fun r u => post r u ∧ ∃ (u2 : S2) (H : Heap), post2 r u2 ∧ va_P D vwCl (wp u) H ∧ va_P D vwCl (wp2 u2) H) wp 0 0 := by
  have g1 : Met l y wd r1 (va_Pc av (fun U => hcP D k sz ws U ∧ E2 (va_A ws sz) U)) (va_Qi post (hcB D wp (va_A ws sz)) (va_A ws sz)) 0 0 (va_A ws sz) := Met.wk h1 (fun a st q => ⟨q.1, q.2.1, h12 _ _ q.2.2⟩) (fun _ _ _ _ _ q => q) (fun _ q => q)
  exact Met.wk (Met.two g1 h2 (fun a st q => ⟨q.1, hpre st q.2.1, hE.2 _ _ st st st.heap [] q.2.2 va_S.rf hx rfl (State.WarmedH.refl st)⟩) l1 l2) (fun _ _ q => q) (fun a st o t _ q => Qi_two q) (fun _ q => q)
/-- one heap holds one number at one place of an object -/
theorem at_int {D : va_G} {ci : Nat} {H : Heap} {w1 w2 : va_W} {a i j n : Nat} {f g : List Value} {x y : Int32} (h1 : va_P D vwCl w1 H) (h2 : va_P D vwCl w2 H) (e1 : w1[i]? = some (a, .inr (ci, f))) (e2 : w2[j]? = some (a, .inr (ci, g))) (hx : f[n]? = some (.int x)) (hy : g[n]? = some (.int y)) (hn : ∀ q, vwCl[ci]? = some q → n < q.2.2) : x = y := by
  obtain ⟨r, q1, c, q2, q3, q4, q5⟩ := h1 i _ e1
  obtain ⟨r', p1, c', p2, p3, p4, p5⟩ := h2 j _ e2
  cases q1.symm.trans p1
  cases q2.symm.trans p2
  have a1 := q5 n (hn _ q1)
  have a2 := p5 n (hn _ q1)
  have a3 := Option.some.inj (a1.symm.trans a2)
  unfold vp_V at a3
  rw [List.getD_eq_getElem?_getD, List.getD_eq_getElem?_getD, hx, hy] at a3
  exact Value.int.inj a3
theorem strF_of {A : Nat → Prop} {a t n : Nat} {f : Nat → Int32} {U : State} {H : Heap} (h : strF A a t n f U H) : strF_i A a t n U H := ⟨h.1, h.2.1, h.2.2.1, f, h.2.2.2⟩
theorem xl_le {i : Nat} (h : i < 19) : xl i ≤ 7 := by
  match i, h with
  | 0, _ | 1, _ | 2, _ | 3, _ | 4, _ | 5, _ | 6, _ | 7, _ | 8, _ | 9, _ | 10, _ | 11, _ | 12, _ | 13, _ | 14, _ | 15, _ | 16, _ | 17, _ | 18, _ => decide
  | n + 19, h => exact absurd h (by omega)
theorem EX_of {ad tv : Nat → Nat} (A : Nat → Prop) (U : State) (h : EX ad tv A U) : EX_i ad tv A U := ⟨h.1, h.2.1, fun i hi => ⟨xl i, xl_le hi, strF_of (h.2.2.1 i hi)⟩, h.2.2.2⟩
