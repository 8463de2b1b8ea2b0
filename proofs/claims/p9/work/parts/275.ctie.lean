/-! the frame rule for contracts that ask for texts -/
theorem CtIE.fr {l : Launch} {y : MethodName} {wd : List Cond} {rm : Room} {av : List Value} {D : va_G} {k : Nat → ClassId} {sz mc ms : Nat} {ws wc wr : va_W} {S S' : Type} {E : (Nat → Prop) → State → Prop} {post : Int32 → S → Prop} {wp : S → va_W} {post' : Int32 → S' → Prop} {wp' : S' → va_W} (hE : EOk E) (h : CtIE l y wd rm av D k E sz wc post wp mc ms) (isC isR isO : List Nat) (g : S → S') (hC : isC.map (fun i => ws[i]?) = wc.map some) (hR : isR.map (fun i => ws[i]?) = wr.map some) (hn : va_nd isC = true ∧ va_nd isR = true ∧ va_nd isO = true ∧ ∀ i ∈ isR, i ∉ isC) (hO : ∀ u, isO.map (fun i => (wr ++ wp u)[i]?) = (wp' (g u)).map some) (hx : ∀ q, va_A wc sz q → va_A ws sz q) (hpo : ∀ r u, post r u → post' r (g u)) : CtIE l y wd rm av D k E sz ws post' wp' mc ms :=
  Met.wk h (fun a st q => ⟨q.1, fr_pre isC hC hn.1 q.2.1, hE.2 _ _ st st st.heap [] q.2.2 va_S.rf hx rfl (State.WarmedH.refl st)⟩) (fun a st o t q1 q2 => by
    obtain ⟨⟨r, u, e1, e2, e3, e4⟩, e5⟩ := q2
    obtain ⟨f1, f2⟩ := fr_post isC isR isO hC hR hn (hO u) q1.2.1 e5 e3 e4
    exact ⟨⟨r, g u, e1, hpo r u e2, f1⟩, f2⟩) hx
