/-! readers: what never breaks -/
noncomputable def CtRX (l : Launch) (y : MethodName) (wd : List Cond) (rm : Room) (av : List Value) (D : va_G) (k : Nat → ClassId) (E : (Nat → Prop) → State → Prop) (sz nn : Nat) (ad : Nat → Nat) : Prop := Met l y wd rm (va_Pc av (fun U => hcP D k sz [] U ∧ E (va_A [] sz) U)) (va_Qr (fun i : Nat => i < nn) (fun i ra _ => ra = ad i) (va_A [] sz)) 0 0 (va_A [] sz)
theorem CtRX.mk {l : Launch} {y : MethodName} {wd wd' : List Cond} {rm : Room} {av : List Value} {D : va_G} {k : Nat → ClassId} {E : (Nat → Prop) → State → Prop} {sz nn : Nat} {ad : Nat → Nat} {cc : ByteArray} {maxL : Nat} {ret : Option FieldType} (hy : plainName y.cls = true) (hw : wd = Cond.code y cc maxL ret :: wd') (hlv : (lg_sl av).length ≤ maxL)
    (body : ∀ (p : Program) (e : Env) (s : State) (m : MethodId) (below : List Frame) (meth : Method) (c : Code) (A : Nat → Prop) (ls : Array Slot), E A s → En p s m av.toArray meth c y cc ret maxL wd D k A → va_S A s.heap s.heap [] → lv_has ls maxL (lv_args 0 av) → W p l e rm s m av.toArray below meth c s.heap [] 0 0 (MQ below (va_Qr (fun i : Nat => i < nn) (fun i ra _ => ra = ad i) A) av.toArray s 0 0 A) (F0 m 0 ls [])) : CtRX l y wd rm av D k E sz nn ad := by
  refine Met.ofW (cc := cc) (maxL := maxL) (ret := ret) hy hw ?_
  intro p e s m args below meth c s₁ B hml hv
  obtain ⟨rfl, ⟨hsz, hP, hG, hD0⟩, hE⟩ := hv
  subst hsz
  have hts := atoms_spec (ws := wd) B.pre
  have hl := lv_entry av (n := maxL) hlv
  rw [lg_entry_eq]
  exact body p e s m below meth c (va_A [] s.heap.size) _ hE ⟨B.exec, B.bytes, B.returns, hml, findClass_of_methodNamed B.named, hts, B.notSynchronized, (name_of_methodNamed B.named B.method).1, hG, fun q h => Or.inr h⟩ va_S.rf hl
section HTR
variable {p : Program} {l : Launch} {e : Env} {R : Room} {s : State} {m : MethodId} {args : Array Value} {below : List Frame} {meth : Method} {c : Code} {H : Heap} {locs : List Loc} {cells slots : Nat} {Q : State → Prop} {pc : Nat} {ls : Array Slot} {rest st0 As : List Value} {D : va_G} {k : Nat → ClassId} {A : Nat → Prop} {ws wc wr : va_W} {cc : ByteArray} {y : MethodName} {wd wd' Ts : List Cond} {rm : Room} {mc ms n index maxL nL : Nat} {bytes : ByteArray} {ret : Option FieldType} {own C host : String} {b : Nat} {E : (Nat → Prop) → State → Prop}
end HTR
