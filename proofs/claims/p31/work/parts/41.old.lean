/-! 41.old -/
section
/-! rules: what never breaks -/
/-! the six rules in one -/
abbrev RZ : Type := (Nat → Int32) × (Nat → Nat → Int32) × (Nat → Nat → Int64)
noncomputable def RU_i (k : Nat → ClassId) (ra : Nat → Nat) (z : RZ) : va_W := ([(ra 0, .inr (3, [.ref (ra 1), .ref (ra 2), .ref (ra 3), .ref (ra 4), .ref (ra 5), .int (z.1 0), .int (z.1 1), .int (z.1 2)])), (ra 1, hcI k 400 (z.2.1 0)), (ra 2, hcI k 12 (z.2.1 1)), (ra 3, hcI k 12 (z.2.1 2)), (ra 4, hcI k 12 (z.2.1 3)), (ra 5, hcJ k 60 (z.2.2 0)), (ra 6, .inr (3, [.ref (ra 7), .ref (ra 8), .ref (ra 9), .ref (ra 10), .ref (ra 11), .int (z.1 3), .int (z.1 4), .int (z.1 5)])), (ra 7, hcI k 400 (z.2.1 4)), (ra 8, hcI k 12 (z.2.1 5)), (ra 9, hcI k 12 (z.2.1 6)), (ra 10, hcI k 12 (z.2.1 7)), (ra 11, hcJ k 60 (z.2.2 1)), (ra 12, .inr (3, [.ref (ra 13), .ref (ra 14), .ref (ra 15), .ref (ra 16), .ref (ra 17), .int (z.1 6), .int (z.1 7), .int (z.1 8)])), (ra 13, hcI k 400 (z.2.1 8)), (ra 14, hcI k 12 (z.2.1 9)), (ra 15, hcI k 12 (z.2.1 10)), (ra 16, hcI k 12 (z.2.1 11)), (ra 17, hcJ k 60 (z.2.2 2)), (ra 18, .inr (3, [.ref (ra 19), .ref (ra 20), .ref (ra 21), .ref (ra 22), .ref (ra 23), .int (z.1 9), .int (z.1 10), .int (z.1 11)])), (ra 19, hcI k 400 (z.2.1 12)), (ra 20, hcI k 12 (z.2.1 13)), (ra 21, hcI k 12 (z.2.1 14)), (ra 22, hcI k 12 (z.2.1 15)), (ra 23, hcJ k 60 (z.2.2 3)), (ra 24, .inr (3, [.ref (ra 25), .ref (ra 26), .ref (ra 27), .ref (ra 28), .ref (ra 29), .int (z.1 12), .int (z.1 13), .int (z.1 14)])), (ra 25, hcI k 400 (z.2.1 16)), (ra 26, hcI k 12 (z.2.1 17)), (ra 27, hcI k 12 (z.2.1 18)), (ra 28, hcI k 12 (z.2.1 19)), (ra 29, hcJ k 60 (z.2.2 4)), (ra 30, .inr (3, [.ref (ra 31), .ref (ra 32), .ref (ra 33), .ref (ra 34), .ref (ra 35), .int (z.1 15), .int (z.1 16), .int (z.1 17)])), (ra 31, hcI k 400 (z.2.1 20)), (ra 32, hcI k 12 (z.2.1 21)), (ra 33, hcI k 12 (z.2.1 22)), (ra 34, hcI k 12 (z.2.1 23)), (ra 35, hcJ k 60 (z.2.2 5))] : va_W)
end
section
/-! texts -/
noncomputable def strF_i (A : Nat → Prop) (a t n : Nat) (U : State) (H : Heap) : Prop := va_O "java/lang/String" a A U H ∧ va_OF "java/lang/String" "coder" "B" (.int 0) a A U H ∧ va_OF "java/lang/String" "value" "[B" (.ref t) a A U H ∧ ∃ f : Nat → Int32, va_T .byte t n (fun j => .int (f j)) A U H
theorem strF_i.to {A B : Nat → Prop} {a t n : Nat} {s U : State} {H : Heap} {locs : List Loc} (h : strF_i A a t n s s.heap) (hS : va_S A s.heap H locs) (hF : ∀ q, B q → A q) (hvm : s.vm.Alike U.vm) : strF_i B a t n U H := ⟨((h.1.kept hS.2.1).narrow hF).moved hvm, ((h.2.1.kept hS.2.1).narrow hF).moved hvm, ((h.2.2.1.kept hS.2.1).narrow hF).moved hvm, h.2.2.2.elim (fun f hf => ⟨f, ((hf.kept hS.2.1).narrow hF).moved hvm⟩)⟩
noncomputable def ES_i (a t n : Nat) (A : Nat → Prop) (U : State) : Prop := cmpF A U U.heap ∧ strF_i A a t n U U.heap ∧ fmtF A U U.heap
theorem ES_i.ok (a t n : Nat) : EOk (ES_i a t n) := ⟨fun A U g mk ar h => ⟨cmpF.to (U := U.calling g mk ar) h.1 (va_S.rf (A := A)) (fun _ q => q) (Vm.Alike.refl U.vm), strF_i.to (U := U.calling g mk ar) h.2.1 (va_S.rf (A := A)) (fun _ q => q) (Vm.Alike.refl U.vm), fmtF.to (U := U.calling g mk ar) h.2.2 (va_S.rf (A := A)) (fun _ q => q) (Vm.Alike.refl U.vm)⟩, fun A B s U H locs h hS hF hU hW => by
  subst hU
  exact ⟨cmpF.to h.1 hS hF hW.alike, strF_i.to h.2.1 hS hF hW.alike, fmtF.to h.2.2 hS hF hW.alike⟩⟩
noncomputable def EB_i (t n : Nat) (A : Nat → Prop) (U : State) : Prop := (∃ f : Nat → Int32, va_T .byte t n (fun j => .int (f j)) A U U.heap) ∧ fmtF A U U.heap
theorem EB_i.ok (t n : Nat) : EOk (EB_i t n) := ⟨fun A U g mk ar h => ⟨h.1.elim (fun f hf => ⟨f, hf.moved (U := U.calling g mk ar) (Vm.Alike.refl U.vm)⟩), fmtF.to (U := U.calling g mk ar) h.2 (va_S.rf (A := A)) (fun _ q => q) (Vm.Alike.refl U.vm)⟩, fun A B s U H locs h hS hF hU hW => by
  subst hU
  exact ⟨h.1.elim (fun f hf => ⟨f, ((hf.kept hS.2.1).narrow hF).moved hW.alike⟩), fmtF.to h.2 hS hF hW.alike⟩⟩
noncomputable def EX_i (ad tv : Nat → Nat) (A : Nat → Prop) (U : State) : Prop := cmpF A U U.heap ∧ fmtF A U U.heap ∧ (∀ i, i < 19 → ∃ n, n ≤ 7 ∧ strF_i A (ad i) (tv i) n U U.heap) ∧ vk_R RX7 97 "sitter" (ad 0) U ∧ vk_R RX7 99 "chair" (ad 1) U ∧ vk_R RX7 101 "weight" (ad 2) U ∧ vk_R RX7 103 "height" (ad 3) U ∧ vk_R RX7 105 "cane" (ad 4) U ∧ vk_R RX7 107 "sits" (ad 5) U ∧ vk_R RX7 109 "give" (ad 6) U ∧ vk_R RX7 111 "others" (ad 7) U ∧ vk_R RX7 113 "press" (ad 8) U ∧ vk_R RX7 115 "dropped" (ad 9) U ∧ vk_R RX7 117 "minute" (ad 10) U ∧ vk_R RX7 119 "hall" (ad 11) U ∧ vk_R RX7 121 "strand" (ad 12) U ∧ vk_R RX7 123 "sit" (ad 13) U ∧ vk_R RX7 125 "if" (ad 14) U ∧ vk_R RX7 127 "or" (ad 15) U ∧ vk_R RX7 129 "and" (ad 16) U ∧ vk_R RX7 131 "not" (ad 17) U ∧ vk_R RX7 133 "" (ad 18) U
theorem EX_i.ok (ad tv : Nat → Nat) : EOk (EX_i ad tv) := ⟨fun A U g mk ar h => by
  obtain ⟨h0, h1, h2, r0, r1, r2, r3, r4, r5, r6, r7, r8, r9, r10, r11, r12, r13, r14, r15, r16, r17, r18⟩ := h
  have hR := va_S.rf (A := A) (H0 := U.heap)
  have hv := Vm.Alike.refl U.vm
  exact ⟨cmpF.to (U := U.calling g mk ar) h0 hR (fun _ q => q) hv, fmtF.to (U := U.calling g mk ar) h1 hR (fun _ q => q) hv, (fun i hi => (h2 i hi).elim (fun n hn => ⟨n, hn.1, strF_i.to (U := U.calling g mk ar) hn.2 hR (fun _ q => q) hv⟩)), r0.same (U := U.calling g mk ar) rfl, r1.same (U := U.calling g mk ar) rfl, r2.same (U := U.calling g mk ar) rfl, r3.same (U := U.calling g mk ar) rfl, r4.same (U := U.calling g mk ar) rfl, r5.same (U := U.calling g mk ar) rfl, r6.same (U := U.calling g mk ar) rfl, r7.same (U := U.calling g mk ar) rfl, r8.same (U := U.calling g mk ar) rfl, r9.same (U := U.calling g mk ar) rfl, r10.same (U := U.calling g mk ar) rfl, r11.same (U := U.calling g mk ar) rfl, r12.same (U := U.calling g mk ar) rfl, r13.same (U := U.calling g mk ar) rfl, r14.same (U := U.calling g mk ar) rfl, r15.same (U := U.calling g mk ar) rfl, r16.same (U := U.calling g mk ar) rfl, r17.same (U := U.calling g mk ar) rfl, r18.same (U := U.calling g mk ar) rfl⟩, fun A B s U H locs h hS hF hU hW => by
  subst hU
  obtain ⟨h0, h1, h2, r0, r1, r2, r3, r4, r5, r6, r7, r8, r9, r10, r11, r12, r13, r14, r15, r16, r17, r18⟩ := h
  exact ⟨cmpF.to h0 hS hF hW.alike, fmtF.to h1 hS hF hW.alike, (fun i hi => (h2 i hi).elim (fun n hn => ⟨n, hn.1, strF_i.to hn.2 hS hF hW.alike⟩)), r0.warm hW, r1.warm hW, r2.warm hW, r3.warm hW, r4.warm hW, r5.warm hW, r6.warm hW, r7.warm hW, r8.warm hW, r9.warm hW, r10.warm hW, r11.warm hW, r12.warm hW, r13.warm hW, r14.warm hW, r15.warm hW, r16.warm hW, r17.warm hW, r18.warm hW⟩⟩
section HT
variable {p : Program} {l : Launch} {e : Env} {R : Room} {s : State} {m : MethodId} {args : Array Value} {below : List Frame} {meth : Method} {c : Code} {H : Heap} {locs : List Loc} {cells slots : Nat} {Q : State → Prop} {pc : Nat} {ls : Array Slot} {rest st0 As : List Value} {D : va_G} {k : Nat → ClassId} {A : Nat → Prop} {ws wc wr : va_W} {cc : ByteArray} {y : MethodName} {wd wd' Ts : List Cond} {rm : Room} {mc ms n index maxL nL : Nat} {bytes : ByteArray} {ret : Option FieldType} {own C host : String} {b : Nat} {E : (Nat → Prop) → State → Prop}
end HT
end
section
/-! readers: what never breaks -/
noncomputable def CtRX (l : Launch) (y : MethodName) (wd : List Cond) (rm : Room) (av : List Value) (D : va_G) (k : Nat → ClassId) (E : (Nat → Prop) → State → Prop) (sz nn : Nat) (ad : Nat → Nat) : Prop := Met l y wd rm (va_Pc av (fun U => hcP D k sz [] U ∧ E (va_A [] sz) U)) (va_Qr (fun i : Nat => i < nn) (fun i ra _ => ra = ad i) (va_A [] sz)) 0 0 (va_A [] sz)
theorem CtRX.mk {l : Launch} {y : MethodName} {wd wd' : List Cond} {rm : Room} {av : List Value} {D : va_G} {k : Nat → ClassId} {E : (Nat → Prop) → State → Prop} {sz nn : Nat} {ad : Nat → Nat} {cc : ByteArray} {maxL : Nat} {ret : Option FieldType} (hy : plainName y.cls = true) (hw : wd = Cond.code y cc maxL ret :: wd') (hlv : (lg_sl av).length ≤ maxL)
    (body : ∀ (p : Program) (e : Env) (s : State) (m : MethodId) (below : List Frame) (meth : Method) (c : Code) (A : Nat → Prop) (ls : Array Slot), E A s → En p s m av.toArray meth c y cc ret maxL wd D k A → va_S A s.heap s.heap [] → lv_has ls maxL (lv_args 0 av) → W p l e rm s m av.toArray below meth c s.heap [] 0 0 (MQ below (va_Qr (fun i : Nat => i < nn) (fun i ra _ => ra = ad i) A) av.toArray s 0 0 A) (F0 m 0 ls [])) : CtRX l y wd rm av D k E sz nn ad := by
  refine Met.ofW (cc := cc) (maxL := maxL) (ret := ret) hy hw ?_
  intro p e s m args below meth c s₁ B hml hv
  obtain ⟨rfl, ⟨hsz, hP, hG, hD0⟩, hE⟩ := hv
  subst hsz
  have hts := atoms_spec (ws := wd) B.pre
  have hl := lv_entry av (n := maxL) hlv
  rw [lg_entry_eq]
  exact body p e s m below meth c (va_A [] s.heap.size) _ hE ⟨B.exec, B.bytes, B.returns, hml, findClass_of_methodNamed B.named, hts, B.notSynchronized, (name_of_methodNamed B.named B.method).1, hG, fun q h => Or.inr h⟩ va_S.rf hl
section HTR
variable {p : Program} {l : Launch} {e : Env} {R : Room} {s : State} {m : MethodId} {args : Array Value} {below : List Frame} {meth : Method} {c : Code} {H : Heap} {locs : List Loc} {cells slots : Nat} {Q : State → Prop} {pc : Nat} {ls : Array Slot} {rest st0 As : List Value} {D : va_G} {k : Nat → ClassId} {A : Nat → Prop} {ws wc wr : va_W} {cc : ByteArray} {y : MethodName} {wd wd' Ts : List Cond} {rm : Room} {mc ms n index maxL nL : Nat} {bytes : ByteArray} {ret : Option FieldType} {own C host : String} {b : Nat} {E : (Nat → Prop) → State → Prop}
end HTR
end
section
/-! the four images in one -/
abbrev IZ : Type := Nat → (Nat → Int32) × (Nat → Nat → Int32)
noncomputable def IM (k : Nat → ClassId) (ia : Nat → Nat) (z : IZ) : va_W := ([((ia 0), .inr (4, [.ref (ia 1), .ref (ia 10), .ref (ia 14), .int ((z 0).1 0), .int ((z 0).1 1)])), ((ia 1), .inr (2, [.int ((z 0).1 2), .int ((z 0).1 3), .int ((z 0).1 4), .int ((z 0).1 5), .ref (ia 2), .ref (ia 3), .ref (ia 4), .ref (ia 5), .ref (ia 6), .ref (ia 7), .int ((z 0).1 6), .int ((z 0).1 7), .int ((z 0).1 8), .ref (ia 8), .ref (ia 9), .int ((z 0).1 9), .int ((z 0).1 10)])), ((ia 2), hcI k 4 ((z 0).2 0)), ((ia 3), hcI k 8 ((z 0).2 1)), ((ia 4), hcI k 8 ((z 0).2 2)), ((ia 5), hcI k 8 ((z 0).2 3)), ((ia 6), hcI k 8 ((z 0).2 4)), ((ia 7), hcI k 4 ((z 0).2 5)), ((ia 8), hcI k 4 ((z 0).2 6)), ((ia 9), hcI k 4 ((z 0).2 7)), ((ia 10), .inr (0, [.ref (ia 11), .ref (ia 12), .ref (ia 13), .int ((z 0).1 11), .int ((z 0).1 12)])), ((ia 11), hcI k 20 ((z 0).2 8)), ((ia 12), hcI k 20 ((z 0).2 9)), ((ia 13), hcI k 20 ((z 0).2 10)), ((ia 14), .inr (1, [.ref (ia 15), .ref (ia 16), .ref (ia 17), .int ((z 0).1 13)])), ((ia 15), hcI k 10 ((z 0).2 11)), ((ia 16), hcI k 10 ((z 0).2 12)), ((ia 17), hcI k 10 ((z 0).2 13)), ((ia 18), .inr (4, [.ref (ia 19), .ref (ia 28), .ref (ia 32), .int ((z 1).1 0), .int ((z 1).1 1)])), ((ia 19), .inr (2, [.int ((z 1).1 2), .int ((z 1).1 3), .int ((z 1).1 4), .int ((z 1).1 5), .ref (ia 20), .ref (ia 21), .ref (ia 22), .ref (ia 23), .ref (ia 24), .ref (ia 25), .int ((z 1).1 6), .int ((z 1).1 7), .int ((z 1).1 8), .ref (ia 26), .ref (ia 27), .int ((z 1).1 9), .int ((z 1).1 10)])), ((ia 20), hcI k 4 ((z 1).2 0)), ((ia 21), hcI k 8 ((z 1).2 1)), ((ia 22), hcI k 8 ((z 1).2 2)), ((ia 23), hcI k 8 ((z 1).2 3)), ((ia 24), hcI k 8 ((z 1).2 4)), ((ia 25), hcI k 4 ((z 1).2 5)), ((ia 26), hcI k 4 ((z 1).2 6)), ((ia 27), hcI k 4 ((z 1).2 7)), ((ia 28), .inr (0, [.ref (ia 29), .ref (ia 30), .ref (ia 31), .int ((z 1).1 11), .int ((z 1).1 12)])), ((ia 29), hcI k 20 ((z 1).2 8)), ((ia 30), hcI k 20 ((z 1).2 9)), ((ia 31), hcI k 20 ((z 1).2 10)), ((ia 32), .inr (1, [.ref (ia 33), .ref (ia 34), .ref (ia 35), .int ((z 1).1 13)])), ((ia 33), hcI k 10 ((z 1).2 11)), ((ia 34), hcI k 10 ((z 1).2 12)), ((ia 35), hcI k 10 ((z 1).2 13)), ((ia 36), .inr (4, [.ref (ia 37), .ref (ia 46), .ref (ia 50), .int ((z 2).1 0), .int ((z 2).1 1)])), ((ia 37), .inr (2, [.int ((z 2).1 2), .int ((z 2).1 3), .int ((z 2).1 4), .int ((z 2).1 5), .ref (ia 38), .ref (ia 39), .ref (ia 40), .ref (ia 41), .ref (ia 42), .ref (ia 43), .int ((z 2).1 6), .int ((z 2).1 7), .int ((z 2).1 8), .ref (ia 44), .ref (ia 45), .int ((z 2).1 9), .int ((z 2).1 10)])), ((ia 38), hcI k 4 ((z 2).2 0)), ((ia 39), hcI k 8 ((z 2).2 1)), ((ia 40), hcI k 8 ((z 2).2 2)), ((ia 41), hcI k 8 ((z 2).2 3)), ((ia 42), hcI k 8 ((z 2).2 4)), ((ia 43), hcI k 4 ((z 2).2 5)), ((ia 44), hcI k 4 ((z 2).2 6)), ((ia 45), hcI k 4 ((z 2).2 7)), ((ia 46), .inr (0, [.ref (ia 47), .ref (ia 48), .ref (ia 49), .int ((z 2).1 11), .int ((z 2).1 12)])), ((ia 47), hcI k 20 ((z 2).2 8)), ((ia 48), hcI k 20 ((z 2).2 9)), ((ia 49), hcI k 20 ((z 2).2 10)), ((ia 50), .inr (1, [.ref (ia 51), .ref (ia 52), .ref (ia 53), .int ((z 2).1 13)])), ((ia 51), hcI k 10 ((z 2).2 11)), ((ia 52), hcI k 10 ((z 2).2 12)), ((ia 53), hcI k 10 ((z 2).2 13)), ((ia 54), .inr (4, [.ref (ia 55), .ref (ia 64), .ref (ia 68), .int ((z 3).1 0), .int ((z 3).1 1)])), ((ia 55), .inr (2, [.int ((z 3).1 2), .int ((z 3).1 3), .int ((z 3).1 4), .int ((z 3).1 5), .ref (ia 56), .ref (ia 57), .ref (ia 58), .ref (ia 59), .ref (ia 60), .ref (ia 61), .int ((z 3).1 6), .int ((z 3).1 7), .int ((z 3).1 8), .ref (ia 62), .ref (ia 63), .int ((z 3).1 9), .int ((z 3).1 10)])), ((ia 56), hcI k 4 ((z 3).2 0)), ((ia 57), hcI k 8 ((z 3).2 1)), ((ia 58), hcI k 8 ((z 3).2 2)), ((ia 59), hcI k 8 ((z 3).2 3)), ((ia 60), hcI k 8 ((z 3).2 4)), ((ia 61), hcI k 4 ((z 3).2 5)), ((ia 62), hcI k 4 ((z 3).2 6)), ((ia 63), hcI k 4 ((z 3).2 7)), ((ia 64), .inr (0, [.ref (ia 65), .ref (ia 66), .ref (ia 67), .int ((z 3).1 11), .int ((z 3).1 12)])), ((ia 65), hcI k 20 ((z 3).2 8)), ((ia 66), hcI k 20 ((z 3).2 9)), ((ia 67), hcI k 20 ((z 3).2 10)), ((ia 68), .inr (1, [.ref (ia 69), .ref (ia 70), .ref (ia 71), .int ((z 3).1 13)])), ((ia 69), hcI k 10 ((z 3).2 11)), ((ia 70), hcI k 10 ((z 3).2 12)), ((ia 71), hcI k 10 ((z 3).2 13))] : va_W)
noncomputable def ro8 (l : List (Nat → Int32)) (i : Nat) : Nat → Int32 := l.getD i (fun _ => 0)
theorem toNatClampNeg_toInt {x : Int32} (h : 0 ≤ x.toInt) : x.toInt = (Int32.toNatClampNeg x : Int) := by
  show x.toInt = ((x.toInt.toNat : Nat) : Int)
  omega
end
section
/-! bits (out of kit/laws/BITS.to-paste) -/
noncomputable def bt (x : Int32) (i : Nat) : Bool := x.toBitVec.getLsbD i
noncomputable def sc8 (a b c d e f g h : Int32) : Nat → Int32
  | 0 => a
  | 1 => b
  | 2 => c
  | 3 => d
  | 4 => e
  | 5 => f
  | 6 => g
  | 7 => h
  | _ => 0
noncomputable def sc4 (a b c d : Int32) : Nat → Int32
  | 0 => a
  | 1 => b
  | 2 => c
  | 3 => d
  | _ => 0
/-- the hall that is told -/
noncomputable def HallOk (s2 s3 : Int32) (so co w : Nat → Int32) : Prop := (∀ c : Nat, (c : Int) < s2.toInt → iv 0 3 (so c)) ∧ ∀ q : Nat, (q : Int) < s3.toInt → (co q).toInt < s2.toInt ∧ 1 ≤ (w q).toInt
end
section
/-! rows that are carried to and fro -/
theorem row_cong {D : va_G} {cl : List vw_C} {ws : va_W} {H : Heap} {a n : Nat} {cA : ClassId} {f g : Nat → Int32} (hP : va_P D cl ws H) (i : Nat) (hi : ws[i]? = some (a, .inl (cA, n, .inl f))) (h : ∀ j, j < n → f j = g j) : va_P D cl (ws.set i (a, .inl (cA, n, .inl g))) H := by
  intro k q hq
  by_cases e : k = i
  · subst e
    have hl : k < ws.length := by
      rcases Nat.lt_or_ge k ws.length with h1 | h1
      · exact h1
      · rw [List.getElem?_eq_none h1] at hi; cases hi
    rw [List.getElem?_set_self hl] at hq
    cases hq
    have h2 : H[a]? = some (vp_cell cA (n, .inl f)) := hP k _ hi
    show H[a]? = some (vp_cell cA (n, .inl g))
    rw [h2]
    have h3 : (fun j : Fin n => Value.int (f j.val)) = fun j : Fin n => Value.int (g j.val) := funext (fun j => by rw [h j.val j.isLt])
    show some (arrV cA n (fun j => .int (f j))) = some (arrV cA n (fun j => .int (g j)))
    unfold arrV
    rw [h3]
  · rw [List.getElem?_set_ne (fun q => e q.symm)] at hq
    exact hP k q hq
noncomputable def CpI (g0 g f : Nat → Int32) (a k : Int) : Prop := ∀ j : Nat, (a ≤ j → (j : Int) < a + k → g j = f ((j : Int) - a).toNat) ∧ (((j : Int) < a ∨ a + k ≤ j) → g j = g0 j)
theorem CpI.out {g0 g f : Nat → Int32} {a n : Int} (h : CpI g0 g f a n) {j : Nat} (hj : (j : Int) < a ∨ a + n ≤ j) : g j = g0 j := (h j).2 hj
theorem CpI.at {g0 g f : Nat → Int32} {a n : Int} (h : CpI g0 g f a n) {b i : Nat} (hb : (b : Int) = a) (hi : (i : Int) < n) : g (b + i) = f i := by
  rw [(h (b + i)).1 (by omega) (by omega)]
  congr 1
  omega
noncomputable def CpO (f0 f g : Nat → Int32) (a k : Int) : Prop := ∀ j : Nat, ((j : Int) < k → f j = g (a + j).toNat) ∧ (k ≤ j → f j = f0 j)
theorem CpO.at {f0 f g : Nat → Int32} {a n : Int} (h : CpO f0 f g a n) {b i : Nat} (hb : (b : Int) = a) (hi : (i : Int) < n) : f i = g (b + i) := by
  rw [(h i).1 hi]
  congr 1
  omega
/-! orders of entries that can be reckoned -/
noncomputable def run (so nu : Nat → Int32) : Nat → Nat → Nat → Nat → Prop
  | 0, _, h, h2 => h = h2
  | n + 1, b, h, h2 => (((so b).toInt = 0 ∨ ((so b).toInt = 1 ∧ 0 ≤ (nu b).toInt ∧ (nu b).toInt ≤ 10)) ∧ run so nu n (b + 1) (h + 1) h2) ∨ ((so b).toInt = 9 ∧ 1 ≤ h ∧ run so nu n (b + 1) h h2) ∨ ((so b).toInt ≠ 0 ∧ (so b).toInt ≠ 1 ∧ (so b).toInt ≠ 9 ∧ 2 ≤ h ∧ run so nu n (b + 1) (h - 1) h2)
noncomputable def RunFrom (so nu : Nat → Int32) (w k u n : Int) : Prop := ∃ h, run so nu (u - k).toNat (300 * w + k).toNat n.toNat h
/-- the next entry -/
theorem RunFrom.step {so nu : Nat → Int32} {w k u n : Int} {z v y : Int32} (h : RunFrom so nu w k u n) (hw : 0 ≤ w) (hk : 0 ≤ k) (hu : k < u) (hn : 0 ≤ n) (hz : z.toInt = 300 * w + k) (ev : v = so (Int32.toNatClampNeg z)) (ey : y = nu (Int32.toNatClampNeg z)) : ((v.toInt = 0 ∨ (v.toInt = 1 ∧ 0 ≤ y.toInt ∧ y.toInt ≤ 10)) ∧ RunFrom so nu w (k + 1) u (n + 1)) ∨ (v.toInt = 9 ∧ 1 ≤ n ∧ RunFrom so nu w (k + 1) u n) ∨ (v.toInt ≠ 0 ∧ v.toInt ≠ 1 ∧ v.toInt ≠ 9 ∧ 2 ≤ n ∧ RunFrom so nu w (k + 1) u (n - 1)) := by
  obtain ⟨h2, hr⟩ := h
  have e1 : (u - k).toNat = (u - (k + 1)).toNat + 1 := by omega
  have e2 := toNatClampNeg_toInt (x := z) (by omega)
  have e3 : (300 * w + k).toNat = Int32.toNatClampNeg z := by omega
  have e4 : (300 * w + (k + 1)).toNat = Int32.toNatClampNeg z + 1 := by omega
  rw [e1, e3] at hr
  unfold run at hr
  rw [← ev, ← ey] at hr
  unfold RunFrom
  rw [e4]
  rcases hr with ⟨q1, q2⟩ | ⟨q1, q2, q3⟩ | ⟨q1, q2, q3, q4, q5⟩
  · refine Or.inl ⟨q1, h2, ?_⟩
    rw [show (n + 1).toNat = n.toNat + 1 from by omega]
    exact q2
  · exact Or.inr (Or.inl ⟨q1, by omega, h2, q3⟩)
  · refine Or.inr (Or.inr ⟨q1, q2, q3, by omega, h2, ?_⟩)
    rw [show (n - 1).toNat = n.toNat - 1 from by omega]
    exact q5
noncomputable def RulesOk (rl : Int32) (cl sa ta ea so nu : Nat → Int32) : Prop := ∀ r : Nat, (r : Int) < rl.toInt → (cl r).toInt ≤ 12 ∧ ∀ c : Nat, (c : Int) < (cl r).toInt → RunFrom so nu r (sa (12 * r + c)).toInt (ta (12 * r + c)).toInt 0 ∧ RunFrom so nu r (ta (12 * r + c)).toInt (ea (12 * r + c)).toInt 0
theorem RulesOk.cl {rl r z : Int32} {cl sa ta ea so nu : Nat → Int32} (h : RulesOk rl cl sa ta ea so nu) (h0 : 0 ≤ r.toInt) (h1 : r.toInt < rl.toInt) (ez : z = cl (Int32.toNatClampNeg r)) : z.toInt ≤ 12 := by
  have e := toNatClampNeg_toInt h0
  rw [ez]
  exact (h _ (by omega)).1
theorem RulesOk.two {rl r c z x y t : Int32} {cl sa ta ea so nu : Nat → Int32} (h : RulesOk rl cl sa ta ea so nu) (h0 : 0 ≤ r.toInt) (h1 : r.toInt < rl.toInt) (ez : z = cl (Int32.toNatClampNeg r)) (h2 : 12 * r.toInt ≤ c.toInt) (h3 : c.toInt < 12 * r.toInt + z.toInt) : RunFrom so nu r.toInt (sa (Int32.toNatClampNeg c)).toInt (ta (Int32.toNatClampNeg c)).toInt 0 ∧ RunFrom so nu r.toInt (ta (Int32.toNatClampNeg c)).toInt (ea (Int32.toNatClampNeg c)).toInt 0 := by
  have e := toNatClampNeg_toInt h0
  have e2 := toNatClampNeg_toInt (x := c) (by omega)
  have e3 : Int32.toNatClampNeg c = 12 * Int32.toNatClampNeg r + (Int32.toNatClampNeg c - 12 * Int32.toNatClampNeg r) := by omega
  have e4 := (h (Int32.toNatClampNeg r) (by omega)).2 (Int32.toNatClampNeg c - 12 * Int32.toNatClampNeg r) (by rw [← ez]; omega)
  rw [← e3, ← e] at e4
  exact e4
end
section
/-! longs, rests -/
theorem HallOk.us {s2 s3 v : Int32} {so co w f : Nat → Int32} {i : Nat} (h : HallOk s2 s3 so co w) (hv : iv 0 3 v) (e : f = upd so i v) : HallOk s2 s3 f co w := by
  refine ⟨fun c hc => ?_, h.2⟩
  by_cases hi : c = i
  · rw [e, hi, pk_us]; exact hv
  · rw [e, pk_un hi]; exact h.1 c hc
end
section
/-! the reference's reader -/
noncomputable def yn (i : Nat) : Nat := [6, 5, 6, 6, 4, 4, 4, 6, 5, 7, 6, 4, 6, 3, 2, 2, 3, 3].getD i 1
noncomputable def EY_i (ad tv : Nat → Nat) (A : Nat → Prop) (U : State) : Prop := cmpF A U U.heap ∧ fmtF A U U.heap ∧ (∀ i, i < 18 → strF_i A (ad i) (tv i) (yn i) U U.heap) ∧ vk_R RX9 142 "sitter" (ad 0) U ∧ vk_R RX9 144 "chair" (ad 1) U ∧ vk_R RX9 146 "weight" (ad 2) U ∧ vk_R RX9 147 "height" (ad 3) U ∧ vk_R RX9 148 "cane" (ad 4) U ∧ vk_R RX9 149 "sits" (ad 5) U ∧ vk_R RX9 151 "give" (ad 6) U ∧ vk_R RX9 153 "others" (ad 7) U ∧ vk_R RX9 155 "press" (ad 8) U ∧ vk_R RX9 157 "dropped" (ad 9) U ∧ vk_R RX9 159 "minute" (ad 10) U ∧ vk_R RX9 259 "hall" (ad 11) U ∧ vk_R RX9 261 "strand" (ad 12) U ∧ vk_R RX9 302 "sit" (ad 13) U ∧ vk_R RX9 304 "if" (ad 14) U ∧ vk_R RX9 257 "or" (ad 15) U ∧ vk_R RX9 255 "and" (ad 16) U ∧ vk_R RX9 241 "not" (ad 17) U
theorem EY_i.ok (ad tv : Nat → Nat) : EOk (EY_i ad tv) := ⟨fun A U g mk ar h => by
  obtain ⟨h0, h1, h2, r0, r1, r2, r3, r4, r5, r6, r7, r8, r9, r10, r11, r12, r13, r14, r15, r16, r17⟩ := h
  have hR := va_S.rf (A := A) (H0 := U.heap)
  have hv := Vm.Alike.refl U.vm
  exact ⟨cmpF.to (U := U.calling g mk ar) h0 hR (fun _ q => q) hv, fmtF.to (U := U.calling g mk ar) h1 hR (fun _ q => q) hv, (fun i hi => strF_i.to (U := U.calling g mk ar) (h2 i hi) hR (fun _ q => q) hv), r0.same (U := U.calling g mk ar) rfl, r1.same (U := U.calling g mk ar) rfl, r2.same (U := U.calling g mk ar) rfl, r3.same (U := U.calling g mk ar) rfl, r4.same (U := U.calling g mk ar) rfl, r5.same (U := U.calling g mk ar) rfl, r6.same (U := U.calling g mk ar) rfl, r7.same (U := U.calling g mk ar) rfl, r8.same (U := U.calling g mk ar) rfl, r9.same (U := U.calling g mk ar) rfl, r10.same (U := U.calling g mk ar) rfl, r11.same (U := U.calling g mk ar) rfl, r12.same (U := U.calling g mk ar) rfl, r13.same (U := U.calling g mk ar) rfl, r14.same (U := U.calling g mk ar) rfl, r15.same (U := U.calling g mk ar) rfl, r16.same (U := U.calling g mk ar) rfl, r17.same (U := U.calling g mk ar) rfl⟩, fun A B s U H locs h hS hF hU hW => by
  subst hU
  obtain ⟨h0, h1, h2, r0, r1, r2, r3, r4, r5, r6, r7, r8, r9, r10, r11, r12, r13, r14, r15, r16, r17⟩ := h
  exact ⟨cmpF.to h0 hS hF hW.alike, fmtF.to h1 hS hF hW.alike, (fun i hi => strF_i.to (h2 i hi) hS hF hW.alike), r0.warm hW, r1.warm hW, r2.warm hW, r3.warm hW, r4.warm hW, r5.warm hW, r6.warm hW, r7.warm hW, r8.warm hW, r9.warm hW, r10.warm hW, r11.warm hW, r12.warm hW, r13.warm hW, r14.warm hW, r15.warm hW, r16.warm hW, r17.warm hW⟩⟩
section HTY
variable {p : Program} {l : Launch} {e : Env} {R : Room} {s : State} {m : MethodId} {args : Array Value} {below : List Frame} {meth : Method} {c : Code} {H : Heap} {locs : List Loc} {cells slots : Nat} {Q : State → Prop} {pc : Nat} {ls : Array Slot} {rest st0 As : List Value} {D : va_G} {k : Nat → ClassId} {A : Nat → Prop} {ws wc wr : va_W} {cc : ByteArray} {y : MethodName} {wd wd' Ts : List Cond} {rm : Room} {mc ms n index maxL nL : Nat} {bytes : ByteArray} {ret : Option FieldType} {own C host : String} {b : Nat} {E : (Nat → Prop) → State → Prop}
end HTY
theorem run_cong {so nu so2 nu2 : Nat → Int32} : ∀ (n b h h2 : Nat), (∀ j, b ≤ j → j < b + n → so2 j = so j ∧ nu2 j = nu j) → run so nu n b h h2 → run so2 nu2 n b h h2
  | 0, _, _, _, _, hr => hr
  | n + 1, b, h, h2, hs, hr => by
    have e := hs b (Nat.le_refl _) (by omega)
    unfold run at hr ⊢
    rw [e.1, e.2]
    have hs2 : ∀ j, b + 1 ≤ j → j < b + 1 + n → so2 j = so j ∧ nu2 j = nu j := fun j h1 h2 => hs j (by omega) (by omega)
    rcases hr with ⟨q1, q2⟩ | ⟨q1, q2, q3⟩ | ⟨q1, q2, q3, q4, q5⟩
    · exact Or.inl ⟨q1, run_cong n _ _ _ hs2 q2⟩
    · exact Or.inr (Or.inl ⟨q1, q2, run_cong n _ _ _ hs2 q3⟩)
    · exact Or.inr (Or.inr ⟨q1, q2, q3, q4, run_cong n _ _ _ hs2 q5⟩)
theorem run_app {so nu : Nat → Int32} : ∀ (n m b h h1 h2 : Nat), run so nu n b h h1 → run so nu m (b + n) h1 h2 → run so nu (n + m) b h h2
  | 0, m, b, h, h1, h2, hr, h3 => by
    have hr : h = h1 := hr
    subst hr
    rw [Nat.zero_add]
    exact h3
  | n + 1, m, b, h, h1, h2, hr, h3 => by
    rw [show n + 1 + m = (n + m) + 1 from by omega]
    rw [show b + (n + 1) = (b + 1) + n from by omega] at h3
    unfold run at hr ⊢
    rcases hr with ⟨q1, q2⟩ | ⟨q1, q2, q3⟩ | ⟨q1, q2, q3, q4, q5⟩
    · exact Or.inl ⟨q1, run_app n m _ _ _ _ q2 h3⟩
    · exact Or.inr (Or.inl ⟨q1, q2, run_app n m _ _ _ _ q3 h3⟩)
    · exact Or.inr (Or.inr ⟨q1, q2, q3, q4, run_app n m _ _ _ _ q5 h3⟩)
noncomputable def Lo (so nu so2 nu2 : Nat → Int32) (b : Int) : Prop := ∀ j : Nat, (j : Int) < b → so2 j = so j ∧ nu2 j = nu j
theorem Lo.rf {so nu : Nat → Int32} {b : Int} : Lo so nu so nu b := fun _ _ => ⟨rfl, rfl⟩
theorem Lo.tr {so nu so1 nu1 so2 nu2 : Nat → Int32} {b c : Int} (h : Lo so nu so1 nu1 b) (h2 : Lo so1 nu1 so2 nu2 c) (hb : b ≤ c) : Lo so nu so2 nu2 b := fun j hj => by
  have a1 := h j hj
  have a2 := h2 j (by omega)
  exact ⟨a2.1.trans a1.1, a2.2.trans a1.2⟩
theorem Lo.le {so nu so2 nu2 : Nat → Int32} {b c : Int} (h : Lo so nu so2 nu2 c) (hb : b ≤ c) : Lo so nu so2 nu2 b := fun j hj => h j (by omega)
noncomputable def Gr (so nu : Nat → Int32) (b e e2 : Int) (m : Nat) : Prop := ∀ h : Nat, run so nu (e2 - e).toNat (b + e).toNat h (h + m)
theorem Gr.rf {so nu : Nat → Int32} {b e : Int} : Gr so nu b e e 0 := fun h => by
  rw [Int.sub_self]
  rfl
theorem Gr.tr {so nu : Nat → Int32} {b e0 e1 e2 : Int} {m1 m2 : Nat} (h : Gr so nu b e0 e1 m1) (h2 : Gr so nu b e1 e2 m2) (h01 : e0 ≤ e1) (h12 : e1 ≤ e2) (hb : 0 ≤ b + e0) : Gr so nu b e0 e2 (m1 + m2) := fun k => by
  have a := run_app (e1 - e0).toNat (e2 - e1).toNat (b + e0).toNat k (k + m1) (k + m1 + m2) (h k) (by
    have a2 := h2 (k + m1)
    rw [show (b + e1).toNat = (b + e0).toNat + (e1 - e0).toNat from by omega] at a2
    exact a2)
  rw [show (e1 - e0).toNat + (e2 - e1).toNat = (e2 - e0).toNat from by omega, Nat.add_assoc] at a
  exact a
theorem Gr.cg {so nu so2 nu2 : Nat → Int32} {b e0 e1 : Int} {m : Nat} (h : Gr so nu b e0 e1 m) (hl : Lo so nu so2 nu2 (b + e1)) (h01 : e0 ≤ e1) (hb : 0 ≤ b + e0) : Gr so2 nu2 b e0 e1 m := fun k =>
  run_cong _ _ _ _ (fun j h1 h2 => hl j (by omega)) (h k)
noncomputable def EnR (so nu so2 nu2 : Nat → Int32) (b F : Int) (k n : Int32) : Prop := (F ≠ 0 → so2 = so ∧ nu2 = nu) ∧ (F = 0 → so2 = upd so b.toNat k ∧ nu2 = upd nu b.toNat n)
theorem EnR.lo {so nu so2 nu2 : Nat → Int32} {b F : Int} {k n : Int32} (h : EnR so nu so2 nu2 b F k n) (hb : 0 ≤ b) : Lo so nu so2 nu2 b := fun j hj => by
  by_cases hF : F = 0
  · obtain ⟨e1, e2⟩ := h.2 hF
    rw [e1, e2, pk_un (by omega), pk_un (by omega)]
    exact ⟨rfl, rfl⟩
  · obtain ⟨e1, e2⟩ := h.1 hF
    rw [e1, e2]
    exact ⟨rfl, rfl⟩
/-- one entry more -/
theorem Gr.one {so2 nu2 : Nat → Int32} {b e : Int} {m m2 : Nat} (hb : 0 ≤ b + e) (h : ∀ k : Nat, run so2 nu2 1 (b + e).toNat (k + m) (k + m2)) : ∀ k : Nat, run so2 nu2 (e + 1 - e).toNat (b + e).toNat (k + m) (k + m2) := fun k => by
  rw [show (e + 1 - e).toNat = 1 from by omega]
  exact h k
theorem Gr.val {so nu so2 nu2 : Nat → Int32} {b e : Int} {k n : Int32} (h : EnR so nu so2 nu2 (b + e) 0 k n) (hk : k.toInt = 0 ∨ (k.toInt = 1 ∧ 0 ≤ n.toInt ∧ n.toInt ≤ 10)) : Gr so2 nu2 b e (e + 1) 1 := fun q => by
  obtain ⟨e1, e2⟩ := h.2 rfl
  rw [show (e + 1 - e).toNat = 0 + 1 from by omega]
  unfold run
  rw [e1, e2, pk_us, pk_us]
  exact Or.inl ⟨hk, rfl⟩
theorem Gr.bin {so nu so2 nu2 : Nat → Int32} {b e0 e : Int} {m : Nat} {k n : Int32} (hg : Gr so nu b e0 e (m + 2)) (h : EnR so nu so2 nu2 (b + e) 0 k n) (hk : k.toInt ≠ 0 ∧ k.toInt ≠ 1 ∧ k.toInt ≠ 9) (h0 : e0 ≤ e) (hb : 0 ≤ b + e0) : Gr so2 nu2 b e0 (e + 1) (m + 1) := fun q => by
  have hg2 := hg.cg (h.lo (by omega)) h0 hb
  have a := run_app (e - e0).toNat 1 (b + e0).toNat q (q + (m + 2)) (q + (m + 1)) (hg2 q) (by
    rw [show (b + e0).toNat + (e - e0).toNat = (b + e).toNat from by omega]
    obtain ⟨e1, e2⟩ := h.2 rfl
    show run so2 nu2 (0 + 1) _ _ _
    unfold run
    rw [e1, e2, pk_us, pk_us]
    refine Or.inr (Or.inr ⟨hk.1, hk.2.1, hk.2.2, by omega, ?_⟩)
    show q + (m + 2) - 1 = q + (m + 1)
    omega)
  rw [show (e - e0).toNat + 1 = (e + 1 - e0).toNat from by omega] at a
  exact a
theorem Gr.nt {so nu so2 nu2 : Nat → Int32} {b e0 e : Int} {m : Nat} {k n : Int32} (hg : Gr so nu b e0 e (m + 1)) (h : EnR so nu so2 nu2 (b + e) 0 k n) (hk : k.toInt = 9) (h0 : e0 ≤ e) (hb : 0 ≤ b + e0) : Gr so2 nu2 b e0 (e + 1) (m + 1) := fun q => by
  have hg2 := hg.cg (h.lo (by omega)) h0 hb
  have a := run_app (e - e0).toNat 1 (b + e0).toNat q (q + (m + 1)) (q + (m + 1)) (hg2 q) (by
    rw [show (b + e0).toNat + (e - e0).toNat = (b + e).toNat from by omega]
    obtain ⟨e1, e2⟩ := h.2 rfl
    show run so2 nu2 (0 + 1) _ _ _
    unfold run
    rw [e1, e2, pk_us, pk_us]
    refine Or.inr (Or.inl ⟨hk, by omega, ?_⟩)
    rfl)
  rw [show (e - e0).toNat + 1 = (e + 1 - e0).toNat from by omega] at a
  exact a
/-- an order grew by a value, if nothing failed -/
noncomputable def TmI (so0 nu0 so nu : Nat → Int32) (b e0 e F : Int) (m : Nat) : Prop := Lo so0 nu0 so nu (b + e0) ∧ e0 ≤ e ∧ (F = 0 → Gr so nu b e0 e m)
theorem TmI.fail {so nu : Nat → Int32} {b e F : Int} {m : Nat} (h : F ≠ 0) : TmI so nu so nu b e e F m := ⟨Lo.rf, Int.le_refl _, fun q => absurd q h⟩
theorem TmI.nil {so nu : Nat → Int32} {b e F : Int} : TmI so nu so nu b e e F 0 := ⟨Lo.rf, Int.le_refl _, fun _ => Gr.rf⟩
theorem TmI.val {so nu so2 nu2 : Nat → Int32} {b e e2 F : Int} {k n : Int32} (h : EnR so nu so2 nu2 (b + e) F k n) (he : (F ≠ 0 ∧ e2 = e) ∨ (F = 0 ∧ e2 = e + 1)) (hk : k.toInt = 0 ∨ (k.toInt = 1 ∧ 0 ≤ n.toInt ∧ n.toInt ≤ 10)) (hb : 0 ≤ b + e) : TmI so nu so2 nu2 b e e2 F 1 := by
  refine ⟨h.lo hb, by omega, fun hF => ?_⟩
  subst hF
  obtain rfl : e2 = e + 1 := by omega
  exact Gr.val h hk
theorem TmI.step {so0 nu0 so1 nu1 so2 nu2 so3 nu3 : Nat → Int32} {b e0 e1 e2 e3 F1 F2 : Int} {k n : Int32} (h : TmI so0 nu0 so1 nu1 b e0 e1 F1 1) (hv : TmI so1 nu1 so2 nu2 b e1 e2 F2 1) (hF : F2 = 0 → F1 = 0) (he : EnR so2 nu2 so3 nu3 (b + e2) F2 k n) (h3 : (F2 ≠ 0 ∧ e3 = e2) ∨ (F2 = 0 ∧ e3 = e2 + 1)) (hk : k.toInt ≠ 0 ∧ k.toInt ≠ 1 ∧ k.toInt ≠ 9) (hb : 0 ≤ b + e0) : TmI so0 nu0 so3 nu3 b e0 e3 F2 1 := by
  have h12 := h.2.1
  have h23 := hv.2.1
  refine ⟨(h.1.tr hv.1 (by omega)).tr (he.lo (by omega)) (by omega), by omega, fun q => ?_⟩
  subst q
  obtain rfl : e3 = e2 + 1 := by omega
  have g1 := (h.2.2 (hF rfl)).cg hv.1 h12 hb
  exact Gr.bin (m := 0) (g1.tr (hv.2.2 rfl) h12 h23 hb) he hk (by omega) hb
theorem TmI.F {so0 nu0 so nu : Nat → Int32} {b e0 e F F2 : Int} {m : Nat} (h : TmI so0 nu0 so nu b e0 e F m) (hF : F2 = 0 → F = 0) : TmI so0 nu0 so nu b e0 e F2 m := ⟨h.1, h.2.1, fun q => h.2.2 (hF q)⟩
/-- how many of what is open wait for two, for one or two -/
noncomputable def cB (f : Nat → Int32) : Nat → Nat
  | 0 => 0
  | n + 1 => cB f n + (if (f n).toInt = 10 ∨ (f n).toInt = 11 then 1 else 0)
noncomputable def cN (f : Nat → Int32) : Nat → Nat
  | 0 => 0
  | n + 1 => cN f n + (if (f n).toInt = 12 then 0 else 1)
theorem cn_pop {f : Nat → Int32} {o o2 z : Int32} (h0 : 1 ≤ o.toInt) (e : z = f (o.toInt - 1).toNat) (h : o2.toInt = o.toInt - 1) : cB f o.toInt.toNat = cB f o2.toInt.toNat + (if z.toInt = 10 ∨ z.toInt = 11 then 1 else 0) ∧ cN f o.toInt.toNat = cN f o2.toInt.toNat + (if z.toInt = 12 then 0 else 1) := by
  rw [show o.toInt.toNat = o2.toInt.toNat + 1 from by omega]
  have hz : z = f o2.toInt.toNat := by rw [e]; congr 1; omega
  constructor
  · show cB f o2.toInt.toNat + _ = _
    rw [← hz]
  · show cN f o2.toInt.toNat + _ = _
    rw [← hz]
/-- what is answered leaves as many facts as wait -/
noncomputable def AnI (so nu so2 nu2 op : Nat → Int32) (b e e2 o o2 : Int) : Prop := Lo so nu so2 nu2 (b + e) ∧ e ≤ e2 ∧ ∀ e0 : Int, 0 ≤ b + e0 → e0 ≤ e → Gr so nu b e0 e (cB op o.toNat + 1) → Gr so2 nu2 b e0 e2 (cB op o2.toNat + 1)
theorem AnI.rf {so nu op : Nat → Int32} {b e o : Int} : AnI so nu so nu op b e e o o := ⟨Lo.rf, Int.le_refl _, fun _ _ _ h => h⟩
theorem AnI.not {so nu so1 nu1 so2 nu2 op : Nat → Int32} {b e e1 e2 o : Int} {o1 o2 z k n : Int32} (h : AnI so nu so1 nu1 op b e e1 o o1.toInt) (hE : EnR so1 nu1 so2 nu2 (b + e1) 0 k n) (hk : k.toInt = 9) (h0 : 1 ≤ o1.toInt) (ez : z = op (o1.toInt - 1).toNat) (hz : z.toInt = 9) (ho : o2.toInt = o1.toInt - 1) (he : e2 = e1 + 1) (hb : 0 ≤ b + e) : AnI so nu so2 nu2 op b e e2 o o2.toInt := by
  subst he
  have hle := h.2.1
  refine ⟨h.1.tr (hE.lo (by omega)) (by omega), by omega, fun e0 hb0 h01 hg => ?_⟩
  have hp := (cn_pop h0 ez ho).1
  rw [hz, if_neg (by decide), Nat.add_zero] at hp
  have hg1 := h.2.2 e0 hb0 h01 hg
  rw [hp] at hg1
  exact Gr.nt hg1 hE hk (by omega) hb0
theorem AnI.two {so nu so1 nu1 so2 nu2 op : Nat → Int32} {b e e1 e2 o : Int} {o1 o2 z k n : Int32} (h : AnI so nu so1 nu1 op b e e1 o o1.toInt) (hE : EnR so1 nu1 so2 nu2 (b + e1) 0 k n) (hk : k.toInt = 10 ∨ k.toInt = 11) (h0 : 1 ≤ o1.toInt) (ez : z = op (o1.toInt - 1).toNat) (hz : z.toInt = 10 ∨ z.toInt = 11) (ho : o2.toInt = o1.toInt - 1) (he : e2 = e1 + 1) (hb : 0 ≤ b + e) : AnI so nu so2 nu2 op b e e2 o o2.toInt := by
  subst he
  have hle := h.2.1
  refine ⟨h.1.tr (hE.lo (by omega)) (by omega), by omega, fun e0 hb0 h01 hg => ?_⟩
  have hp := (cn_pop h0 ez ho).1
  rw [if_pos hz] at hp
  have hg1 := h.2.2 e0 hb0 h01 hg
  rw [hp] at hg1
  exact Gr.bin hg1 hE (by omega) (by omega) hb0
theorem TmI.ms {so0 nu0 so nu : Nat → Int32} {b e0 e F : Int} {m m2 : Nat} (h : TmI so0 nu0 so nu b e0 e F m) (e9 : m = m2) : TmI so0 nu0 so nu b e0 e F m2 := e9 ▸ h
end
section
/-! what a hall's text has told so far; a rule's -/
theorem pig : ∀ (n m : Nat) (f : Nat → Nat), (∀ j, j < m → f j < n) → (∀ i j, i < j → j < m → f i ≠ f j) → m ≤ n
  | 0, m, f, h, _ => by
    cases m with
    | zero => exact Nat.le_refl _
    | succ m => exact absurd (h 0 (by omega)) (Nat.not_lt_zero _)
  | n + 1, m, f, h, hd => by
    by_cases hx : ∃ j, j < m ∧ f j = n
    · obtain ⟨j0, hj0, hf⟩ := hx
      have hm := pig n (m - 1) (fun j => if j < j0 then f j else f (j + 1)) (fun j hj => by
        have key : ∀ i, i < m → i ≠ j0 → f i < n := fun i hi hne => by
          have h1 := h i hi
          have h2 : f i ≠ f j0 := by
            rcases Nat.lt_or_gt_of_ne hne with q | q
            · exact hd i j0 q hj0
            · exact fun e => hd j0 i q hi e.symm
          omega
        by_cases q : j < j0
        · simp only [q, if_true]
          exact key j (by omega) (by omega)
        · simp only [q, if_false]
          exact key (j + 1) (by omega) (by omega)) (fun i j hij hj => by
        by_cases q : i < j0 <;> by_cases q2 : j < j0
        · simp only [q, q2, if_true]
          exact hd i j hij (by omega)
        · simp only [q, q2, if_true, if_false]
          exact hd i (j + 1) (by omega) (by omega)
        · omega
        · simp only [q, q2, if_false]
          exact hd (i + 1) (j + 1) (by omega) (by omega))
      omega
    · have := pig n m f (fun j hj => by
        have h1 := h j hj
        have h2 : f j ≠ n := fun e => hx ⟨j, hj, e⟩
        omega) hd
      omega
noncomputable def NHall (F n2 n3 : Int32) (st ch w : Nat → Int32) : Prop := F.toInt = 0 → (∀ c : Nat, (c : Int) < n2.toInt → iv 0 3 (st c)) ∧ ∀ q : Nat, (q : Int) < n3.toInt → (ch q).toInt < n2.toInt ∧ 1 ≤ (w q).toInt ∧ ∀ i, i < q → ch i ≠ ch q
theorem NHall.F {F F2 n2 n3 : Int32} {st ch w : Nat → Int32} (h : NHall F n2 n3 st ch w) (hF : F2.toInt = 0 → F.toInt = 0) : NHall F2 n2 n3 st ch w := fun q => h (hF q)
theorem NHall.no {F n2 n3 : Int32} {st ch w : Nat → Int32} (h : F.toInt ≠ 0) : NHall F n2 n3 st ch w := fun q => absurd q h
theorem NHall.nil {F : Int32} {st ch w : Nat → Int32} : NHall F 0 0 st ch w := fun _ => ⟨fun c hc => by rw [sp0] at hc; omega, fun q hq => by rw [sp0] at hq; omega⟩
theorem NHall.chair {F F2 n2 n2' n3 v : Int32} {st st2 ch w : Nat → Int32} (h : NHall F n2 n3 st ch w) (h0 : 0 ≤ n2.toInt) (hF : F2.toInt = 0 → F.toInt = 0 ∧ iv 0 3 v) (e : st2 = upd st (Int32.toNatClampNeg n2) v) (en : n2'.toInt = n2.toInt + 1) : NHall F2 n2' n3 st2 ch w := by
  intro hq
  obtain ⟨f0, fv⟩ := hF hq
  obtain ⟨h1, h2⟩ := h f0
  have ek := toNatClampNeg_toInt h0
  refine ⟨fun c hc => ?_, fun q hq => ⟨by have := (h2 q hq).1; omega, (h2 q hq).2⟩⟩
  by_cases hi : c = Int32.toNatClampNeg n2
  · rw [e, hi, pk_us]; exact fv
  · rw [e, pk_un hi]; exact h1 c (by omega)
theorem NHall.room {F n2 n3 c : Int32} {st ch w : Nat → Int32} (h : NHall F n2 n3 st ch w) (hF : F.toInt = 0) (hr : rowIn 0 7 ch) (h3 : 0 ≤ n3.toInt) (hc : 0 ≤ c.toInt ∧ c.toInt < n2.toInt) (hn : ∀ j : Nat, (j : Int) < n3.toInt → (ch j).toInt ≠ c.toInt) : n3.toInt < n2.toInt := by
  obtain ⟨_, h2⟩ := h hF
  have hp := pig n2.toInt.toNat (n3.toInt.toNat + 1) (fun j => if j < n3.toInt.toNat then (ch j).toInt.toNat else c.toInt.toNat) (fun j hj => by
    by_cases q : j < n3.toInt.toNat
    · simp only [q, if_true]
      have := (h2 j (by omega)).1
      have := (hr j).1
      omega
    · simp only [q, if_false]
      omega) (fun i j hij hj => by
    by_cases q2 : j < n3.toInt.toNat
    · have q : i < n3.toInt.toNat := by omega
      simp only [q, q2, if_true]
      have hne := (h2 j (by omega)).2.2 i hij
      have a1 := (hr i).1
      have a2 := (hr j).1
      intro e
      exact hne ((sp_eq _ _).mpr (by omega))
    · have q : i < n3.toInt.toNat := by omega
      simp only [q, q2, if_true, if_false]
      have hne := hn i (by omega)
      have a1 := (hr i).1
      omega)
  omega
theorem NHall.sit {F F2 n2 n3 n3' c v : Int32} {st ch ch2 w w2 : Nat → Int32} (h : NHall F n2 n3 st ch w) (hF : F.toInt = 0) (h3 : 0 ≤ n3.toInt) (hc : c.toInt < n2.toInt) (hv : 1 ≤ v.toInt) (hn : ∀ j : Nat, (j : Int) < n3.toInt → (ch j).toInt ≠ c.toInt) (e1 : ch2 = upd ch (Int32.toNatClampNeg n3) c) (e2 : w2 = upd w (Int32.toNatClampNeg n3) v) (en : n3'.toInt = n3.toInt + 1) : NHall F2 n2 n3' st ch2 w2 := by
  intro _
  obtain ⟨h1, h2⟩ := h hF
  have ek := toNatClampNeg_toInt h3
  refine ⟨h1, fun q hq => ?_⟩
  by_cases hi : q = Int32.toNatClampNeg n3
  · subst hi
    rw [e1, e2, pk_us, pk_us]
    refine ⟨hc, hv, fun i hlt => ?_⟩
    rw [pk_un (by omega)]
    intro e
    exact hn i (by omega) (by rw [e])
  · rw [e1, e2, pk_un hi, pk_un hi]
    have := h2 q (by omega)
    refine ⟨this.1, this.2.1, fun i hlt => ?_⟩
    rw [pk_un (by omega)]
    exact this.2.2 i hlt
theorem NHall.hall {F n2 n3 : Int32} {st ch w : Nat → Int32} (h : NHall F n2 n3 st ch w) (hF : F.toInt = 0) : HallOk n2 n3 st ch w := ⟨(h hF).1, fun q hq => ⟨((h hF).2 q hq).1, ((h hF).2 q hq).2.1⟩⟩
/-- a clause of a rule -/
noncomputable def ClF (so nu sa ta ea : Nat → Int32) (sl e : Int) (ix : Nat) : Prop := 0 ≤ (sa ix).toInt ∧ (sa ix).toInt ≤ (ta ix).toInt ∧ (ta ix).toInt ≤ (ea ix).toInt ∧ (ea ix).toInt ≤ e ∧ RunFrom so nu sl (sa ix).toInt (ta ix).toInt 0 ∧ RunFrom so nu sl (ta ix).toInt (ea ix).toInt 0
noncomputable def RcI (so nu so2 nu2 sa ta ea sa2 ta2 ea2 : Nat → Int32) (sl e e2 F : Int) (ix : Nat) : Prop := Lo so nu so2 nu2 (300 * sl + e) ∧ e ≤ e2 ∧ (∀ j, j ≠ ix → sa2 j = sa j ∧ ta2 j = ta j ∧ ea2 j = ea j) ∧ (F = 0 → ClF so2 nu2 sa2 ta2 ea2 sl e2 ix)
theorem RcI.no {so nu sa ta ea : Nat → Int32} {sl e F : Int} {ix : Nat} (h : F ≠ 0) : RcI so nu so nu sa ta ea sa ta ea sl e e F ix := ⟨Lo.rf, Int.le_refl _, fun _ _ => ⟨rfl, rfl, rfl⟩, fun q => absurd q h⟩
theorem Gr.run {so nu : Nat → Int32} {w k u : Int} {m : Nat} (h : Gr so nu (300 * w) k u m) : RunFrom so nu w k u 0 := ⟨m, by
  have := h 0
  rw [Nat.zero_add] at this
  exact this⟩
noncomputable def RI (so0 nu0 sa0 ta0 ea0 so nu sa ta ea : Nat → Int32) (sl e F n : Int) : Prop := 0 ≤ e ∧ Lo so0 nu0 so nu (300 * sl) ∧ (∀ j : Nat, (j : Int) < 12 * sl → sa j = sa0 j ∧ ta j = ta0 j ∧ ea j = ea0 j) ∧ (F = 0 → ∀ c : Nat, (c : Int) < n → ClF so nu sa ta ea sl e (12 * sl + c).toNat)
theorem RI.nil {so nu sa ta ea : Nat → Int32} {sl e F : Int} {n : Int32} (he : 0 ≤ e) (hn : n.toInt = 0) : RI so nu sa ta ea so nu sa ta ea sl e F n.toInt := ⟨he, Lo.rf, fun _ _ => ⟨rfl, rfl, rfl⟩, fun _ c hc => by omega⟩
theorem RunFrom.cg {so nu so2 nu2 : Nat → Int32} {w k u n : Int} (h : RunFrom so nu w k u n) (hl : Lo so nu so2 nu2 (300 * w + u)) (hk : 0 ≤ 300 * w + k) (hku : k ≤ u) : RunFrom so2 nu2 w k u n := by
  obtain ⟨h2, hr⟩ := h
  exact ⟨h2, run_cong _ _ _ _ (fun j q1 q2 => hl j (by omega)) hr⟩
theorem ClF.cg {so nu so2 nu2 sa ta ea sa2 ta2 ea2 : Nat → Int32} {sl e e2 : Int} {ix : Nat} (h : ClF so nu sa ta ea sl e ix) (hl : Lo so nu so2 nu2 (300 * sl + e)) (hs : 0 ≤ sl) (he : e ≤ e2) (hx : sa2 ix = sa ix ∧ ta2 ix = ta ix ∧ ea2 ix = ea ix) : ClF so2 nu2 sa2 ta2 ea2 sl e2 ix := by
  obtain ⟨q1, q2, q3, q4, q5, q6⟩ := h
  unfold ClF
  rw [hx.1, hx.2.1, hx.2.2]
  exact ⟨q1, q2, q3, by omega, q5.cg (hl.le (by omega)) (by omega) q2, q6.cg (hl.le (by omega)) (by omega) q3⟩
theorem RI.step {so0 nu0 sa0 ta0 ea0 so nu sa ta ea so2 nu2 sa2 ta2 ea2 : Nat → Int32} {sl e e2 F F2 F3 : Int} {n n2 : Int32} {ix : Nat} (h : RI so0 nu0 sa0 ta0 ea0 so nu sa ta ea sl e F n.toInt) (hc : RcI so nu so2 nu2 sa ta ea sa2 ta2 ea2 sl e e2 F2 ix) (hix : (ix : Int) = 12 * sl + n.toInt) (hs : 0 ≤ sl) (hn : 0 ≤ n.toInt) (hF : F3 = 0 → F2 = 0 ∧ F = 0) (en : n2.toInt = n.toInt + 1) : RI so0 nu0 sa0 ta0 ea0 so2 nu2 sa2 ta2 ea2 sl e2 F3 n2.toInt := by
  obtain ⟨h0, h1, h2, h3⟩ := h
  obtain ⟨c1, c2, c3, c4⟩ := hc
  refine ⟨by omega, h1.tr c1 (by omega), fun j hj => ?_, fun q c hc => ?_⟩
  · have a := h2 j hj
    have b := c3 j (by omega)
    exact ⟨b.1.trans a.1, b.2.1.trans a.2.1, b.2.2.trans a.2.2⟩
  · by_cases e9 : (c : Int) = n.toInt
    · have := c4 (hF q).1
      rw [show (12 * sl + (c : Int)).toNat = ix from by omega]
      exact this
    · exact (h3 (hF q).2 c (by omega)).cg c1 hs c2 (c3 _ (by omega))
theorem RI.fin {so0 nu0 sa0 ta0 ea0 so nu sa ta ea cl cl2 : Nat → Int32} {rl rl2 sl n : Int32} {e F : Int} (hR : RulesOk rl cl sa0 ta0 ea0 so0 nu0) (h : RI so0 nu0 sa0 ta0 ea0 so nu sa ta ea sl.toInt e F n.toInt) (hs : sl.toInt = rl.toInt) (h0 : 0 ≤ rl.toInt) (hI : ∀ r : Nat, (r : Int) < rl.toInt → ∀ c : Nat, (c : Int) < (cl r).toInt → (ta0 (12 * r + c)).toInt ≤ 300 ∧ (ea0 (12 * r + c)).toInt ≤ 300 ∧ 0 ≤ (sa0 (12 * r + c)).toInt ∧ 0 ≤ (ta0 (12 * r + c)).toInt) (e1 : cl2 = upd cl (Int32.toNatClampNeg sl) n) (hr : (F ≠ 0 ∧ rl2.toInt = rl.toInt) ∨ (F = 0 ∧ n.toInt ≤ 12 ∧ rl2.toInt = rl.toInt + 1)) : RulesOk rl2 cl2 sa ta ea so nu := by
  obtain ⟨q0, q1, q2, q3⟩ := h
  have ek := toNatClampNeg_toInt (x := sl) (by omega)
  have kq : ∀ {k u : Int} {r : Nat}, (r : Int) < rl.toInt → u ≤ 300 → 0 ≤ k → RunFrom so0 nu0 r k u 0 → RunFrom so nu r k u 0 := fun {k u r} hlt hu hk hrun => by
    by_cases hku : k ≤ u
    · exact hrun.cg (q1.le (by omega)) (by omega) hku
    · obtain ⟨h2, hr⟩ := hrun
      rw [show (u - k).toNat = 0 from by omega] at hr
      refine ⟨h2, ?_⟩
      rw [show (u - k).toNat = 0 from by omega]
      exact hr
  intro r hrl
  by_cases hq : r = Int32.toNatClampNeg sl
  · have hF : F = 0 ∧ n.toInt ≤ 12 := by
      rcases hr with g | g
      · omega
      · exact ⟨g.1, g.2.1⟩
    rw [e1, hq, pk_us]
    refine ⟨hF.2, fun c hc => ?_⟩
    have := q3 hF.1 c hc
    rw [show (12 * sl.toInt + (c : Int)).toNat = 12 * Int32.toNatClampNeg sl + c from by omega] at this
    obtain ⟨_, _, _, _, w5, w6⟩ := this
    rw [ek] at w5 w6
    exact ⟨w5, w6⟩
  · have hlt : (r : Int) < rl.toInt := by rcases hr with g | g <;> omega
    rw [e1, pk_un hq]
    obtain ⟨p1, p2⟩ := hR r hlt
    refine ⟨p1, fun c hc => ?_⟩
    obtain ⟨w1, w2⟩ := p2 c hc
    obtain ⟨i1, i2, i3, i4⟩ := hI r hlt c hc
    have hx := q2 (12 * r + c) (by omega)
    rw [hx.1, hx.2.1, hx.2.2]
    exact ⟨kq hlt i1 i3 w1, kq hlt i2 i4 w2⟩
end
section
/-! images of the reference -/
noncomputable def ImOk (g : Nat → Int32) (rl : Int32) (b : Nat) : Prop := (iv 0 4 (g (b + 1)) ∧ iv 0 8 (g (b + 2)) ∧ iv 0 8 (g (b + 3)) ∧ iv 0 10 (g (b + 5)) ∧ iv 0 2147483647 (g (b + 6)) ∧ iv (-1) 5 (g (b + 7)) ∧ (g (b + 7)).toInt < rl.toInt) ∧ (∀ j, j < 8 → iv 0 20 (g (b + 28 + j))) ∧ iv 0 20 (g (b + 36)) ∧ (∀ j, j < 8 → iv 0 7 (g (b + 45 + j))) ∧ (∀ j, j < 10 → iv 0 60 (g (b + 53 + j))) ∧ (∀ j, j < 10 → iv 0 7 (g (b + 63 + j))) ∧ HallOk (g (b + 2)) (g (b + 3)) (fun j => g (b + 20 + j)) (fun j => g (b + 45 + j)) (fun j => g (b + 28 + j))
theorem HallOk.cg {s2 s3 : Int32} {so co w so2 co2 w2 : Nat → Int32} (h : HallOk s2 s3 so co w) (h2 : s2.toInt ≤ 8) (h3 : s3.toInt ≤ 8) (e1 : ∀ j, j < 8 → so2 j = so j) (e2 : ∀ j, j < 8 → co2 j = co j) (e3 : ∀ j, j < 8 → w2 j = w j) : HallOk s2 s3 so2 co2 w2 := by
  refine ⟨fun c hc => ?_, fun q hq => ?_⟩
  · rw [e1 c (by omega)]; exact h.1 c hc
  · rw [e2 q (by omega), e3 q (by omega)]; exact h.2 q hq
theorem ImOk.mk {g : Nat → Int32} {rl s0 s1 s2 s3 s4 s5 s6 s7 pm : Int32} {so w co nm nw : Nat → Int32} {b : Nat} (hs : ∀ j, j < 8 → g (b + j) = sc8 s0 s1 s2 s3 s4 s5 s6 s7 j) (hso : ∀ j, j < 8 → g (b + 20 + j) = so j) (hw : ∀ j, j < 8 → g (b + 28 + j) = w j) (hp : g (b + 36) = pm) (hco : ∀ j, j < 8 → g (b + 45 + j) = co j) (hnm : ∀ j, j < 10 → g (b + 53 + j) = nm j) (hnw : ∀ j, j < 10 → g (b + 63 + j) = nw j) (i1 : iv 0 4 s1) (i2 : iv 0 8 s2) (i3 : iv 0 8 s3) (i5 : iv 0 10 s5) (i6 : iv 0 2147483647 s6) (i7 : iv (-1) 5 s7) (h7 : s7.toInt < rl.toInt) (rw' : rowIn 0 20 w) (ip : iv 0 20 pm) (rc : rowIn 0 7 co) (rn : rowIn 0 60 nm) (rm : rowIn 0 7 nw) (hH : HallOk s2 s3 so co w) : ImOk g rl b ∧ g (b + 6) = s6 := by
  have e1 : g (b + 1) = s1 := hs 1 (by decide)
  have e2 : g (b + 2) = s2 := hs 2 (by decide)
  have e3 : g (b + 3) = s3 := hs 3 (by decide)
  have e5 : g (b + 5) = s5 := hs 5 (by decide)
  have e6 : g (b + 6) = s6 := hs 6 (by decide)
  have e7 : g (b + 7) = s7 := hs 7 (by decide)
  refine ⟨?_, e6⟩
  unfold ImOk
  rw [e1, e2, e3, e5, e6, e7, hp]
  exact ⟨⟨i1, i2, i3, i5, i6, i7, h7⟩, fun j hj => by rw [hw j hj]; exact rw' j, ip, fun j hj => by rw [hco j hj]; exact rc j, fun j hj => by rw [hnm j hj]; exact rn j, fun j hj => by rw [hnw j hj]; exact rm j, hH.cg i2.2 i3.2 hso hco hw⟩
theorem ImOk.cg {g g2 : Nat → Int32} {rl rl2 : Int32} {b : Nat} (h : ImOk g rl b) (hl : rl.toInt ≤ rl2.toInt) (e : ∀ j, b ≤ j → j < b + 400 → g2 j = g j) : ImOk g2 rl2 b := by
  obtain ⟨⟨a1, a2, a3, a5, a6, a7, a8⟩, b1, b2, b3, b4, b5, b6⟩ := h
  unfold ImOk
  rw [e (b + 1) (by omega) (by omega), e (b + 2) (by omega) (by omega), e (b + 3) (by omega) (by omega), e (b + 5) (by omega) (by omega), e (b + 6) (by omega) (by omega), e (b + 7) (by omega) (by omega), e (b + 36) (by omega) (by omega)]
  exact ⟨⟨a1, a2, a3, a5, a6, a7, by omega⟩, fun j hj => by rw [e _ (by omega) (by omega)]; exact b1 j hj, b2, fun j hj => by rw [e _ (by omega) (by omega)]; exact b3 j hj, fun j hj => by rw [e _ (by omega) (by omega)]; exact b4 j hj, fun j hj => by rw [e _ (by omega) (by omega)]; exact b5 j hj, b6.cg a2.2 a3.2 (fun j hj => e _ (by omega) (by omega)) (fun j hj => e _ (by omega) (by omega)) (fun j hj => e _ (by omega) (by omega))⟩
theorem CpO.row {f0 f g : Nat → Int32} {a n lo hi : Int} {b m : Nat} (h : CpO f0 f g a n) (hf : rowIn lo hi f0) (hb : (b : Int) = a) (hm : (m : Int) = n) (hg : ∀ j, j < m → iv lo hi (g (b + j))) : rowIn lo hi f := by
  intro j
  by_cases hj : (j : Int) < n
  · rw [h.at hb hj]; exact hg j (by omega)
  · rw [(h j).2 (by omega)]; exact hf j
end
section
/-! the reference, whole -/
abbrev MZ : Type := (Nat → Int32) × (Nat → Nat → Int32) × (Nat → Nat → Int64)
noncomputable def ro9 (l : List (Nat → Int64)) (i : Nat) : Nat → Int64 := l.getD i (fun _ => 0)
noncomputable def MW (k : Nat → ClassId) (v : Nat → Nat) (y : MZ) : va_W := ([((v 0), .inr (7, [.int (y.1 0), .ref (v 1), .ref (v 2), .ref (v 3), .ref (v 4), .ref (v 5), .ref (v 6), .ref (v 7), .ref (v 8), .ref (v 9), .ref (v 10), .ref (v 11), .ref (v 12), .ref (v 13), .ref (v 14), .ref (v 15), .ref (v 16), .ref (v 17), .int (y.1 1), .int (y.1 2), .int (y.1 3), .int (y.1 4), .int (y.1 5), .int (y.1 6), .int (y.1 7), .int (y.1 8), .int (y.1 9), .int (y.1 10), .ref (v 18), .ref (v 19), .ref (v 20), .ref (v 21), .ref (v 22), .ref (v 23), .ref (v 24), .ref (v 25), .ref (v 26), .ref (v 27), .ref (v 28), .ref (v 29), .ref (v 30), .int (y.1 11), .int (y.1 12), .int (y.1 13), .ref (v 31), .ref (v 32), .ref (v 33), .ref (v 34), .ref (v 35), .ref (v 36), .ref (v 37), .int (y.1 14), .int (y.1 15)])), ((v 2), hcI k 4 (y.2.1 0)), ((v 3), hcI k 8 (y.2.1 1)), ((v 4), hcI k 8 (y.2.1 2)), ((v 5), hcI k 8 (y.2.1 3)), ((v 6), hcI k 8 (y.2.1 4)), ((v 7), hcI k 8 (y.2.1 5)), ((v 8), hcI k 10 (y.2.1 6)), ((v 9), hcI k 10 (y.2.1 7)), ((v 10), hcI k 10 (y.2.1 8)), ((v 11), hcI k 4 (y.2.1 9)), ((v 13), hcI k 4 (y.2.1 10)), ((v 14), hcI k 8 (y.2.1 11)), ((v 15), hcI k 8 (y.2.1 12)), ((v 16), hcI k 8 (y.2.1 13)), ((v 17), hcI k 8 (y.2.1 14)), ((v 18), hcY k 400 (y.2.1 15)), ((v 19), hcI k 1800 (y.2.1 16)), ((v 20), hcI k 1800 (y.2.1 17)), ((v 21), hcI k 6 (y.2.1 18)), ((v 22), hcI k 72 (y.2.1 19)), ((v 23), hcI k 72 (y.2.1 20)), ((v 24), hcI k 72 (y.2.1 21)), ((v 25), hcI k 402 (y.2.1 22)), ((v 26), hcJ k 11 (y.2.2 0)), ((v 27), hcJ k 300 (y.2.2 1)), ((v 28), hcI k 8 (y.2.1 23)), ((v 29), hcI k 260 (y.2.1 24)), ((v 30), hcI k 1 (y.2.1 25)), ((v 31), hcZ k 256 (y.2.1 26)), ((v 32), hcI k 4 (y.2.1 27)), ((v 33), hcI k 4 (y.2.1 28)), ((v 34), hcI k 488 (y.2.1 29)), ((v 35), hcI k 56 (y.2.1 30)), ((v 36), hcI k 2000 (y.2.1 31)), ((v 37), hcZ k 4 (y.2.1 32)), ((v 1), hcI k 8 (sc8 (y.1 16) (y.1 17) (y.1 18) (y.1 19) (y.1 20) (y.1 21) (y.1 22) (y.1 23))), ((v 12), hcI k 4 (sc4 (y.1 24) (y.1 25) (y.1 26) (y.1 27)))] : va_W)
end
section
/-! the constructors of the class's own parts -/
theorem dX0_init_0 : decode cX0_init 0 = .ok (.aload_n 0, 1) := of_0 ok_aload_n_0 (by decide +kernel)
theorem dX0_init_1 : decode cX0_init 1 = .ok (.invokespecial 3, 3) := of_u2 ok_invokespecial 0 3 (by decide +kernel)
theorem dX0_init_4 : decode cX0_init 4 = .ok (.aload_n 0, 1) := of_0 ok_aload_n_0 (by decide +kernel)
theorem dX0_init_5 : decode cX0_init 5 = .ok (.bipush 20, 2) := of_s1 ok_bipush 20 (by decide +kernel)
theorem dX0_init_7 : decode cX0_init 7 = .ok (.newarray .int, 2) := by decide +kernel
theorem dX0_init_9 : decode cX0_init 9 = .ok (.putfield 9, 3) := of_u2 ok_putfield 0 9 (by decide +kernel)
theorem dX0_init_12 : decode cX0_init 12 = .ok (.aload_n 0, 1) := of_0 ok_aload_n_0 (by decide +kernel)
theorem dX0_init_13 : decode cX0_init 13 = .ok (.bipush 20, 2) := of_s1 ok_bipush 20 (by decide +kernel)
theorem dX0_init_15 : decode cX0_init 15 = .ok (.newarray .int, 2) := by decide +kernel
theorem dX0_init_17 : decode cX0_init 17 = .ok (.putfield 15, 3) := of_u2 ok_putfield 0 15 (by decide +kernel)
theorem dX0_init_20 : decode cX0_init 20 = .ok (.aload_n 0, 1) := of_0 ok_aload_n_0 (by decide +kernel)
theorem dX0_init_21 : decode cX0_init 21 = .ok (.bipush 20, 2) := of_s1 ok_bipush 20 (by decide +kernel)
theorem dX0_init_23 : decode cX0_init 23 = .ok (.newarray .int, 2) := by decide +kernel
theorem dX0_init_25 : decode cX0_init 25 = .ok (.putfield 18, 3) := of_u2 ok_putfield 0 18 (by decide +kernel)
theorem dX0_init_28 : decode cX0_init 28 = .ok (.aload_n 0, 1) := of_0 ok_aload_n_0 (by decide +kernel)
theorem dX0_init_29 : decode cX0_init 29 = .ok (.iconst 0, 1) := of_0 ok_iconst_0 (by decide +kernel)
theorem dX0_init_30 : decode cX0_init 30 = .ok (.putfield 21, 3) := of_u2 ok_putfield 0 21 (by decide +kernel)
theorem dX0_init_33 : decode cX0_init 33 = .ok (.aload_n 0, 1) := of_0 ok_aload_n_0 (by decide +kernel)
theorem dX0_init_34 : decode cX0_init 34 = .ok (.iconst 0, 1) := of_0 ok_iconst_0 (by decide +kernel)
theorem dX0_init_35 : decode cX0_init 35 = .ok (.putfield 25, 3) := of_u2 ok_putfield 0 25 (by decide +kernel)
theorem dX0_init_38 : decode cX0_init 38 = .ok (.return_, 1) := of_0 ok_return_ (by decide +kernel)
theorem dX2_init_0 : decode cX2_init 0 = .ok (.aload_n 0, 1) := of_0 ok_aload_n_0 (by decide +kernel)
theorem dX2_init_1 : decode cX2_init 1 = .ok (.invokespecial 3, 3) := of_u2 ok_invokespecial 0 3 (by decide +kernel)
theorem dX2_init_4 : decode cX2_init 4 = .ok (.aload_n 0, 1) := of_0 ok_aload_n_0 (by decide +kernel)
theorem dX2_init_5 : decode cX2_init 5 = .ok (.bipush 10, 2) := of_s1 ok_bipush 10 (by decide +kernel)
theorem dX2_init_7 : decode cX2_init 7 = .ok (.newarray .int, 2) := by decide +kernel
theorem dX2_init_9 : decode cX2_init 9 = .ok (.putfield 9, 3) := of_u2 ok_putfield 0 9 (by decide +kernel)
theorem dX2_init_12 : decode cX2_init 12 = .ok (.aload_n 0, 1) := of_0 ok_aload_n_0 (by decide +kernel)
theorem dX2_init_13 : decode cX2_init 13 = .ok (.bipush 10, 2) := of_s1 ok_bipush 10 (by decide +kernel)
theorem dX2_init_15 : decode cX2_init 15 = .ok (.newarray .int, 2) := by decide +kernel
theorem dX2_init_17 : decode cX2_init 17 = .ok (.putfield 15, 3) := of_u2 ok_putfield 0 15 (by decide +kernel)
theorem dX2_init_20 : decode cX2_init 20 = .ok (.aload_n 0, 1) := of_0 ok_aload_n_0 (by decide +kernel)
theorem dX2_init_21 : decode cX2_init 21 = .ok (.bipush 10, 2) := of_s1 ok_bipush 10 (by decide +kernel)
theorem dX2_init_23 : decode cX2_init 23 = .ok (.newarray .int, 2) := by decide +kernel
theorem dX2_init_25 : decode cX2_init 25 = .ok (.putfield 18, 3) := of_u2 ok_putfield 0 18 (by decide +kernel)
theorem dX2_init_28 : decode cX2_init 28 = .ok (.aload_n 0, 1) := of_0 ok_aload_n_0 (by decide +kernel)
theorem dX2_init_29 : decode cX2_init 29 = .ok (.iconst 0, 1) := of_0 ok_iconst_0 (by decide +kernel)
theorem dX2_init_30 : decode cX2_init 30 = .ok (.putfield 21, 3) := of_u2 ok_putfield 0 21 (by decide +kernel)
theorem dX2_init_33 : decode cX2_init 33 = .ok (.return_, 1) := of_0 ok_return_ (by decide +kernel)
theorem dX3_init_0 : decode cX3_init 0 = .ok (.aload_n 0, 1) := of_0 ok_aload_n_0 (by decide +kernel)
theorem dX3_init_1 : decode cX3_init 1 = .ok (.invokespecial 3, 3) := of_u2 ok_invokespecial 0 3 (by decide +kernel)
theorem dX3_init_4 : decode cX3_init 4 = .ok (.aload_n 0, 1) := of_0 ok_aload_n_0 (by decide +kernel)
theorem dX3_init_5 : decode cX3_init 5 = .ok (.iconst 0, 1) := of_0 ok_iconst_0 (by decide +kernel)
theorem dX3_init_6 : decode cX3_init 6 = .ok (.putfield 9, 3) := of_u2 ok_putfield 0 9 (by decide +kernel)
theorem dX3_init_9 : decode cX3_init 9 = .ok (.aload_n 0, 1) := of_0 ok_aload_n_0 (by decide +kernel)
theorem dX3_init_10 : decode cX3_init 10 = .ok (.iconst 0, 1) := of_0 ok_iconst_0 (by decide +kernel)
theorem dX3_init_11 : decode cX3_init 11 = .ok (.putfield 15, 3) := of_u2 ok_putfield 0 15 (by decide +kernel)
theorem dX3_init_14 : decode cX3_init 14 = .ok (.aload_n 0, 1) := of_0 ok_aload_n_0 (by decide +kernel)
theorem dX3_init_15 : decode cX3_init 15 = .ok (.iconst 0, 1) := of_0 ok_iconst_0 (by decide +kernel)
theorem dX3_init_16 : decode cX3_init 16 = .ok (.putfield 19, 3) := of_u2 ok_putfield 0 19 (by decide +kernel)
theorem dX3_init_19 : decode cX3_init 19 = .ok (.aload_n 0, 1) := of_0 ok_aload_n_0 (by decide +kernel)
theorem dX3_init_20 : decode cX3_init 20 = .ok (.iconst 0, 1) := of_0 ok_iconst_0 (by decide +kernel)
theorem dX3_init_21 : decode cX3_init 21 = .ok (.putfield 22, 3) := of_u2 ok_putfield 0 22 (by decide +kernel)
theorem dX3_init_24 : decode cX3_init 24 = .ok (.aload_n 0, 1) := of_0 ok_aload_n_0 (by decide +kernel)
theorem dX3_init_25 : decode cX3_init 25 = .ok (.iconst 4, 1) := of_0 ok_iconst_4 (by decide +kernel)
theorem dX3_init_26 : decode cX3_init 26 = .ok (.newarray .int, 2) := by decide +kernel
theorem dX3_init_28 : decode cX3_init 28 = .ok (.putfield 25, 3) := of_u2 ok_putfield 0 25 (by decide +kernel)
theorem dX3_init_31 : decode cX3_init 31 = .ok (.aload_n 0, 1) := of_0 ok_aload_n_0 (by decide +kernel)
theorem dX3_init_32 : decode cX3_init 32 = .ok (.bipush 8, 2) := of_s1 ok_bipush 8 (by decide +kernel)
theorem dX3_init_34 : decode cX3_init 34 = .ok (.newarray .int, 2) := by decide +kernel
theorem dX3_init_36 : decode cX3_init 36 = .ok (.putfield 29, 3) := of_u2 ok_putfield 0 29 (by decide +kernel)
theorem dX3_init_39 : decode cX3_init 39 = .ok (.aload_n 0, 1) := of_0 ok_aload_n_0 (by decide +kernel)
theorem dX3_init_40 : decode cX3_init 40 = .ok (.bipush 8, 2) := of_s1 ok_bipush 8 (by decide +kernel)
theorem dX3_init_42 : decode cX3_init 42 = .ok (.newarray .int, 2) := by decide +kernel
theorem dX3_init_44 : decode cX3_init 44 = .ok (.putfield 32, 3) := of_u2 ok_putfield 0 32 (by decide +kernel)
theorem dX3_init_47 : decode cX3_init 47 = .ok (.aload_n 0, 1) := of_0 ok_aload_n_0 (by decide +kernel)
theorem dX3_init_48 : decode cX3_init 48 = .ok (.bipush 8, 2) := of_s1 ok_bipush 8 (by decide +kernel)
theorem dX3_init_50 : decode cX3_init 50 = .ok (.newarray .int, 2) := by decide +kernel
theorem dX3_init_52 : decode cX3_init 52 = .ok (.putfield 35, 3) := of_u2 ok_putfield 0 35 (by decide +kernel)
theorem dX3_init_55 : decode cX3_init 55 = .ok (.aload_n 0, 1) := of_0 ok_aload_n_0 (by decide +kernel)
theorem dX3_init_56 : decode cX3_init 56 = .ok (.bipush 8, 2) := of_s1 ok_bipush 8 (by decide +kernel)
theorem dX3_init_58 : decode cX3_init 58 = .ok (.newarray .int, 2) := by decide +kernel
theorem dX3_init_60 : decode cX3_init 60 = .ok (.putfield 38, 3) := of_u2 ok_putfield 0 38 (by decide +kernel)
theorem dX3_init_63 : decode cX3_init 63 = .ok (.aload_n 0, 1) := of_0 ok_aload_n_0 (by decide +kernel)
theorem dX3_init_64 : decode cX3_init 64 = .ok (.iconst 4, 1) := of_0 ok_iconst_4 (by decide +kernel)
theorem dX3_init_65 : decode cX3_init 65 = .ok (.newarray .int, 2) := by decide +kernel
theorem dX3_init_67 : decode cX3_init 67 = .ok (.putfield 41, 3) := of_u2 ok_putfield 0 41 (by decide +kernel)
theorem dX3_init_70 : decode cX3_init 70 = .ok (.aload_n 0, 1) := of_0 ok_aload_n_0 (by decide +kernel)
theorem dX3_init_71 : decode cX3_init 71 = .ok (.iconst 0, 1) := of_0 ok_iconst_0 (by decide +kernel)
theorem dX3_init_72 : decode cX3_init 72 = .ok (.putfield 44, 3) := of_u2 ok_putfield 0 44 (by decide +kernel)
theorem dX3_init_75 : decode cX3_init 75 = .ok (.aload_n 0, 1) := of_0 ok_aload_n_0 (by decide +kernel)
theorem dX3_init_76 : decode cX3_init 76 = .ok (.iconst 0, 1) := of_0 ok_iconst_0 (by decide +kernel)
theorem dX3_init_77 : decode cX3_init 77 = .ok (.putfield 47, 3) := of_u2 ok_putfield 0 47 (by decide +kernel)
theorem dX3_init_80 : decode cX3_init 80 = .ok (.aload_n 0, 1) := of_0 ok_aload_n_0 (by decide +kernel)
theorem dX3_init_81 : decode cX3_init 81 = .ok (.iconst 0, 1) := of_0 ok_iconst_0 (by decide +kernel)
theorem dX3_init_82 : decode cX3_init 82 = .ok (.putfield 50, 3) := of_u2 ok_putfield 0 50 (by decide +kernel)
theorem dX3_init_85 : decode cX3_init 85 = .ok (.aload_n 0, 1) := of_0 ok_aload_n_0 (by decide +kernel)
theorem dX3_init_86 : decode cX3_init 86 = .ok (.iconst 4, 1) := of_0 ok_iconst_4 (by decide +kernel)
theorem dX3_init_87 : decode cX3_init 87 = .ok (.newarray .int, 2) := by decide +kernel
theorem dX3_init_89 : decode cX3_init 89 = .ok (.putfield 53, 3) := of_u2 ok_putfield 0 53 (by decide +kernel)
theorem dX3_init_92 : decode cX3_init 92 = .ok (.aload_n 0, 1) := of_0 ok_aload_n_0 (by decide +kernel)
theorem dX3_init_93 : decode cX3_init 93 = .ok (.iconst 4, 1) := of_0 ok_iconst_4 (by decide +kernel)
theorem dX3_init_94 : decode cX3_init 94 = .ok (.newarray .int, 2) := by decide +kernel
theorem dX3_init_96 : decode cX3_init 96 = .ok (.putfield 56, 3) := of_u2 ok_putfield 0 56 (by decide +kernel)
theorem dX3_init_99 : decode cX3_init 99 = .ok (.aload_n 0, 1) := of_0 ok_aload_n_0 (by decide +kernel)
theorem dX3_init_100 : decode cX3_init 100 = .ok (.iconst 0, 1) := of_0 ok_iconst_0 (by decide +kernel)
theorem dX3_init_101 : decode cX3_init 101 = .ok (.putfield 59, 3) := of_u2 ok_putfield 0 59 (by decide +kernel)
theorem dX3_init_104 : decode cX3_init 104 = .ok (.aload_n 0, 1) := of_0 ok_aload_n_0 (by decide +kernel)
theorem dX3_init_105 : decode cX3_init 105 = .ok (.iconst 0, 1) := of_0 ok_iconst_0 (by decide +kernel)
theorem dX3_init_106 : decode cX3_init 106 = .ok (.putfield 62, 3) := of_u2 ok_putfield 0 62 (by decide +kernel)
theorem dX3_init_109 : decode cX3_init 109 = .ok (.return_, 1) := of_0 ok_return_ (by decide +kernel)
theorem dX4_init_0 : decode cX4_init 0 = .ok (.aload_n 0, 1) := of_0 ok_aload_n_0 (by decide +kernel)
theorem dX4_init_1 : decode cX4_init 1 = .ok (.invokespecial 3, 3) := of_u2 ok_invokespecial 0 3 (by decide +kernel)
theorem dX4_init_4 : decode cX4_init 4 = .ok (.aload_n 0, 1) := of_0 ok_aload_n_0 (by decide +kernel)
theorem dX4_init_5 : decode cX4_init 5 = .ok (.sipush 400, 3) := of_s2 ok_sipush 1 144 (by decide +kernel)
theorem dX4_init_8 : decode cX4_init 8 = .ok (.newarray .int, 2) := by decide +kernel
theorem dX4_init_10 : decode cX4_init 10 = .ok (.putfield 9, 3) := of_u2 ok_putfield 0 9 (by decide +kernel)
theorem dX4_init_13 : decode cX4_init 13 = .ok (.aload_n 0, 1) := of_0 ok_aload_n_0 (by decide +kernel)
theorem dX4_init_14 : decode cX4_init 14 = .ok (.bipush 12, 2) := of_s1 ok_bipush 12 (by decide +kernel)
theorem dX4_init_16 : decode cX4_init 16 = .ok (.newarray .int, 2) := by decide +kernel
theorem dX4_init_18 : decode cX4_init 18 = .ok (.putfield 15, 3) := of_u2 ok_putfield 0 15 (by decide +kernel)
theorem dX4_init_21 : decode cX4_init 21 = .ok (.aload_n 0, 1) := of_0 ok_aload_n_0 (by decide +kernel)
theorem dX4_init_22 : decode cX4_init 22 = .ok (.bipush 12, 2) := of_s1 ok_bipush 12 (by decide +kernel)
theorem dX4_init_24 : decode cX4_init 24 = .ok (.newarray .int, 2) := by decide +kernel
theorem dX4_init_26 : decode cX4_init 26 = .ok (.putfield 18, 3) := of_u2 ok_putfield 0 18 (by decide +kernel)
theorem dX4_init_29 : decode cX4_init 29 = .ok (.aload_n 0, 1) := of_0 ok_aload_n_0 (by decide +kernel)
theorem dX4_init_30 : decode cX4_init 30 = .ok (.bipush 12, 2) := of_s1 ok_bipush 12 (by decide +kernel)
theorem dX4_init_32 : decode cX4_init 32 = .ok (.newarray .int, 2) := by decide +kernel
theorem dX4_init_34 : decode cX4_init 34 = .ok (.putfield 21, 3) := of_u2 ok_putfield 0 21 (by decide +kernel)
theorem dX4_init_37 : decode cX4_init 37 = .ok (.aload_n 0, 1) := of_0 ok_aload_n_0 (by decide +kernel)
theorem dX4_init_38 : decode cX4_init 38 = .ok (.bipush 60, 2) := of_s1 ok_bipush 60 (by decide +kernel)
theorem dX4_init_40 : decode cX4_init 40 = .ok (.newarray .long, 2) := by decide +kernel
theorem dX4_init_42 : decode cX4_init 42 = .ok (.putfield 24, 3) := of_u2 ok_putfield 0 24 (by decide +kernel)
theorem dX4_init_45 : decode cX4_init 45 = .ok (.aload_n 0, 1) := of_0 ok_aload_n_0 (by decide +kernel)
theorem dX4_init_46 : decode cX4_init 46 = .ok (.iconst 0, 1) := of_0 ok_iconst_0 (by decide +kernel)
theorem dX4_init_47 : decode cX4_init 47 = .ok (.putfield 28, 3) := of_u2 ok_putfield 0 28 (by decide +kernel)
theorem dX4_init_50 : decode cX4_init 50 = .ok (.aload_n 0, 1) := of_0 ok_aload_n_0 (by decide +kernel)
theorem dX4_init_51 : decode cX4_init 51 = .ok (.iconst 0, 1) := of_0 ok_iconst_0 (by decide +kernel)
theorem dX4_init_52 : decode cX4_init 52 = .ok (.putfield 32, 3) := of_u2 ok_putfield 0 32 (by decide +kernel)
theorem dX4_init_55 : decode cX4_init 55 = .ok (.aload_n 0, 1) := of_0 ok_aload_n_0 (by decide +kernel)
theorem dX4_init_56 : decode cX4_init 56 = .ok (.iconst 0, 1) := of_0 ok_iconst_0 (by decide +kernel)
theorem dX4_init_57 : decode cX4_init 57 = .ok (.putfield 35, 3) := of_u2 ok_putfield 0 35 (by decide +kernel)
theorem dX4_init_60 : decode cX4_init 60 = .ok (.return_, 1) := of_0 ok_return_ (by decide +kernel)
theorem dX6_init_0 : decode cX6_init 0 = .ok (.aload_n 0, 1) := of_0 ok_aload_n_0 (by decide +kernel)
theorem dX6_init_1 : decode cX6_init 1 = .ok (.invokespecial 3, 3) := of_u2 ok_invokespecial 0 3 (by decide +kernel)
theorem dX6_init_4 : decode cX6_init 4 = .ok (.aload_n 0, 1) := of_0 ok_aload_n_0 (by decide +kernel)
theorem dX6_init_5 : decode cX6_init 5 = .ok (.new 9, 3) := of_u2 ok_new 0 9 (by decide +kernel)
theorem dX6_init_8 : decode cX6_init 8 = .ok (.dup, 1) := of_0 ok_dup (by decide +kernel)
theorem dX6_init_9 : decode cX6_init 9 = .ok (.invokespecial 11, 3) := of_u2 ok_invokespecial 0 11 (by decide +kernel)
theorem dX6_init_12 : decode cX6_init 12 = .ok (.putfield 12, 3) := of_u2 ok_putfield 0 12 (by decide +kernel)
theorem dX6_init_15 : decode cX6_init 15 = .ok (.aload_n 0, 1) := of_0 ok_aload_n_0 (by decide +kernel)
theorem dX6_init_16 : decode cX6_init 16 = .ok (.new 18, 3) := of_u2 ok_new 0 18 (by decide +kernel)
theorem dX6_init_19 : decode cX6_init 19 = .ok (.dup, 1) := of_0 ok_dup (by decide +kernel)
theorem dX6_init_20 : decode cX6_init 20 = .ok (.invokespecial 20, 3) := of_u2 ok_invokespecial 0 20 (by decide +kernel)
theorem dX6_init_23 : decode cX6_init 23 = .ok (.putfield 21, 3) := of_u2 ok_putfield 0 21 (by decide +kernel)
theorem dX6_init_26 : decode cX6_init 26 = .ok (.aload_n 0, 1) := of_0 ok_aload_n_0 (by decide +kernel)
theorem dX6_init_27 : decode cX6_init 27 = .ok (.new 25, 3) := of_u2 ok_new 0 25 (by decide +kernel)
theorem dX6_init_30 : decode cX6_init 30 = .ok (.dup, 1) := of_0 ok_dup (by decide +kernel)
theorem dX6_init_31 : decode cX6_init 31 = .ok (.invokespecial 27, 3) := of_u2 ok_invokespecial 0 27 (by decide +kernel)
theorem dX6_init_34 : decode cX6_init 34 = .ok (.putfield 28, 3) := of_u2 ok_putfield 0 28 (by decide +kernel)
theorem dX6_init_37 : decode cX6_init 37 = .ok (.aload_n 0, 1) := of_0 ok_aload_n_0 (by decide +kernel)
theorem dX6_init_38 : decode cX6_init 38 = .ok (.iconst (-1), 1) := of_0 ok_iconst_m1 (by decide +kernel)
theorem dX6_init_39 : decode cX6_init 39 = .ok (.putfield 32, 3) := of_u2 ok_putfield 0 32 (by decide +kernel)
theorem dX6_init_42 : decode cX6_init 42 = .ok (.aload_n 0, 1) := of_0 ok_aload_n_0 (by decide +kernel)
theorem dX6_init_43 : decode cX6_init 43 = .ok (.iconst 0, 1) := of_0 ok_iconst_0 (by decide +kernel)
theorem dX6_init_44 : decode cX6_init 44 = .ok (.putfield 36, 3) := of_u2 ok_putfield 0 36 (by decide +kernel)
theorem dX6_init_47 : decode cX6_init 47 = .ok (.return_, 1) := of_0 ok_return_ (by decide +kernel)
theorem dX7_init_0 : decode cX7_init 0 = .ok (.aload_n 0, 1) := of_0 ok_aload_n_0 (by decide +kernel)
theorem dX7_init_1 : decode cX7_init 1 = .ok (.invokespecial 3, 3) := of_u2 ok_invokespecial 0 3 (by decide +kernel)
theorem dX7_init_4 : decode cX7_init 4 = .ok (.aload_n 0, 1) := of_0 ok_aload_n_0 (by decide +kernel)
theorem dX7_init_5 : decode cX7_init 5 = .ok (.sipush 400, 3) := of_s2 ok_sipush 1 144 (by decide +kernel)
theorem dX7_init_8 : decode cX7_init 8 = .ok (.newarray .byte, 2) := by decide +kernel
theorem dX7_init_10 : decode cX7_init 10 = .ok (.putfield 9, 3) := of_u2 ok_putfield 0 9 (by decide +kernel)
theorem dX7_init_13 : decode cX7_init 13 = .ok (.aload_n 0, 1) := of_0 ok_aload_n_0 (by decide +kernel)
theorem dX7_init_14 : decode cX7_init 14 = .ok (.iconst 0, 1) := of_0 ok_iconst_0 (by decide +kernel)
theorem dX7_init_15 : decode cX7_init 15 = .ok (.putfield 15, 3) := of_u2 ok_putfield 0 15 (by decide +kernel)
theorem dX7_init_18 : decode cX7_init 18 = .ok (.aload_n 0, 1) := of_0 ok_aload_n_0 (by decide +kernel)
theorem dX7_init_19 : decode cX7_init 19 = .ok (.sipush 401, 3) := of_s2 ok_sipush 1 145 (by decide +kernel)
theorem dX7_init_22 : decode cX7_init 22 = .ok (.newarray .int, 2) := by decide +kernel
theorem dX7_init_24 : decode cX7_init 24 = .ok (.putfield 19, 3) := of_u2 ok_putfield 0 19 (by decide +kernel)
theorem dX7_init_27 : decode cX7_init 27 = .ok (.aload_n 0, 1) := of_0 ok_aload_n_0 (by decide +kernel)
theorem dX7_init_28 : decode cX7_init 28 = .ok (.sipush 401, 3) := of_s2 ok_sipush 1 145 (by decide +kernel)
theorem dX7_init_31 : decode cX7_init 31 = .ok (.newarray .int, 2) := by decide +kernel
theorem dX7_init_33 : decode cX7_init 33 = .ok (.putfield 23, 3) := of_u2 ok_putfield 0 23 (by decide +kernel)
theorem dX7_init_36 : decode cX7_init 36 = .ok (.aload_n 0, 1) := of_0 ok_aload_n_0 (by decide +kernel)
theorem dX7_init_37 : decode cX7_init 37 = .ok (.sipush 401, 3) := of_s2 ok_sipush 1 145 (by decide +kernel)
theorem dX7_init_40 : decode cX7_init 40 = .ok (.newarray .int, 2) := by decide +kernel
theorem dX7_init_42 : decode cX7_init 42 = .ok (.putfield 26, 3) := of_u2 ok_putfield 0 26 (by decide +kernel)
theorem dX7_init_45 : decode cX7_init 45 = .ok (.aload_n 0, 1) := of_0 ok_aload_n_0 (by decide +kernel)
theorem dX7_init_46 : decode cX7_init 46 = .ok (.iconst 0, 1) := of_0 ok_iconst_0 (by decide +kernel)
theorem dX7_init_47 : decode cX7_init 47 = .ok (.putfield 29, 3) := of_u2 ok_putfield 0 29 (by decide +kernel)
theorem dX7_init_50 : decode cX7_init 50 = .ok (.aload_n 0, 1) := of_0 ok_aload_n_0 (by decide +kernel)
theorem dX7_init_51 : decode cX7_init 51 = .ok (.iconst 0, 1) := of_0 ok_iconst_0 (by decide +kernel)
theorem dX7_init_52 : decode cX7_init 52 = .ok (.putfield 32, 3) := of_u2 ok_putfield 0 32 (by decide +kernel)
theorem dX7_init_55 : decode cX7_init 55 = .ok (.aload_n 0, 1) := of_0 ok_aload_n_0 (by decide +kernel)
theorem dX7_init_56 : decode cX7_init 56 = .ok (.iconst 0, 1) := of_0 ok_iconst_0 (by decide +kernel)
theorem dX7_init_57 : decode cX7_init 57 = .ok (.putfield 35, 3) := of_u2 ok_putfield 0 35 (by decide +kernel)
theorem dX7_init_60 : decode cX7_init 60 = .ok (.return_, 1) := of_0 ok_return_ (by decide +kernel)
set_option maxRecDepth 20000 in
theorem ggX6_init_X0_init : GoodIn wsX6_init wsX0_init := good_rp ([40, 41, 2, 3, 25, 42, 43, 44, 45, 46, 76, 77, 78, 79, 80] : List Nat) rfl (by decide +kernel)
set_option maxRecDepth 20000 in
theorem gX6_init_X0_init_n20 : GoodIn wsX6_init (wsX0_init) := ggX6_init_X0_init
set_option maxRecDepth 20000 in
theorem ggX6_init_X2_init : GoodIn wsX6_init wsX2_init := good_rp ([48, 49, 2, 3, 25, 50, 51, 52, 53, 81, 82, 83, 84] : List Nat) rfl (by decide +kernel)
set_option maxRecDepth 20000 in
theorem gX6_init_X2_init_n27 : GoodIn wsX6_init (wsX2_init) := ggX6_init_X2_init
set_option maxRecDepth 20000 in
theorem ggX6_init_X3_init : GoodIn wsX6_init wsX3_init := good_rp ([19, 20, 2, 3, 21, 22, 23, 24, 25, 26, 27, 28, 29, 30, 31, 32, 33, 34, 35, 36, 37, 38, 54, 55, 56, 57, 58, 59, 60, 61, 62, 63, 64, 65, 66, 67, 68, 69, 70] : List Nat) rfl (by decide +kernel)
set_option maxRecDepth 20000 in
theorem gX6_init_X3_init_n11 : GoodIn wsX6_init (wsX3_init) := ggX6_init_X3_init
noncomputable def actsZ (k : Nat → ClassId) (h : Nat) (q : Nat → Nat) : va_W := ([(h, .inr (0, [.ref (q 0), .ref (q 1), .ref (q 2), .int 0, .int 0])), ((q 0), hcI k 20 (fun _ => 0)), ((q 1), hcI k 20 (fun _ => 0)), ((q 2), hcI k 20 (fun _ => 0))] : va_W)
noncomputable def notesZ (k : Nat → ClassId) (h : Nat) (q : Nat → Nat) : va_W := ([(h, .inr (1, [.ref (q 0), .ref (q 1), .ref (q 2), .int 0])), ((q 0), hcI k 10 (fun _ => 0)), ((q 1), hcI k 10 (fun _ => 0)), ((q 2), hcI k 10 (fun _ => 0))] : va_W)
noncomputable def roomZ (k : Nat → ClassId) (h : Nat) (q : Nat → Nat) : va_W := ([(h, .inr (2, [.int 0, .int 0, .int 0, .int 0, .ref (q 0), .ref (q 1), .ref (q 2), .ref (q 3), .ref (q 4), .ref (q 5), .int 0, .int 0, .int 0, .ref (q 6), .ref (q 7), .int 0, .int 0])), ((q 0), hcI k 4 (fun _ => 0)), ((q 1), hcI k 8 (fun _ => 0)), ((q 2), hcI k 8 (fun _ => 0)), ((q 3), hcI k 8 (fun _ => 0)), ((q 4), hcI k 8 (fun _ => 0)), ((q 5), hcI k 4 (fun _ => 0)), ((q 6), hcI k 4 (fun _ => 0)), ((q 7), hcI k 4 (fun _ => 0))] : va_W)
noncomputable def ruleZ (k : Nat → ClassId) (h : Nat) (q : Nat → Nat) : va_W := ([(h, .inr (3, [.ref (q 0), .ref (q 1), .ref (q 2), .ref (q 3), .ref (q 4), .int 0, .int 0, .int 0])), ((q 0), hcI k 400 (fun _ => 0)), ((q 1), hcI k 12 (fun _ => 0)), ((q 2), hcI k 12 (fun _ => 0)), ((q 3), hcI k 12 (fun _ => 0)), ((q 4), hcJ k 60 (fun _ => 0))] : va_W)
noncomputable def tapeZ (k : Nat → ClassId) (h : Nat) (q : Nat → Nat) : va_W := ([(h, .inr (5, [.ref (q 0), .int 0, .ref (q 1), .ref (q 2), .ref (q 3), .int 0, .int 0, .int 0])), ((q 0), hcY k 400 (fun _ => 0)), ((q 1), hcI k 401 (fun _ => 0)), ((q 2), hcI k 401 (fun _ => 0)), ((q 3), hcI k 401 (fun _ => 0))] : va_W)
noncomputable def standZ (k : Nat → ClassId) (h : Nat) (q : Nat → Nat) : va_W := ([(h, .inr (4, [.ref (q 0), .ref (q 1), .ref (q 2), .int (-1), .int 0])), ((q 0), .inr (2, [.int 0, .int 0, .int 0, .int 0, .ref (q 3), .ref (q 4), .ref (q 5), .ref (q 6), .ref (q 7), .ref (q 8), .int 0, .int 0, .int 0, .ref (q 9), .ref (q 10), .int 0, .int 0])), ((q 3), hcI k 4 (fun _ => 0)), ((q 4), hcI k 8 (fun _ => 0)), ((q 5), hcI k 8 (fun _ => 0)), ((q 6), hcI k 8 (fun _ => 0)), ((q 7), hcI k 8 (fun _ => 0)), ((q 8), hcI k 4 (fun _ => 0)), ((q 9), hcI k 4 (fun _ => 0)), ((q 10), hcI k 4 (fun _ => 0)), ((q 1), .inr (0, [.ref (q 11), .ref (q 12), .ref (q 13), .int 0, .int 0])), ((q 11), hcI k 20 (fun _ => 0)), ((q 12), hcI k 20 (fun _ => 0)), ((q 13), hcI k 20 (fun _ => 0)), ((q 2), .inr (1, [.ref (q 14), .ref (q 15), .ref (q 16), .int 0])), ((q 14), hcI k 10 (fun _ => 0)), ((q 15), hcI k 10 (fun _ => 0)), ((q 16), hcI k 10 (fun _ => 0))] : va_W)
set_option maxHeartbeats 4000000 in
set_option maxRecDepth 100000 in
theorem c_X0_init (l : Launch) (D : va_G) (k : Nat → ClassId) (sz : Nat) (h0 : Nat) : CtV l yX0_init wsX0_init (rmK 1 3 60) [.ref h0] D k sz (([(h0, .inr (0, [.null, .null, .null, .int 0, .int 0]))] : va_W)) (fun _ : Nat → Nat => True) (fun q : Nat → Nat => actsZ k h0 q) 3 60 := by
  refine CtV.mk (cc := cX0_init) (maxL := 1) (ret := none) (by decide) rfl (Nat.le_of_ble_eq_true rfl) ?_
  intro p e s m below meth c A ls E hP hD hS hl
  obtain ⟨hx, hb, hr, hml, hown, hts, hlocks, hin, hG, hA⟩ := E
  have hown : s.vm.findClass RX0 = some m.cls := hown
  have in0 : ∀ w ∈ u_ws RX0 TX0 5, w ∈ wsX0_init := fun _ h => List.mem_cons_of_mem _ (List.mem_append_right _ h)
  have hl : lv_has ls 1 [(0, .ref h0)] := hl
  refine lv_aload_n hx hb dX0_init_0 rfl (lv_at hl 0 rfl) ?_
  refine W.objInit hx hb hown (hts (.methodLink RX0 3 objectInit) (by decide +kernel)) (hts (.instanceMethod objectInit) (by decide +kernel)) (hts (.code objectInit ⟨#[0xb1]⟩ 1 none) (by decide +kernel)) rfl (by rw [hml]; exact hl.1) rfl dX0_init_1 (Nat.le_of_ble_eq_true rfl) (Nat.le_of_ble_eq_true rfl) ?_
  refine W.eq (g2 := F0 m 4 ls []) rfl ?_
  refine lv_aload_n hx hb dX0_init_4 rfl (lv_at hl 0 rfl) ?_
  refine lv_bipush (v := 20) hx hb dX0_init_5 (by decide) ?_
  refine hc_newI hx hb (hts (.arrayClass .int) (by decide +kernel)) hG hA hP hD hS 20 (by decide) ⟨Nat.le_of_ble_eq_true rfl, Nat.le_of_ble_eq_true rfl⟩ dX0_init_7 (fun q_1 H hP hD hS => ?_)
  refine va_putF (D := D) (ci := 0) (v := .ref q_1) (C := RX0) (T := TX0) (N := 5) hx hb hts in0 tyX0 tyX0_ok nmX0 hown hG.1 hP hD hS 0 rfl rfl 0 (by decide) (hts (.fieldLink RX0 9 "ChairCane$Acts" "seats" "[I") (by decide +kernel)) (fun _ h9 => h9) rfl hin rfl (tyX0_ok 0 (by decide)) rfl rfl (Nat.le_of_ble_eq_true rfl) dX0_init_9 (fun H locs hP hD hS => ?_)
  obtain ⟨hP, hD⟩ := cv (w' := ([(h0, .inr (0, [.ref q_1, .null, .null, .int 0, .int 0])), (q_1, hcI k 20 (fun _ => 0))] : va_W)) hP hD rfl
  refine lv_aload_n hx hb dX0_init_12 rfl (lv_at hl 0 rfl) ?_
  refine lv_bipush (v := 20) hx hb dX0_init_13 (by decide) ?_
  refine hc_newI hx hb (hts (.arrayClass .int) (by decide +kernel)) hG hA hP hD hS 20 (by decide) ⟨Nat.le_of_ble_eq_true rfl, Nat.le_of_ble_eq_true rfl⟩ dX0_init_15 (fun q_2 H hP hD hS => ?_)
  refine va_putF (D := D) (ci := 0) (v := .ref q_2) (C := RX0) (T := TX0) (N := 5) hx hb hts in0 tyX0 tyX0_ok nmX0 hown hG.1 hP hD hS 0 rfl rfl 1 (by decide) (hts (.fieldLink RX0 15 "ChairCane$Acts" "minutes" "[I") (by decide +kernel)) (fun _ h9 => h9) rfl hin rfl (tyX0_ok 1 (by decide)) rfl rfl (Nat.le_of_ble_eq_true rfl) dX0_init_17 (fun H locs hP hD hS => ?_)
  obtain ⟨hP, hD⟩ := cv (w' := ([(h0, .inr (0, [.ref q_1, .ref q_2, .null, .int 0, .int 0])), (q_1, hcI k 20 (fun _ => 0)), (q_2, hcI k 20 (fun _ => 0))] : va_W)) hP hD rfl
  refine lv_aload_n hx hb dX0_init_20 rfl (lv_at hl 0 rfl) ?_
  refine lv_bipush (v := 20) hx hb dX0_init_21 (by decide) ?_
  refine hc_newI hx hb (hts (.arrayClass .int) (by decide +kernel)) hG hA hP hD hS 20 (by decide) ⟨Nat.le_of_ble_eq_true rfl, Nat.le_of_ble_eq_true rfl⟩ dX0_init_23 (fun q_3 H hP hD hS => ?_)
  refine va_putF (D := D) (ci := 0) (v := .ref q_3) (C := RX0) (T := TX0) (N := 5) hx hb hts in0 tyX0 tyX0_ok nmX0 hown hG.1 hP hD hS 0 rfl rfl 2 (by decide) (hts (.fieldLink RX0 18 "ChairCane$Acts" "canes" "[I") (by decide +kernel)) (fun _ h9 => h9) rfl hin rfl (tyX0_ok 2 (by decide)) rfl rfl (Nat.le_of_ble_eq_true rfl) dX0_init_25 (fun H locs hP hD hS => ?_)
  obtain ⟨hP, hD⟩ := cv (w' := ([(h0, .inr (0, [.ref q_1, .ref q_2, .ref q_3, .int 0, .int 0])), (q_1, hcI k 20 (fun _ => 0)), (q_2, hcI k 20 (fun _ => 0)), (q_3, hcI k 20 (fun _ => 0))] : va_W)) hP hD rfl
  refine lv_aload_n hx hb dX0_init_28 rfl (lv_at hl 0 rfl) ?_
  refine lv_iconst (v := 0) hx hb dX0_init_29 (by decide) ?_
  refine va_put (D := D) (ci := 0) (v := .int 0) (C := RX0) (T := TX0) (N := 5) hx hb hts in0 tyX0 tyX0_ok nmX0 hown hG.1 hP hD hS 0 rfl rfl 3 (by decide) (hts (.fieldLink RX0 21 "ChairCane$Acts" "next" "I") (by decide +kernel)) (fun _ h9 => h9) rfl (tyX0_ok 3 (by decide)) rfl rfl (Nat.le_of_ble_eq_true rfl) dX0_init_30 (fun H locs hP hD hS => ?_)
  obtain ⟨hP, hD⟩ := cv (w' := ([(h0, .inr (0, [.ref q_1, .ref q_2, .ref q_3, .int 0, .int 0])), (q_1, hcI k 20 (fun _ => 0)), (q_2, hcI k 20 (fun _ => 0)), (q_3, hcI k 20 (fun _ => 0))] : va_W)) hP hD rfl
  refine lv_aload_n hx hb dX0_init_33 rfl (lv_at hl 0 rfl) ?_
  refine lv_iconst (v := 0) hx hb dX0_init_34 (by decide) ?_
  refine va_put (D := D) (ci := 0) (v := .int 0) (C := RX0) (T := TX0) (N := 5) hx hb hts in0 tyX0 tyX0_ok nmX0 hown hG.1 hP hD hS 0 rfl rfl 4 (by decide) (hts (.fieldLink RX0 25 "ChairCane$Acts" "kept" "I") (by decide +kernel)) (fun _ h9 => h9) rfl (tyX0_ok 4 (by decide)) rfl rfl (Nat.le_of_ble_eq_true rfl) dX0_init_35 (fun H locs hP hD hS => ?_)
  obtain ⟨hP, hD⟩ := cv (w' := ([(h0, .inr (0, [.ref q_1, .ref q_2, .ref q_3, .int 0, .int 0])), (q_1, hcI k 20 (fun _ => 0)), (q_2, hcI k 20 (fun _ => 0)), (q_3, hcI k 20 (fun _ => 0))] : va_W)) hP hD rfl
  exact hc_endV hx hb hr hlocks (fun i => [q_1, q_2, q_3].getD i 0) trivial (hP.sub [0, 1, 2, 3] rfl) (hD.sub [0, 1, 2, 3] (by decide +kernel) rfl) hS dX0_init_38
set_option maxHeartbeats 4000000 in
set_option maxRecDepth 100000 in
theorem c_X2_init (l : Launch) (D : va_G) (k : Nat → ClassId) (sz : Nat) (h0 : Nat) : CtV l yX2_init wsX2_init (rmK 1 3 30) [.ref h0] D k sz (([(h0, .inr (1, [.null, .null, .null, .int 0]))] : va_W)) (fun _ : Nat → Nat => True) (fun q : Nat → Nat => notesZ k h0 q) 3 30 := by
  refine CtV.mk (cc := cX2_init) (maxL := 1) (ret := none) (by decide) rfl (Nat.le_of_ble_eq_true rfl) ?_
  intro p e s m below meth c A ls E hP hD hS hl
  obtain ⟨hx, hb, hr, hml, hown, hts, hlocks, hin, hG, hA⟩ := E
  have hown : s.vm.findClass RX2 = some m.cls := hown
  have in2 : ∀ w ∈ u_ws RX2 TX2 4, w ∈ wsX2_init := fun _ h => List.mem_cons_of_mem _ (List.mem_append_right _ h)
  have hl : lv_has ls 1 [(0, .ref h0)] := hl
  refine lv_aload_n hx hb dX2_init_0 rfl (lv_at hl 0 rfl) ?_
  refine W.objInit hx hb hown (hts (.methodLink RX2 3 objectInit) (by decide +kernel)) (hts (.instanceMethod objectInit) (by decide +kernel)) (hts (.code objectInit ⟨#[0xb1]⟩ 1 none) (by decide +kernel)) rfl (by rw [hml]; exact hl.1) rfl dX2_init_1 (Nat.le_of_ble_eq_true rfl) (Nat.le_of_ble_eq_true rfl) ?_
  refine W.eq (g2 := F0 m 4 ls []) rfl ?_
  refine lv_aload_n hx hb dX2_init_4 rfl (lv_at hl 0 rfl) ?_
  refine lv_bipush (v := 10) hx hb dX2_init_5 (by decide) ?_
  refine hc_newI hx hb (hts (.arrayClass .int) (by decide +kernel)) hG hA hP hD hS 10 (by decide) ⟨Nat.le_of_ble_eq_true rfl, Nat.le_of_ble_eq_true rfl⟩ dX2_init_7 (fun q_1 H hP hD hS => ?_)
  refine va_putF (D := D) (ci := 1) (v := .ref q_1) (C := RX2) (T := TX2) (N := 4) hx hb hts in2 tyX2 tyX2_ok nmX2 hown hG.1 hP hD hS 0 rfl rfl 0 (by decide) (hts (.fieldLink RX2 9 "ChairCane$Notes" "minutes" "[I") (by decide +kernel)) (fun _ h9 => h9) rfl hin rfl (tyX2_ok 0 (by decide)) rfl rfl (Nat.le_of_ble_eq_true rfl) dX2_init_9 (fun H locs hP hD hS => ?_)
  obtain ⟨hP, hD⟩ := cv (w' := ([(h0, .inr (1, [.ref q_1, .null, .null, .int 0])), (q_1, hcI k 10 (fun _ => 0))] : va_W)) hP hD rfl
  refine lv_aload_n hx hb dX2_init_12 rfl (lv_at hl 0 rfl) ?_
  refine lv_bipush (v := 10) hx hb dX2_init_13 (by decide) ?_
  refine hc_newI hx hb (hts (.arrayClass .int) (by decide +kernel)) hG hA hP hD hS 10 (by decide) ⟨Nat.le_of_ble_eq_true rfl, Nat.le_of_ble_eq_true rfl⟩ dX2_init_15 (fun q_2 H hP hD hS => ?_)
  refine va_putF (D := D) (ci := 1) (v := .ref q_2) (C := RX2) (T := TX2) (N := 4) hx hb hts in2 tyX2 tyX2_ok nmX2 hown hG.1 hP hD hS 0 rfl rfl 1 (by decide) (hts (.fieldLink RX2 15 "ChairCane$Notes" "whose" "[I") (by decide +kernel)) (fun _ h9 => h9) rfl hin rfl (tyX2_ok 1 (by decide)) rfl rfl (Nat.le_of_ble_eq_true rfl) dX2_init_17 (fun H locs hP hD hS => ?_)
  obtain ⟨hP, hD⟩ := cv (w' := ([(h0, .inr (1, [.ref q_1, .ref q_2, .null, .int 0])), (q_1, hcI k 10 (fun _ => 0)), (q_2, hcI k 10 (fun _ => 0))] : va_W)) hP hD rfl
  refine lv_aload_n hx hb dX2_init_20 rfl (lv_at hl 0 rfl) ?_
  refine lv_bipush (v := 10) hx hb dX2_init_21 (by decide) ?_
  refine hc_newI hx hb (hts (.arrayClass .int) (by decide +kernel)) hG hA hP hD hS 10 (by decide) ⟨Nat.le_of_ble_eq_true rfl, Nat.le_of_ble_eq_true rfl⟩ dX2_init_23 (fun q_3 H hP hD hS => ?_)
  refine va_putF (D := D) (ci := 1) (v := .ref q_3) (C := RX2) (T := TX2) (N := 4) hx hb hts in2 tyX2 tyX2_ok nmX2 hown hG.1 hP hD hS 0 rfl rfl 2 (by decide) (hts (.fieldLink RX2 18 "ChairCane$Notes" "states" "[I") (by decide +kernel)) (fun _ h9 => h9) rfl hin rfl (tyX2_ok 2 (by decide)) rfl rfl (Nat.le_of_ble_eq_true rfl) dX2_init_25 (fun H locs hP hD hS => ?_)
  obtain ⟨hP, hD⟩ := cv (w' := ([(h0, .inr (1, [.ref q_1, .ref q_2, .ref q_3, .int 0])), (q_1, hcI k 10 (fun _ => 0)), (q_2, hcI k 10 (fun _ => 0)), (q_3, hcI k 10 (fun _ => 0))] : va_W)) hP hD rfl
  refine lv_aload_n hx hb dX2_init_28 rfl (lv_at hl 0 rfl) ?_
  refine lv_iconst (v := 0) hx hb dX2_init_29 (by decide) ?_
  refine va_put (D := D) (ci := 1) (v := .int 0) (C := RX2) (T := TX2) (N := 4) hx hb hts in2 tyX2 tyX2_ok nmX2 hown hG.1 hP hD hS 0 rfl rfl 3 (by decide) (hts (.fieldLink RX2 21 "ChairCane$Notes" "many" "I") (by decide +kernel)) (fun _ h9 => h9) rfl (tyX2_ok 3 (by decide)) rfl rfl (Nat.le_of_ble_eq_true rfl) dX2_init_30 (fun H locs hP hD hS => ?_)
  obtain ⟨hP, hD⟩ := cv (w' := ([(h0, .inr (1, [.ref q_1, .ref q_2, .ref q_3, .int 0])), (q_1, hcI k 10 (fun _ => 0)), (q_2, hcI k 10 (fun _ => 0)), (q_3, hcI k 10 (fun _ => 0))] : va_W)) hP hD rfl
  exact hc_endV hx hb hr hlocks (fun i => [q_1, q_2, q_3].getD i 0) trivial (hP.sub [0, 1, 2, 3] rfl) (hD.sub [0, 1, 2, 3] (by decide +kernel) rfl) hS dX2_init_33
set_option maxHeartbeats 4000000 in
set_option maxRecDepth 100000 in
theorem c_X3_init (l : Launch) (D : va_G) (k : Nat → ClassId) (sz : Nat) (h0 : Nat) : CtV l yX3_init wsX3_init (rmK 1 8 48) [.ref h0] D k sz (([(h0, .inr (2, [.int 0, .int 0, .int 0, .int 0, .null, .null, .null, .null, .null, .null, .int 0, .int 0, .int 0, .null, .null, .int 0, .int 0]))] : va_W)) (fun _ : Nat → Nat => True) (fun q : Nat → Nat => roomZ k h0 q) 8 48 := by
  refine CtV.mk (cc := cX3_init) (maxL := 1) (ret := none) (by decide) rfl (Nat.le_of_ble_eq_true rfl) ?_
  intro p e s m below meth c A ls E hP hD hS hl
  obtain ⟨hx, hb, hr, hml, hown, hts, hlocks, hin, hG, hA⟩ := E
  have hown : s.vm.findClass RX3 = some m.cls := hown
  have in3 : ∀ w ∈ u_ws RX3 TX3 17, w ∈ wsX3_init := fun _ h => List.mem_cons_of_mem _ (List.mem_append_right _ h)
  have hl : lv_has ls 1 [(0, .ref h0)] := hl
  refine lv_aload_n hx hb dX3_init_0 rfl (lv_at hl 0 rfl) ?_
  refine W.objInit hx hb hown (hts (.methodLink RX3 3 objectInit) (by decide +kernel)) (hts (.instanceMethod objectInit) (by decide +kernel)) (hts (.code objectInit ⟨#[0xb1]⟩ 1 none) (by decide +kernel)) rfl (by rw [hml]; exact hl.1) rfl dX3_init_1 (Nat.le_of_ble_eq_true rfl) (Nat.le_of_ble_eq_true rfl) ?_
  refine W.eq (g2 := F0 m 4 ls []) rfl ?_
  refine lv_aload_n hx hb dX3_init_4 rfl (lv_at hl 0 rfl) ?_
  refine lv_iconst (v := 0) hx hb dX3_init_5 (by decide) ?_
  refine va_put (D := D) (ci := 2) (v := .int 0) (C := RX3) (T := TX3) (N := 17) hx hb hts in3 tyX3 tyX3_ok nmX3 hown hG.1 hP hD hS 0 rfl rfl 0 (by decide) (hts (.fieldLink RX3 9 "ChairCane$Room" "told" "Z") (by decide +kernel)) (fun _ h9 => h9) rfl (tyX3_ok 0 (by decide)) rfl rfl (Nat.le_of_ble_eq_true rfl) dX3_init_6 (fun H locs hP hD hS => ?_)
  obtain ⟨hP, hD⟩ := cv (w' := ([(h0, .inr (2, [.int 0, .int 0, .int 0, .int 0, .null, .null, .null, .null, .null, .null, .int 0, .int 0, .int 0, .null, .null, .int 0, .int 0]))] : va_W)) hP hD rfl
  refine lv_aload_n hx hb dX3_init_9 rfl (lv_at hl 0 rfl) ?_
  refine lv_iconst (v := 0) hx hb dX3_init_10 (by decide) ?_
  refine va_put (D := D) (ci := 2) (v := .int 0) (C := RX3) (T := TX3) (N := 17) hx hb hts in3 tyX3 tyX3_ok nmX3 hown hG.1 hP hD hS 0 rfl rfl 1 (by decide) (hts (.fieldLink RX3 15 "ChairCane$Room" "strands" "I") (by decide +kernel)) (fun _ h9 => h9) rfl (tyX3_ok 1 (by decide)) rfl rfl (Nat.le_of_ble_eq_true rfl) dX3_init_11 (fun H locs hP hD hS => ?_)
  obtain ⟨hP, hD⟩ := cv (w' := ([(h0, .inr (2, [.int 0, .int 0, .int 0, .int 0, .null, .null, .null, .null, .null, .null, .int 0, .int 0, .int 0, .null, .null, .int 0, .int 0]))] : va_W)) hP hD rfl
  refine lv_aload_n hx hb dX3_init_14 rfl (lv_at hl 0 rfl) ?_
  refine lv_iconst (v := 0) hx hb dX3_init_15 (by decide) ?_
  refine va_put (D := D) (ci := 2) (v := .int 0) (C := RX3) (T := TX3) (N := 17) hx hb hts in3 tyX3 tyX3_ok nmX3 hown hG.1 hP hD hS 0 rfl rfl 2 (by decide) (hts (.fieldLink RX3 19 "ChairCane$Room" "chairs" "I") (by decide +kernel)) (fun _ h9 => h9) rfl (tyX3_ok 2 (by decide)) rfl rfl (Nat.le_of_ble_eq_true rfl) dX3_init_16 (fun H locs hP hD hS => ?_)
  obtain ⟨hP, hD⟩ := cv (w' := ([(h0, .inr (2, [.int 0, .int 0, .int 0, .int 0, .null, .null, .null, .null, .null, .null, .int 0, .int 0, .int 0, .null, .null, .int 0, .int 0]))] : va_W)) hP hD rfl
  refine lv_aload_n hx hb dX3_init_19 rfl (lv_at hl 0 rfl) ?_
  refine lv_iconst (v := 0) hx hb dX3_init_20 (by decide) ?_
  refine va_put (D := D) (ci := 2) (v := .int 0) (C := RX3) (T := TX3) (N := 17) hx hb hts in3 tyX3 tyX3_ok nmX3 hown hG.1 hP hD hS 0 rfl rfl 3 (by decide) (hts (.fieldLink RX3 22 "ChairCane$Room" "sitters" "I") (by decide +kernel)) (fun _ h9 => h9) rfl (tyX3_ok 3 (by decide)) rfl rfl (Nat.le_of_ble_eq_true rfl) dX3_init_21 (fun H locs hP hD hS => ?_)
  obtain ⟨hP, hD⟩ := cv (w' := ([(h0, .inr (2, [.int 0, .int 0, .int 0, .int 0, .null, .null, .null, .null, .null, .null, .int 0, .int 0, .int 0, .null, .null, .int 0, .int 0]))] : va_W)) hP hD rfl
  refine lv_aload_n hx hb dX3_init_24 rfl (lv_at hl 0 rfl) ?_
  refine lv_iconst (v := 4) hx hb dX3_init_25 (by decide) ?_
  refine hc_newI hx hb (hts (.arrayClass .int) (by decide +kernel)) hG hA hP hD hS 4 (by decide) ⟨Nat.le_of_ble_eq_true rfl, Nat.le_of_ble_eq_true rfl⟩ dX3_init_26 (fun q_1 H hP hD hS => ?_)
  refine va_putF (D := D) (ci := 2) (v := .ref q_1) (C := RX3) (T := TX3) (N := 17) hx hb hts in3 tyX3 tyX3_ok nmX3 hown hG.1 hP hD hS 0 rfl rfl 4 (by decide) (hts (.fieldLink RX3 25 "ChairCane$Room" "toldCane" "[I") (by decide +kernel)) (fun _ h9 => h9) rfl hin rfl (tyX3_ok 4 (by decide)) rfl rfl (Nat.le_of_ble_eq_true rfl) dX3_init_28 (fun H locs hP hD hS => ?_)
  obtain ⟨hP, hD⟩ := cv (w' := ([(h0, .inr (2, [.int 0, .int 0, .int 0, .int 0, .ref q_1, .null, .null, .null, .null, .null, .int 0, .int 0, .int 0, .null, .null, .int 0, .int 0])), (q_1, hcI k 4 (fun _ => 0))] : va_W)) hP hD rfl
  refine lv_aload_n hx hb dX3_init_31 rfl (lv_at hl 0 rfl) ?_
  refine lv_bipush (v := 8) hx hb dX3_init_32 (by decide) ?_
  refine hc_newI hx hb (hts (.arrayClass .int) (by decide +kernel)) hG hA hP hD hS 8 (by decide) ⟨Nat.le_of_ble_eq_true rfl, Nat.le_of_ble_eq_true rfl⟩ dX3_init_34 (fun q_2 H hP hD hS => ?_)
  refine va_putF (D := D) (ci := 2) (v := .ref q_2) (C := RX3) (T := TX3) (N := 17) hx hb hts in3 tyX3 tyX3_ok nmX3 hown hG.1 hP hD hS 0 rfl rfl 5 (by decide) (hts (.fieldLink RX3 29 "ChairCane$Room" "height" "[I") (by decide +kernel)) (fun _ h9 => h9) rfl hin rfl (tyX3_ok 5 (by decide)) rfl rfl (Nat.le_of_ble_eq_true rfl) dX3_init_36 (fun H locs hP hD hS => ?_)
  obtain ⟨hP, hD⟩ := cv (w' := ([(h0, .inr (2, [.int 0, .int 0, .int 0, .int 0, .ref q_1, .ref q_2, .null, .null, .null, .null, .int 0, .int 0, .int 0, .null, .null, .int 0, .int 0])), (q_1, hcI k 4 (fun _ => 0)), (q_2, hcI k 8 (fun _ => 0))] : va_W)) hP hD rfl
  refine lv_aload_n hx hb dX3_init_39 rfl (lv_at hl 0 rfl) ?_
  refine lv_bipush (v := 8) hx hb dX3_init_40 (by decide) ?_
  refine hc_newI hx hb (hts (.arrayClass .int) (by decide +kernel)) hG hA hP hD hS 8 (by decide) ⟨Nat.le_of_ble_eq_true rfl, Nat.le_of_ble_eq_true rfl⟩ dX3_init_42 (fun q_3 H hP hD hS => ?_)
  refine va_putF (D := D) (ci := 2) (v := .ref q_3) (C := RX3) (T := TX3) (N := 17) hx hb hts in3 tyX3 tyX3_ok nmX3 hown hG.1 hP hD hS 0 rfl rfl 6 (by decide) (hts (.fieldLink RX3 32 "ChairCane$Room" "strandOf" "[I") (by decide +kernel)) (fun _ h9 => h9) rfl hin rfl (tyX3_ok 6 (by decide)) rfl rfl (Nat.le_of_ble_eq_true rfl) dX3_init_44 (fun H locs hP hD hS => ?_)
  obtain ⟨hP, hD⟩ := cv (w' := ([(h0, .inr (2, [.int 0, .int 0, .int 0, .int 0, .ref q_1, .ref q_2, .ref q_3, .null, .null, .null, .int 0, .int 0, .int 0, .null, .null, .int 0, .int 0])), (q_1, hcI k 4 (fun _ => 0)), (q_2, hcI k 8 (fun _ => 0)), (q_3, hcI k 8 (fun _ => 0))] : va_W)) hP hD rfl
  refine lv_aload_n hx hb dX3_init_47 rfl (lv_at hl 0 rfl) ?_
  refine lv_bipush (v := 8) hx hb dX3_init_48 (by decide) ?_
  refine hc_newI hx hb (hts (.arrayClass .int) (by decide +kernel)) hG hA hP hD hS 8 (by decide) ⟨Nat.le_of_ble_eq_true rfl, Nat.le_of_ble_eq_true rfl⟩ dX3_init_50 (fun q_4 H hP hD hS => ?_)
  refine va_putF (D := D) (ci := 2) (v := .ref q_4) (C := RX3) (T := TX3) (N := 17) hx hb hts in3 tyX3 tyX3_ok nmX3 hown hG.1 hP hD hS 0 rfl rfl 7 (by decide) (hts (.fieldLink RX3 35 "ChairCane$Room" "chairOf" "[I") (by decide +kernel)) (fun _ h9 => h9) rfl hin rfl (tyX3_ok 7 (by decide)) rfl rfl (Nat.le_of_ble_eq_true rfl) dX3_init_52 (fun H locs hP hD hS => ?_)
  obtain ⟨hP, hD⟩ := cv (w' := ([(h0, .inr (2, [.int 0, .int 0, .int 0, .int 0, .ref q_1, .ref q_2, .ref q_3, .ref q_4, .null, .null, .int 0, .int 0, .int 0, .null, .null, .int 0, .int 0])), (q_1, hcI k 4 (fun _ => 0)), (q_2, hcI k 8 (fun _ => 0)), (q_3, hcI k 8 (fun _ => 0)), (q_4, hcI k 8 (fun _ => 0))] : va_W)) hP hD rfl
  refine lv_aload_n hx hb dX3_init_55 rfl (lv_at hl 0 rfl) ?_
  refine lv_bipush (v := 8) hx hb dX3_init_56 (by decide) ?_
  refine hc_newI hx hb (hts (.arrayClass .int) (by decide +kernel)) hG hA hP hD hS 8 (by decide) ⟨Nat.le_of_ble_eq_true rfl, Nat.le_of_ble_eq_true rfl⟩ dX3_init_58 (fun q_5 H hP hD hS => ?_)
  refine va_putF (D := D) (ci := 2) (v := .ref q_5) (C := RX3) (T := TX3) (N := 17) hx hb hts in3 tyX3 tyX3_ok nmX3 hown hG.1 hP hD hS 0 rfl rfl 8 (by decide) (hts (.fieldLink RX3 38 "ChairCane$Room" "weight" "[I") (by decide +kernel)) (fun _ h9 => h9) rfl hin rfl (tyX3_ok 8 (by decide)) rfl rfl (Nat.le_of_ble_eq_true rfl) dX3_init_60 (fun H locs hP hD hS => ?_)
  obtain ⟨hP, hD⟩ := cv (w' := ([(h0, .inr (2, [.int 0, .int 0, .int 0, .int 0, .ref q_1, .ref q_2, .ref q_3, .ref q_4, .ref q_5, .null, .int 0, .int 0, .int 0, .null, .null, .int 0, .int 0])), (q_1, hcI k 4 (fun _ => 0)), (q_2, hcI k 8 (fun _ => 0)), (q_3, hcI k 8 (fun _ => 0)), (q_4, hcI k 8 (fun _ => 0)), (q_5, hcI k 8 (fun _ => 0))] : va_W)) hP hD rfl
  refine lv_aload_n hx hb dX3_init_63 rfl (lv_at hl 0 rfl) ?_
  refine lv_iconst (v := 4) hx hb dX3_init_64 (by decide) ?_
  refine hc_newI hx hb (hts (.arrayClass .int) (by decide +kernel)) hG hA hP hD hS 4 (by decide) ⟨Nat.le_of_ble_eq_true rfl, Nat.le_of_ble_eq_true rfl⟩ dX3_init_65 (fun q_6 H hP hD hS => ?_)
  refine va_putF (D := D) (ci := 2) (v := .ref q_6) (C := RX3) (T := TX3) (N := 17) hx hb hts in3 tyX3 tyX3_ok nmX3 hown hG.1 hP hD hS 0 rfl rfl 9 (by decide) (hts (.fieldLink RX3 41 "ChairCane$Room" "cane" "[I") (by decide +kernel)) (fun _ h9 => h9) rfl hin rfl (tyX3_ok 9 (by decide)) rfl rfl (Nat.le_of_ble_eq_true rfl) dX3_init_67 (fun H locs hP hD hS => ?_)
  obtain ⟨hP, hD⟩ := cv (w' := ([(h0, .inr (2, [.int 0, .int 0, .int 0, .int 0, .ref q_1, .ref q_2, .ref q_3, .ref q_4, .ref q_5, .ref q_6, .int 0, .int 0, .int 0, .null, .null, .int 0, .int 0])), (q_1, hcI k 4 (fun _ => 0)), (q_2, hcI k 8 (fun _ => 0)), (q_3, hcI k 8 (fun _ => 0)), (q_4, hcI k 8 (fun _ => 0)), (q_5, hcI k 8 (fun _ => 0)), (q_6, hcI k 4 (fun _ => 0))] : va_W)) hP hD rfl
  refine lv_aload_n hx hb dX3_init_70 rfl (lv_at hl 0 rfl) ?_
  refine lv_iconst (v := 0) hx hb dX3_init_71 (by decide) ?_
  refine va_put (D := D) (ci := 2) (v := .int 0) (C := RX3) (T := TX3) (N := 17) hx hb hts in3 tyX3 tyX3_ok nmX3 hown hG.1 hP hD hS 0 rfl rfl 10 (by decide) (hts (.fieldLink RX3 44 "ChairCane$Room" "sits" "I") (by decide +kernel)) (fun _ h9 => h9) rfl (tyX3_ok 10 (by decide)) rfl rfl (Nat.le_of_ble_eq_true rfl) dX3_init_72 (fun H locs hP hD hS => ?_)
  obtain ⟨hP, hD⟩ := cv (w' := ([(h0, .inr (2, [.int 0, .int 0, .int 0, .int 0, .ref q_1, .ref q_2, .ref q_3, .ref q_4, .ref q_5, .ref q_6, .int 0, .int 0, .int 0, .null, .null, .int 0, .int 0])), (q_1, hcI k 4 (fun _ => 0)), (q_2, hcI k 8 (fun _ => 0)), (q_3, hcI k 8 (fun _ => 0)), (q_4, hcI k 8 (fun _ => 0)), (q_5, hcI k 8 (fun _ => 0)), (q_6, hcI k 4 (fun _ => 0))] : va_W)) hP hD rfl
  refine lv_aload_n hx hb dX3_init_75 rfl (lv_at hl 0 rfl) ?_
  refine lv_iconst (v := 0) hx hb dX3_init_76 (by decide) ?_
  refine va_put (D := D) (ci := 2) (v := .int 0) (C := RX3) (T := TX3) (N := 17) hx hb hts in3 tyX3 tyX3_ok nmX3 hown hG.1 hP hD hS 0 rfl rfl 11 (by decide) (hts (.fieldLink RX3 47 "ChairCane$Room" "dropped" "I") (by decide +kernel)) (fun _ h9 => h9) rfl (tyX3_ok 11 (by decide)) rfl rfl (Nat.le_of_ble_eq_true rfl) dX3_init_77 (fun H locs hP hD hS => ?_)
  obtain ⟨hP, hD⟩ := cv (w' := ([(h0, .inr (2, [.int 0, .int 0, .int 0, .int 0, .ref q_1, .ref q_2, .ref q_3, .ref q_4, .ref q_5, .ref q_6, .int 0, .int 0, .int 0, .null, .null, .int 0, .int 0])), (q_1, hcI k 4 (fun _ => 0)), (q_2, hcI k 8 (fun _ => 0)), (q_3, hcI k 8 (fun _ => 0)), (q_4, hcI k 8 (fun _ => 0)), (q_5, hcI k 8 (fun _ => 0)), (q_6, hcI k 4 (fun _ => 0))] : va_W)) hP hD rfl
  refine lv_aload_n hx hb dX3_init_80 rfl (lv_at hl 0 rfl) ?_
  refine lv_iconst (v := 0) hx hb dX3_init_81 (by decide) ?_
  refine va_put (D := D) (ci := 2) (v := .int 0) (C := RX3) (T := TX3) (N := 17) hx hb hts in3 tyX3 tyX3_ok nmX3 hown hG.1 hP hD hS 0 rfl rfl 12 (by decide) (hts (.fieldLink RX3 50 "ChairCane$Room" "minute" "I") (by decide +kernel)) (fun _ h9 => h9) rfl (tyX3_ok 12 (by decide)) rfl rfl (Nat.le_of_ble_eq_true rfl) dX3_init_82 (fun H locs hP hD hS => ?_)
  obtain ⟨hP, hD⟩ := cv (w' := ([(h0, .inr (2, [.int 0, .int 0, .int 0, .int 0, .ref q_1, .ref q_2, .ref q_3, .ref q_4, .ref q_5, .ref q_6, .int 0, .int 0, .int 0, .null, .null, .int 0, .int 0])), (q_1, hcI k 4 (fun _ => 0)), (q_2, hcI k 8 (fun _ => 0)), (q_3, hcI k 8 (fun _ => 0)), (q_4, hcI k 8 (fun _ => 0)), (q_5, hcI k 8 (fun _ => 0)), (q_6, hcI k 4 (fun _ => 0))] : va_W)) hP hD rfl
  refine lv_aload_n hx hb dX3_init_85 rfl (lv_at hl 0 rfl) ?_
  refine lv_iconst (v := 4) hx hb dX3_init_86 (by decide) ?_
  refine hc_newI hx hb (hts (.arrayClass .int) (by decide +kernel)) hG hA hP hD hS 4 (by decide) ⟨Nat.le_of_ble_eq_true rfl, Nat.le_of_ble_eq_true rfl⟩ dX3_init_87 (fun q_7 H hP hD hS => ?_)
  refine va_putF (D := D) (ci := 2) (v := .ref q_7) (C := RX3) (T := TX3) (N := 17) hx hb hts in3 tyX3 tyX3_ok nmX3 hown hG.1 hP hD hS 0 rfl rfl 13 (by decide) (hts (.fieldLink RX3 53 "ChairCane$Room" "load" "[I") (by decide +kernel)) (fun _ h9 => h9) rfl hin rfl (tyX3_ok 13 (by decide)) rfl rfl (Nat.le_of_ble_eq_true rfl) dX3_init_89 (fun H locs hP hD hS => ?_)
  obtain ⟨hP, hD⟩ := cv (w' := ([(h0, .inr (2, [.int 0, .int 0, .int 0, .int 0, .ref q_1, .ref q_2, .ref q_3, .ref q_4, .ref q_5, .ref q_6, .int 0, .int 0, .int 0, .ref q_7, .null, .int 0, .int 0])), (q_1, hcI k 4 (fun _ => 0)), (q_2, hcI k 8 (fun _ => 0)), (q_3, hcI k 8 (fun _ => 0)), (q_4, hcI k 8 (fun _ => 0)), (q_5, hcI k 8 (fun _ => 0)), (q_6, hcI k 4 (fun _ => 0)), (q_7, hcI k 4 (fun _ => 0))] : va_W)) hP hD rfl
  refine lv_aload_n hx hb dX3_init_92 rfl (lv_at hl 0 rfl) ?_
  refine lv_iconst (v := 4) hx hb dX3_init_93 (by decide) ?_
  refine hc_newI hx hb (hts (.arrayClass .int) (by decide +kernel)) hG hA hP hD hS 4 (by decide) ⟨Nat.le_of_ble_eq_true rfl, Nat.le_of_ble_eq_true rfl⟩ dX3_init_94 (fun q_8 H hP hD hS => ?_)
  refine va_putF (D := D) (ci := 2) (v := .ref q_8) (C := RX3) (T := TX3) (N := 17) hx hb hts in3 tyX3 tyX3_ok nmX3 hown hG.1 hP hD hS 0 rfl rfl 14 (by decide) (hts (.fieldLink RX3 56 "ChairCane$Room" "heads" "[I") (by decide +kernel)) (fun _ h9 => h9) rfl hin rfl (tyX3_ok 14 (by decide)) rfl rfl (Nat.le_of_ble_eq_true rfl) dX3_init_96 (fun H locs hP hD hS => ?_)
  obtain ⟨hP, hD⟩ := cv (w' := ([(h0, .inr (2, [.int 0, .int 0, .int 0, .int 0, .ref q_1, .ref q_2, .ref q_3, .ref q_4, .ref q_5, .ref q_6, .int 0, .int 0, .int 0, .ref q_7, .ref q_8, .int 0, .int 0])), (q_1, hcI k 4 (fun _ => 0)), (q_2, hcI k 8 (fun _ => 0)), (q_3, hcI k 8 (fun _ => 0)), (q_4, hcI k 8 (fun _ => 0)), (q_5, hcI k 8 (fun _ => 0)), (q_6, hcI k 4 (fun _ => 0)), (q_7, hcI k 4 (fun _ => 0)), (q_8, hcI k 4 (fun _ => 0))] : va_W)) hP hD rfl
  refine lv_aload_n hx hb dX3_init_99 rfl (lv_at hl 0 rfl) ?_
  refine lv_iconst (v := 0) hx hb dX3_init_100 (by decide) ?_
  refine va_put (D := D) (ci := 2) (v := .int 0) (C := RX3) (T := TX3) (N := 17) hx hb hts in3 tyX3 tyX3_ok nmX3 hown hG.1 hP hD hS 0 rfl rfl 15 (by decide) (hts (.fieldLink RX3 59 "ChairCane$Room" "held" "I") (by decide +kernel)) (fun _ h9 => h9) rfl (tyX3_ok 15 (by decide)) rfl rfl (Nat.le_of_ble_eq_true rfl) dX3_init_101 (fun H locs hP hD hS => ?_)
  obtain ⟨hP, hD⟩ := cv (w' := ([(h0, .inr (2, [.int 0, .int 0, .int 0, .int 0, .ref q_1, .ref q_2, .ref q_3, .ref q_4, .ref q_5, .ref q_6, .int 0, .int 0, .int 0, .ref q_7, .ref q_8, .int 0, .int 0])), (q_1, hcI k 4 (fun _ => 0)), (q_2, hcI k 8 (fun _ => 0)), (q_3, hcI k 8 (fun _ => 0)), (q_4, hcI k 8 (fun _ => 0)), (q_5, hcI k 8 (fun _ => 0)), (q_6, hcI k 4 (fun _ => 0)), (q_7, hcI k 4 (fun _ => 0)), (q_8, hcI k 4 (fun _ => 0))] : va_W)) hP hD rfl
  refine lv_aload_n hx hb dX3_init_104 rfl (lv_at hl 0 rfl) ?_
  refine lv_iconst (v := 0) hx hb dX3_init_105 (by decide) ?_
  refine va_put (D := D) (ci := 2) (v := .int 0) (C := RX3) (T := TX3) (N := 17) hx hb hts in3 tyX3 tyX3_ok nmX3 hown hG.1 hP hD hS 0 rfl rfl 16 (by decide) (hts (.fieldLink RX3 62 "ChairCane$Room" "heldDown" "I") (by decide +kernel)) (fun _ h9 => h9) rfl (tyX3_ok 16 (by decide)) rfl rfl (Nat.le_of_ble_eq_true rfl) dX3_init_106 (fun H locs hP hD hS => ?_)
  obtain ⟨hP, hD⟩ := cv (w' := ([(h0, .inr (2, [.int 0, .int 0, .int 0, .int 0, .ref q_1, .ref q_2, .ref q_3, .ref q_4, .ref q_5, .ref q_6, .int 0, .int 0, .int 0, .ref q_7, .ref q_8, .int 0, .int 0])), (q_1, hcI k 4 (fun _ => 0)), (q_2, hcI k 8 (fun _ => 0)), (q_3, hcI k 8 (fun _ => 0)), (q_4, hcI k 8 (fun _ => 0)), (q_5, hcI k 8 (fun _ => 0)), (q_6, hcI k 4 (fun _ => 0)), (q_7, hcI k 4 (fun _ => 0)), (q_8, hcI k 4 (fun _ => 0))] : va_W)) hP hD rfl
  exact hc_endV hx hb hr hlocks (fun i => [q_1, q_2, q_3, q_4, q_5, q_6, q_7, q_8].getD i 0) trivial (hP.sub [0, 1, 2, 3, 4, 5, 6, 7, 8] rfl) (hD.sub [0, 1, 2, 3, 4, 5, 6, 7, 8] (by decide +kernel) rfl) hS dX3_init_109
set_option maxHeartbeats 4000000 in
set_option maxRecDepth 100000 in
theorem c_X4_init (l : Launch) (D : va_G) (k : Nat → ClassId) (sz : Nat) (h0 : Nat) : CtV l yX4_init wsX4_init (rmK 1 5 496) [.ref h0] D k sz (([(h0, .inr (3, [.null, .null, .null, .null, .null, .int 0, .int 0, .int 0]))] : va_W)) (fun _ : Nat → Nat => True) (fun q : Nat → Nat => ruleZ k h0 q) 5 496 := by
  refine CtV.mk (cc := cX4_init) (maxL := 1) (ret := none) (by decide) rfl (Nat.le_of_ble_eq_true rfl) ?_
  intro p e s m below meth c A ls E hP hD hS hl
  obtain ⟨hx, hb, hr, hml, hown, hts, hlocks, hin, hG, hA⟩ := E
  have hown : s.vm.findClass RX4 = some m.cls := hown
  have in4 : ∀ w ∈ u_ws RX4 TX4 8, w ∈ wsX4_init := fun _ h => List.mem_cons_of_mem _ (List.mem_append_right _ h)
  have hl : lv_has ls 1 [(0, .ref h0)] := hl
  refine lv_aload_n hx hb dX4_init_0 rfl (lv_at hl 0 rfl) ?_
  refine W.objInit hx hb hown (hts (.methodLink RX4 3 objectInit) (by decide +kernel)) (hts (.instanceMethod objectInit) (by decide +kernel)) (hts (.code objectInit ⟨#[0xb1]⟩ 1 none) (by decide +kernel)) rfl (by rw [hml]; exact hl.1) rfl dX4_init_1 (Nat.le_of_ble_eq_true rfl) (Nat.le_of_ble_eq_true rfl) ?_
  refine W.eq (g2 := F0 m 4 ls []) rfl ?_
  refine lv_aload_n hx hb dX4_init_4 rfl (lv_at hl 0 rfl) ?_
  refine lv_sipush (v := 400) hx hb dX4_init_5 (by decide) ?_
  refine hc_newI hx hb (hts (.arrayClass .int) (by decide +kernel)) hG hA hP hD hS 400 (by decide) ⟨Nat.le_of_ble_eq_true rfl, Nat.le_of_ble_eq_true rfl⟩ dX4_init_8 (fun q_1 H hP hD hS => ?_)
  refine va_putF (D := D) (ci := 3) (v := .ref q_1) (C := RX4) (T := TX4) (N := 8) hx hb hts in4 tyX4 tyX4_ok nmX4 hown hG.1 hP hD hS 0 rfl rfl 0 (by decide) (hts (.fieldLink RX4 9 "ChairCane$Rule" "steps" "[I") (by decide +kernel)) (fun _ h9 => h9) rfl hin rfl (tyX4_ok 0 (by decide)) rfl rfl (Nat.le_of_ble_eq_true rfl) dX4_init_10 (fun H locs hP hD hS => ?_)
  obtain ⟨hP, hD⟩ := cv (w' := ([(h0, .inr (3, [.ref q_1, .null, .null, .null, .null, .int 0, .int 0, .int 0])), (q_1, hcI k 400 (fun _ => 0))] : va_W)) hP hD rfl
  refine lv_aload_n hx hb dX4_init_13 rfl (lv_at hl 0 rfl) ?_
  refine lv_bipush (v := 12) hx hb dX4_init_14 (by decide) ?_
  refine hc_newI hx hb (hts (.arrayClass .int) (by decide +kernel)) hG hA hP hD hS 12 (by decide) ⟨Nat.le_of_ble_eq_true rfl, Nat.le_of_ble_eq_true rfl⟩ dX4_init_16 (fun q_2 H hP hD hS => ?_)
  refine va_putF (D := D) (ci := 3) (v := .ref q_2) (C := RX4) (T := TX4) (N := 8) hx hb hts in4 tyX4 tyX4_ok nmX4 hown hG.1 hP hD hS 0 rfl rfl 1 (by decide) (hts (.fieldLink RX4 15 "ChairCane$Rule" "sumFrom" "[I") (by decide +kernel)) (fun _ h9 => h9) rfl hin rfl (tyX4_ok 1 (by decide)) rfl rfl (Nat.le_of_ble_eq_true rfl) dX4_init_18 (fun H locs hP hD hS => ?_)
  obtain ⟨hP, hD⟩ := cv (w' := ([(h0, .inr (3, [.ref q_1, .ref q_2, .null, .null, .null, .int 0, .int 0, .int 0])), (q_1, hcI k 400 (fun _ => 0)), (q_2, hcI k 12 (fun _ => 0))] : va_W)) hP hD rfl
  refine lv_aload_n hx hb dX4_init_21 rfl (lv_at hl 0 rfl) ?_
  refine lv_bipush (v := 12) hx hb dX4_init_22 (by decide) ?_
  refine hc_newI hx hb (hts (.arrayClass .int) (by decide +kernel)) hG hA hP hD hS 12 (by decide) ⟨Nat.le_of_ble_eq_true rfl, Nat.le_of_ble_eq_true rfl⟩ dX4_init_24 (fun q_3 H hP hD hS => ?_)
  refine va_putF (D := D) (ci := 3) (v := .ref q_3) (C := RX4) (T := TX4) (N := 8) hx hb hts in4 tyX4 tyX4_ok nmX4 hown hG.1 hP hD hS 0 rfl rfl 2 (by decide) (hts (.fieldLink RX4 18 "ChairCane$Rule" "sumTo" "[I") (by decide +kernel)) (fun _ h9 => h9) rfl hin rfl (tyX4_ok 2 (by decide)) rfl rfl (Nat.le_of_ble_eq_true rfl) dX4_init_26 (fun H locs hP hD hS => ?_)
  obtain ⟨hP, hD⟩ := cv (w' := ([(h0, .inr (3, [.ref q_1, .ref q_2, .ref q_3, .null, .null, .int 0, .int 0, .int 0])), (q_1, hcI k 400 (fun _ => 0)), (q_2, hcI k 12 (fun _ => 0)), (q_3, hcI k 12 (fun _ => 0))] : va_W)) hP hD rfl
  refine lv_aload_n hx hb dX4_init_29 rfl (lv_at hl 0 rfl) ?_
  refine lv_bipush (v := 12) hx hb dX4_init_30 (by decide) ?_
  refine hc_newI hx hb (hts (.arrayClass .int) (by decide +kernel)) hG hA hP hD hS 12 (by decide) ⟨Nat.le_of_ble_eq_true rfl, Nat.le_of_ble_eq_true rfl⟩ dX4_init_32 (fun q_4 H hP hD hS => ?_)
  refine va_putF (D := D) (ci := 3) (v := .ref q_4) (C := RX4) (T := TX4) (N := 8) hx hb hts in4 tyX4 tyX4_ok nmX4 hown hG.1 hP hD hS 0 rfl rfl 3 (by decide) (hts (.fieldLink RX4 21 "ChairCane$Rule" "testTo" "[I") (by decide +kernel)) (fun _ h9 => h9) rfl hin rfl (tyX4_ok 3 (by decide)) rfl rfl (Nat.le_of_ble_eq_true rfl) dX4_init_34 (fun H locs hP hD hS => ?_)
  obtain ⟨hP, hD⟩ := cv (w' := ([(h0, .inr (3, [.ref q_1, .ref q_2, .ref q_3, .ref q_4, .null, .int 0, .int 0, .int 0])), (q_1, hcI k 400 (fun _ => 0)), (q_2, hcI k 12 (fun _ => 0)), (q_3, hcI k 12 (fun _ => 0)), (q_4, hcI k 12 (fun _ => 0))] : va_W)) hP hD rfl
  refine lv_aload_n hx hb dX4_init_37 rfl (lv_at hl 0 rfl) ?_
  refine lv_bipush (v := 60) hx hb dX4_init_38 (by decide) ?_
  refine hc_newJ hx hb (hts (.arrayClass .long) (by decide +kernel)) hG hA hP hD hS 60 (by decide) ⟨Nat.le_of_ble_eq_true rfl, Nat.le_of_ble_eq_true rfl⟩ dX4_init_40 (fun q_5 H hP hD hS => ?_)
  refine va_putF (D := D) (ci := 3) (v := .ref q_5) (C := RX4) (T := TX4) (N := 8) hx hb hts in4 tyX4 tyX4_ok nmX4 hown hG.1 hP hD hS 0 rfl rfl 4 (by decide) (hts (.fieldLink RX4 24 "ChairCane$Rule" "stack" "[J") (by decide +kernel)) (fun _ h9 => h9) rfl hin rfl (tyX4_ok 4 (by decide)) rfl rfl (Nat.le_of_ble_eq_true rfl) dX4_init_42 (fun H locs hP hD hS => ?_)
  obtain ⟨hP, hD⟩ := cv (w' := ([(h0, .inr (3, [.ref q_1, .ref q_2, .ref q_3, .ref q_4, .ref q_5, .int 0, .int 0, .int 0])), (q_1, hcI k 400 (fun _ => 0)), (q_2, hcI k 12 (fun _ => 0)), (q_3, hcI k 12 (fun _ => 0)), (q_4, hcI k 12 (fun _ => 0)), (q_5, hcJ k 60 (fun _ => 0))] : va_W)) hP hD rfl
  refine lv_aload_n hx hb dX4_init_45 rfl (lv_at hl 0 rfl) ?_
  refine lv_iconst (v := 0) hx hb dX4_init_46 (by decide) ?_
  refine va_put (D := D) (ci := 3) (v := .int 0) (C := RX4) (T := TX4) (N := 8) hx hb hts in4 tyX4 tyX4_ok nmX4 hown hG.1 hP hD hS 0 rfl rfl 5 (by decide) (hts (.fieldLink RX4 28 "ChairCane$Rule" "length" "I") (by decide +kernel)) (fun _ h9 => h9) rfl (tyX4_ok 5 (by decide)) rfl rfl (Nat.le_of_ble_eq_true rfl) dX4_init_47 (fun H locs hP hD hS => ?_)
  obtain ⟨hP, hD⟩ := cv (w' := ([(h0, .inr (3, [.ref q_1, .ref q_2, .ref q_3, .ref q_4, .ref q_5, .int 0, .int 0, .int 0])), (q_1, hcI k 400 (fun _ => 0)), (q_2, hcI k 12 (fun _ => 0)), (q_3, hcI k 12 (fun _ => 0)), (q_4, hcI k 12 (fun _ => 0)), (q_5, hcJ k 60 (fun _ => 0))] : va_W)) hP hD rfl
  refine lv_aload_n hx hb dX4_init_50 rfl (lv_at hl 0 rfl) ?_
  refine lv_iconst (v := 0) hx hb dX4_init_51 (by decide) ?_
  refine va_put (D := D) (ci := 3) (v := .int 0) (C := RX4) (T := TX4) (N := 8) hx hb hts in4 tyX4 tyX4_ok nmX4 hown hG.1 hP hD hS 0 rfl rfl 6 (by decide) (hts (.fieldLink RX4 32 "ChairCane$Rule" "clauses" "I") (by decide +kernel)) (fun _ h9 => h9) rfl (tyX4_ok 6 (by decide)) rfl rfl (Nat.le_of_ble_eq_true rfl) dX4_init_52 (fun H locs hP hD hS => ?_)
  obtain ⟨hP, hD⟩ := cv (w' := ([(h0, .inr (3, [.ref q_1, .ref q_2, .ref q_3, .ref q_4, .ref q_5, .int 0, .int 0, .int 0])), (q_1, hcI k 400 (fun _ => 0)), (q_2, hcI k 12 (fun _ => 0)), (q_3, hcI k 12 (fun _ => 0)), (q_4, hcI k 12 (fun _ => 0)), (q_5, hcJ k 60 (fun _ => 0))] : va_W)) hP hD rfl
  refine lv_aload_n hx hb dX4_init_55 rfl (lv_at hl 0 rfl) ?_
  refine lv_iconst (v := 0) hx hb dX4_init_56 (by decide) ?_
  refine va_put (D := D) (ci := 3) (v := .int 0) (C := RX4) (T := TX4) (N := 8) hx hb hts in4 tyX4 tyX4_ok nmX4 hown hG.1 hP hD hS 0 rfl rfl 7 (by decide) (hts (.fieldLink RX4 35 "ChairCane$Rule" "units" "I") (by decide +kernel)) (fun _ h9 => h9) rfl (tyX4_ok 7 (by decide)) rfl rfl (Nat.le_of_ble_eq_true rfl) dX4_init_57 (fun H locs hP hD hS => ?_)
  obtain ⟨hP, hD⟩ := cv (w' := ([(h0, .inr (3, [.ref q_1, .ref q_2, .ref q_3, .ref q_4, .ref q_5, .int 0, .int 0, .int 0])), (q_1, hcI k 400 (fun _ => 0)), (q_2, hcI k 12 (fun _ => 0)), (q_3, hcI k 12 (fun _ => 0)), (q_4, hcI k 12 (fun _ => 0)), (q_5, hcJ k 60 (fun _ => 0))] : va_W)) hP hD rfl
  exact hc_endV hx hb hr hlocks (fun i => [q_1, q_2, q_3, q_4, q_5].getD i 0) trivial (hP.sub [0, 1, 2, 3, 4, 5] rfl) (hD.sub [0, 1, 2, 3, 4, 5] (by decide +kernel) rfl) hS dX4_init_60
set_option maxHeartbeats 4000000 in
set_option maxRecDepth 100000 in
theorem c_X7_init (l : Launch) (D : va_G) (k : Nat → ClassId) (sz : Nat) (h0 : Nat) : CtV l yX7_init wsX7_init (rmK 1 4 1603) [.ref h0] D k sz (([(h0, .inr (5, [.null, .int 0, .null, .null, .null, .int 0, .int 0, .int 0]))] : va_W)) (fun _ : Nat → Nat => True) (fun q : Nat → Nat => tapeZ k h0 q) 4 1603 := by
  refine CtV.mk (cc := cX7_init) (maxL := 1) (ret := none) (by decide) rfl (Nat.le_of_ble_eq_true rfl) ?_
  intro p e s m below meth c A ls E hP hD hS hl
  obtain ⟨hx, hb, hr, hml, hown, hts, hlocks, hin, hG, hA⟩ := E
  have hown : s.vm.findClass RX7 = some m.cls := hown
  have in7 : ∀ w ∈ u_ws RX7 TX7 8, w ∈ wsX7_init := fun _ h => List.mem_cons_of_mem _ (List.mem_append_right _ h)
  have hl : lv_has ls 1 [(0, .ref h0)] := hl
  refine lv_aload_n hx hb dX7_init_0 rfl (lv_at hl 0 rfl) ?_
  refine W.objInit hx hb hown (hts (.methodLink RX7 3 objectInit) (by decide +kernel)) (hts (.instanceMethod objectInit) (by decide +kernel)) (hts (.code objectInit ⟨#[0xb1]⟩ 1 none) (by decide +kernel)) rfl (by rw [hml]; exact hl.1) rfl dX7_init_1 (Nat.le_of_ble_eq_true rfl) (Nat.le_of_ble_eq_true rfl) ?_
  refine W.eq (g2 := F0 m 4 ls []) rfl ?_
  refine lv_aload_n hx hb dX7_init_4 rfl (lv_at hl 0 rfl) ?_
  refine lv_sipush (v := 400) hx hb dX7_init_5 (by decide) ?_
  refine hc_newB hx hb (hts (.arrayClass .byte) (by decide +kernel)) hG hA hP hD hS 400 (by decide) ⟨Nat.le_of_ble_eq_true rfl, Nat.le_of_ble_eq_true rfl⟩ dX7_init_8 (fun q_1 H hP hD hS => ?_)
  refine va_putF (D := D) (ci := 5) (v := .ref q_1) (C := RX7) (T := TX7) (N := 8) hx hb hts in7 tyX7 tyX7_ok nmX7 hown hG.1 hP hD hS 0 rfl rfl 0 (by decide) (hts (.fieldLink RX7 9 "ChairCane$Tape" "bytes" "[B") (by decide +kernel)) (fun _ h9 => h9) rfl hin rfl (tyX7_ok 0 (by decide)) rfl rfl (Nat.le_of_ble_eq_true rfl) dX7_init_10 (fun H locs hP hD hS => ?_)
  obtain ⟨hP, hD⟩ := cv (w' := ([(h0, .inr (5, [.ref q_1, .int 0, .null, .null, .null, .int 0, .int 0, .int 0])), (q_1, hcY k 400 (fun _ => 0))] : va_W)) hP hD rfl
  refine lv_aload_n hx hb dX7_init_13 rfl (lv_at hl 0 rfl) ?_
  refine lv_iconst (v := 0) hx hb dX7_init_14 (by decide) ?_
  refine va_put (D := D) (ci := 5) (v := .int 0) (C := RX7) (T := TX7) (N := 8) hx hb hts in7 tyX7 tyX7_ok nmX7 hown hG.1 hP hD hS 0 rfl rfl 1 (by decide) (hts (.fieldLink RX7 15 "ChairCane$Tape" "length" "I") (by decide +kernel)) (fun _ h9 => h9) rfl (tyX7_ok 1 (by decide)) rfl rfl (Nat.le_of_ble_eq_true rfl) dX7_init_15 (fun H locs hP hD hS => ?_)
  obtain ⟨hP, hD⟩ := cv (w' := ([(h0, .inr (5, [.ref q_1, .int 0, .null, .null, .null, .int 0, .int 0, .int 0])), (q_1, hcY k 400 (fun _ => 0))] : va_W)) hP hD rfl
  refine lv_aload_n hx hb dX7_init_18 rfl (lv_at hl 0 rfl) ?_
  refine lv_sipush (v := 401) hx hb dX7_init_19 (by decide) ?_
  refine hc_newI hx hb (hts (.arrayClass .int) (by decide +kernel)) hG hA hP hD hS 401 (by decide) ⟨Nat.le_of_ble_eq_true rfl, Nat.le_of_ble_eq_true rfl⟩ dX7_init_22 (fun q_2 H hP hD hS => ?_)
  refine va_putF (D := D) (ci := 5) (v := .ref q_2) (C := RX7) (T := TX7) (N := 8) hx hb hts in7 tyX7 tyX7_ok nmX7 hown hG.1 hP hD hS 0 rfl rfl 2 (by decide) (hts (.fieldLink RX7 19 "ChairCane$Tape" "kinds" "[I") (by decide +kernel)) (fun _ h9 => h9) rfl hin rfl (tyX7_ok 2 (by decide)) rfl rfl (Nat.le_of_ble_eq_true rfl) dX7_init_24 (fun H locs hP hD hS => ?_)
  obtain ⟨hP, hD⟩ := cv (w' := ([(h0, .inr (5, [.ref q_1, .int 0, .ref q_2, .null, .null, .int 0, .int 0, .int 0])), (q_1, hcY k 400 (fun _ => 0)), (q_2, hcI k 401 (fun _ => 0))] : va_W)) hP hD rfl
  refine lv_aload_n hx hb dX7_init_27 rfl (lv_at hl 0 rfl) ?_
  refine lv_sipush (v := 401) hx hb dX7_init_28 (by decide) ?_
  refine hc_newI hx hb (hts (.arrayClass .int) (by decide +kernel)) hG hA hP hD hS 401 (by decide) ⟨Nat.le_of_ble_eq_true rfl, Nat.le_of_ble_eq_true rfl⟩ dX7_init_31 (fun q_3 H hP hD hS => ?_)
  refine va_putF (D := D) (ci := 5) (v := .ref q_3) (C := RX7) (T := TX7) (N := 8) hx hb hts in7 tyX7 tyX7_ok nmX7 hown hG.1 hP hD hS 0 rfl rfl 3 (by decide) (hts (.fieldLink RX7 23 "ChairCane$Tape" "places" "[I") (by decide +kernel)) (fun _ h9 => h9) rfl hin rfl (tyX7_ok 3 (by decide)) rfl rfl (Nat.le_of_ble_eq_true rfl) dX7_init_33 (fun H locs hP hD hS => ?_)
  obtain ⟨hP, hD⟩ := cv (w' := ([(h0, .inr (5, [.ref q_1, .int 0, .ref q_2, .ref q_3, .null, .int 0, .int 0, .int 0])), (q_1, hcY k 400 (fun _ => 0)), (q_2, hcI k 401 (fun _ => 0)), (q_3, hcI k 401 (fun _ => 0))] : va_W)) hP hD rfl
  refine lv_aload_n hx hb dX7_init_36 rfl (lv_at hl 0 rfl) ?_
  refine lv_sipush (v := 401) hx hb dX7_init_37 (by decide) ?_
  refine hc_newI hx hb (hts (.arrayClass .int) (by decide +kernel)) hG hA hP hD hS 401 (by decide) ⟨Nat.le_of_ble_eq_true rfl, Nat.le_of_ble_eq_true rfl⟩ dX7_init_40 (fun q_4 H hP hD hS => ?_)
  refine va_putF (D := D) (ci := 5) (v := .ref q_4) (C := RX7) (T := TX7) (N := 8) hx hb hts in7 tyX7 tyX7_ok nmX7 hown hG.1 hP hD hS 0 rfl rfl 4 (by decide) (hts (.fieldLink RX7 26 "ChairCane$Tape" "values" "[I") (by decide +kernel)) (fun _ h9 => h9) rfl hin rfl (tyX7_ok 4 (by decide)) rfl rfl (Nat.le_of_ble_eq_true rfl) dX7_init_42 (fun H locs hP hD hS => ?_)
  obtain ⟨hP, hD⟩ := cv (w' := ([(h0, .inr (5, [.ref q_1, .int 0, .ref q_2, .ref q_3, .ref q_4, .int 0, .int 0, .int 0])), (q_1, hcY k 400 (fun _ => 0)), (q_2, hcI k 401 (fun _ => 0)), (q_3, hcI k 401 (fun _ => 0)), (q_4, hcI k 401 (fun _ => 0))] : va_W)) hP hD rfl
  refine lv_aload_n hx hb dX7_init_45 rfl (lv_at hl 0 rfl) ?_
  refine lv_iconst (v := 0) hx hb dX7_init_46 (by decide) ?_
  refine va_put (D := D) (ci := 5) (v := .int 0) (C := RX7) (T := TX7) (N := 8) hx hb hts in7 tyX7 tyX7_ok nmX7 hown hG.1 hP hD hS 0 rfl rfl 5 (by decide) (hts (.fieldLink RX7 29 "ChairCane$Tape" "pieces" "I") (by decide +kernel)) (fun _ h9 => h9) rfl (tyX7_ok 5 (by decide)) rfl rfl (Nat.le_of_ble_eq_true rfl) dX7_init_47 (fun H locs hP hD hS => ?_)
  obtain ⟨hP, hD⟩ := cv (w' := ([(h0, .inr (5, [.ref q_1, .int 0, .ref q_2, .ref q_3, .ref q_4, .int 0, .int 0, .int 0])), (q_1, hcY k 400 (fun _ => 0)), (q_2, hcI k 401 (fun _ => 0)), (q_3, hcI k 401 (fun _ => 0)), (q_4, hcI k 401 (fun _ => 0))] : va_W)) hP hD rfl
  refine lv_aload_n hx hb dX7_init_50 rfl (lv_at hl 0 rfl) ?_
  refine lv_iconst (v := 0) hx hb dX7_init_51 (by decide) ?_
  refine va_put (D := D) (ci := 5) (v := .int 0) (C := RX7) (T := TX7) (N := 8) hx hb hts in7 tyX7 tyX7_ok nmX7 hown hG.1 hP hD hS 0 rfl rfl 6 (by decide) (hts (.fieldLink RX7 32 "ChairCane$Tape" "at" "I") (by decide +kernel)) (fun _ h9 => h9) rfl (tyX7_ok 6 (by decide)) rfl rfl (Nat.le_of_ble_eq_true rfl) dX7_init_52 (fun H locs hP hD hS => ?_)
  obtain ⟨hP, hD⟩ := cv (w' := ([(h0, .inr (5, [.ref q_1, .int 0, .ref q_2, .ref q_3, .ref q_4, .int 0, .int 0, .int 0])), (q_1, hcY k 400 (fun _ => 0)), (q_2, hcI k 401 (fun _ => 0)), (q_3, hcI k 401 (fun _ => 0)), (q_4, hcI k 401 (fun _ => 0))] : va_W)) hP hD rfl
  refine lv_aload_n hx hb dX7_init_55 rfl (lv_at hl 0 rfl) ?_
  refine lv_iconst (v := 0) hx hb dX7_init_56 (by decide) ?_
  refine va_put (D := D) (ci := 5) (v := .int 0) (C := RX7) (T := TX7) (N := 8) hx hb hts in7 tyX7 tyX7_ok nmX7 hown hG.1 hP hD hS 0 rfl rfl 7 (by decide) (hts (.fieldLink RX7 35 "ChairCane$Tape" "fault" "I") (by decide +kernel)) (fun _ h9 => h9) rfl (tyX7_ok 7 (by decide)) rfl rfl (Nat.le_of_ble_eq_true rfl) dX7_init_57 (fun H locs hP hD hS => ?_)
  obtain ⟨hP, hD⟩ := cv (w' := ([(h0, .inr (5, [.ref q_1, .int 0, .ref q_2, .ref q_3, .ref q_4, .int 0, .int 0, .int 0])), (q_1, hcY k 400 (fun _ => 0)), (q_2, hcI k 401 (fun _ => 0)), (q_3, hcI k 401 (fun _ => 0)), (q_4, hcI k 401 (fun _ => 0))] : va_W)) hP hD rfl
  exact hc_endV hx hb hr hlocks (fun i => [q_1, q_2, q_3, q_4].getD i 0) trivial (hP.sub [0, 1, 2, 3, 4] rfl) (hD.sub [0, 1, 2, 3, 4] (by decide +kernel) rfl) hS dX7_init_60
set_option maxHeartbeats 4000000 in
set_option maxRecDepth 100000 in
theorem c_X6_init (l : Launch) (D : va_G) (k : Nat → ClassId) (sz : Nat) (h0 : Nat) : CtV l yX6_init wsX6_init (rmK 2 17 164) [.ref h0] D k sz (([(h0, .inr (4, [.null, .null, .null, .int 0, .int 0]))] : va_W)) (fun _ : Nat → Nat => True) (fun q : Nat → Nat => standZ k h0 q) 17 164 := by
  refine CtV.mk (cc := cX6_init) (maxL := 1) (ret := none) (by decide) rfl (Nat.le_of_ble_eq_true rfl) ?_
  intro p e s m below meth c A ls E hP hD hS hl
  obtain ⟨hx, hb, hr, hml, hown, hts, hlocks, hin, hG, hA⟩ := E
  have hown : s.vm.findClass RX6 = some m.cls := hown
  have in0 : ∀ w ∈ u_ws RX0 TX0 5, w ∈ wsX6_init := fun _ h => List.mem_cons_of_mem _ (List.mem_append_left _ (List.mem_append_right _ h))
  have in2 : ∀ w ∈ u_ws RX2 TX2 4, w ∈ wsX6_init := fun _ h => List.mem_cons_of_mem _ (List.mem_append_right _ h)
  have in3 : ∀ w ∈ u_ws RX3 TX3 17, w ∈ wsX6_init := fun _ h => List.mem_cons_of_mem _ (List.mem_append_left _ (List.mem_append_left _ (List.mem_append_left _ (List.mem_append_right _ h))))
  have in6 : ∀ w ∈ u_ws RX6 TX6 5, w ∈ wsX6_init := fun _ h => List.mem_cons_of_mem _ (List.mem_append_left _ (List.mem_append_left _ (List.mem_append_right _ h)))
  have hl : lv_has ls 1 [(0, .ref h0)] := hl
  refine lv_aload_n hx hb dX6_init_0 rfl (lv_at hl 0 rfl) ?_
  refine W.objInit hx hb hown (hts (.methodLink RX6 3 objectInit) (by decide +kernel)) (hts (.instanceMethod objectInit) (by decide +kernel)) (hts (.code objectInit ⟨#[0xb1]⟩ 1 none) (by decide +kernel)) rfl (by rw [hml]; exact hl.1) rfl dX6_init_1 (Nat.le_of_ble_eq_true rfl) (Nat.le_of_ble_eq_true rfl) ?_
  refine W.eq (g2 := F0 m 4 ls []) rfl ?_
  refine lv_aload_n hx hb dX6_init_4 rfl (lv_at hl 0 rfl) ?_
  refine va_new (ci := 2) (fs := [.int 0, .int 0, .int 0, .int 0, .null, .null, .null, .null, .null, .null, .int 0, .int 0, .int 0, .null, .null, .int 0, .int 0]) (C := RX3) (T := TX3) (N := 17) hx hb hts in3 tyX3 tyX3_ok hown (hts (.classLink RX6 9 RX3) (by decide +kernel)) (hts (.instantiable RX3 17) (by decide +kernel)) (hts (.initialized RX3) (by decide +kernel)) hG.1 hP hD hS hA rfl (fun j hj => match j, hj with | 0, _ => rfl | 1, _ => rfl | 2, _ => rfl | 3, _ => rfl | 4, _ => rfl | 5, _ => rfl | 6, _ => rfl | 7, _ => rfl | 8, _ => rfl | 9, _ => rfl | 10, _ => rfl | 11, _ => rfl | 12, _ => rfl | 13, _ => rfl | 14, _ => rfl | 15, _ => rfl | 16, _ => rfl | n + 17, h => absurd h (by omega)) (Nat.le_of_ble_eq_true rfl) (Nat.le_of_ble_eq_true rfl) dX6_init_5 (fun q_1 H hP hD hS => ?_)
  refine lv_dup hx hb dX6_init_8 rfl ?_
  refine hc_N (As := []) (rest := [.ref q_1, .ref h0]) (n := 0) (host := RX8) hx hb hml hown hts hG hA hP hD hS hl.1 _ _ (c_X3_init l D k _ q_1) gX6_init_X3_init_n11 rfl ⟨rfl, rfl, Nat.le_of_ble_eq_true rfl, Nat.le_of_ble_eq_true rfl⟩ hG.2.2.2.2.2.1 (hts (.initialized RX3) (by decide +kernel)) (hts (.instanceMethod yX3_init) (by decide +kernel)) rfl (by decide +kernel) (q_r _ _) (q_l _ _) (q_nd2 _ _) ⟨rfl, rfl, Nat.le_of_ble_eq_true rfl, Nat.le_of_ble_eq_true rfl, Nat.le_of_ble_eq_true rfl⟩ dX6_init_9 (fun u_2 H locs hw hP hD hS => ?_)
  obtain ⟨hP, hD⟩ := cv (w' := ([(h0, .inr (4, [.null, .null, .null, .int 0, .int 0]))] : va_W) ++ (roomZ k q_1 u_2)) hP hD rfl
  refine va_putF (D := D) (ci := 4) (v := .ref q_1) (C := RX6) (T := TX6) (N := 5) hx hb hts in6 tyX6 tyX6_ok nmX6 hown hG.1 hP hD hS 0 rfl rfl 0 (by decide) (hts (.fieldLink RX6 12 "ChairCane$Standing" "room" "LChairCane$Room;") (by decide +kernel)) (fun _ h9 => h9) rfl hin rfl (tyX6_ok 0 (by decide)) rfl rfl (Nat.le_of_ble_eq_true rfl) dX6_init_12 (fun H locs hP hD hS => ?_)
  obtain ⟨hP, hD⟩ := cv (w' := ([(h0, .inr (4, [.ref q_1, .null, .null, .int 0, .int 0]))] : va_W) ++ (roomZ k q_1 u_2)) hP hD rfl
  refine lv_aload_n hx hb dX6_init_15 rfl (lv_at hl 0 rfl) ?_
  refine va_new (ci := 0) (fs := [.null, .null, .null, .int 0, .int 0]) (C := RX0) (T := TX0) (N := 5) hx hb hts in0 tyX0 tyX0_ok hown (hts (.classLink RX6 18 RX0) (by decide +kernel)) (hts (.instantiable RX0 5) (by decide +kernel)) (hts (.initialized RX0) (by decide +kernel)) hG.1 hP hD hS hA rfl (fun j hj => match j, hj with | 0, _ => rfl | 1, _ => rfl | 2, _ => rfl | 3, _ => rfl | 4, _ => rfl | n + 5, h => absurd h (by omega)) (Nat.le_of_ble_eq_true rfl) (Nat.le_of_ble_eq_true rfl) dX6_init_16 (fun q_4 H hP hD hS => ?_)
  refine lv_dup hx hb dX6_init_19 rfl ?_
  refine hc_N (As := []) (rest := [.ref q_4, .ref h0]) (n := 0) (host := RX8) hx hb hml hown hts hG hA hP hD hS hl.1 _ _ (c_X0_init l D k _ q_4) gX6_init_X0_init_n20 rfl ⟨rfl, rfl, Nat.le_of_ble_eq_true rfl, Nat.le_of_ble_eq_true rfl⟩ hG.2.2.2.2.2.2.1 (hts (.initialized RX0) (by decide +kernel)) (hts (.instanceMethod yX0_init) (by decide +kernel)) rfl (by decide +kernel) (q_r _ _) (q_l _ _) (q_nd2 _ _) ⟨rfl, rfl, Nat.le_of_ble_eq_true rfl, Nat.le_of_ble_eq_true rfl, Nat.le_of_ble_eq_true rfl⟩ dX6_init_20 (fun u_5 H locs hw hP hD hS => ?_)
  obtain ⟨hP, hD⟩ := cv (w' := ([(h0, .inr (4, [.ref q_1, .null, .null, .int 0, .int 0]))] : va_W) ++ (roomZ k q_1 u_2 ++ (actsZ k q_4 u_5))) hP hD rfl
  refine va_putF (D := D) (ci := 4) (v := .ref q_4) (C := RX6) (T := TX6) (N := 5) hx hb hts in6 tyX6 tyX6_ok nmX6 hown hG.1 hP hD hS 0 rfl rfl 1 (by decide) (hts (.fieldLink RX6 21 "ChairCane$Standing" "acts" "LChairCane$Acts;") (by decide +kernel)) (fun _ h9 => h9) rfl hin rfl (tyX6_ok 1 (by decide)) rfl rfl (Nat.le_of_ble_eq_true rfl) dX6_init_23 (fun H locs hP hD hS => ?_)
  obtain ⟨hP, hD⟩ := cv (w' := ([(h0, .inr (4, [.ref q_1, .ref q_4, .null, .int 0, .int 0]))] : va_W) ++ (roomZ k q_1 u_2 ++ (actsZ k q_4 u_5))) hP hD rfl
  refine lv_aload_n hx hb dX6_init_26 rfl (lv_at hl 0 rfl) ?_
  refine va_new (ci := 1) (fs := [.null, .null, .null, .int 0]) (C := RX2) (T := TX2) (N := 4) hx hb hts in2 tyX2 tyX2_ok hown (hts (.classLink RX6 25 RX2) (by decide +kernel)) (hts (.instantiable RX2 4) (by decide +kernel)) (hts (.initialized RX2) (by decide +kernel)) hG.1 hP hD hS hA rfl (fun j hj => match j, hj with | 0, _ => rfl | 1, _ => rfl | 2, _ => rfl | 3, _ => rfl | n + 4, h => absurd h (by omega)) (Nat.le_of_ble_eq_true rfl) (Nat.le_of_ble_eq_true rfl) dX6_init_27 (fun q_7 H hP hD hS => ?_)
  refine lv_dup hx hb dX6_init_30 rfl ?_
  refine hc_N (As := []) (rest := [.ref q_7, .ref h0]) (n := 0) (host := RX8) hx hb hml hown hts hG hA hP hD hS hl.1 _ _ (c_X2_init l D k _ q_7) gX6_init_X2_init_n27 rfl ⟨rfl, rfl, Nat.le_of_ble_eq_true rfl, Nat.le_of_ble_eq_true rfl⟩ hG.2.2.2.2.2.2.2.1 (hts (.initialized RX2) (by decide +kernel)) (hts (.instanceMethod yX2_init) (by decide +kernel)) rfl (by decide +kernel) (q_r _ _) (q_l _ _) (q_nd2 _ _) ⟨rfl, rfl, Nat.le_of_ble_eq_true rfl, Nat.le_of_ble_eq_true rfl, Nat.le_of_ble_eq_true rfl⟩ dX6_init_31 (fun u_8 H locs hw hP hD hS => ?_)
  obtain ⟨hP, hD⟩ := cv (w' := ([(h0, .inr (4, [.ref q_1, .ref q_4, .null, .int 0, .int 0]))] : va_W) ++ (roomZ k q_1 u_2 ++ (actsZ k q_4 u_5 ++ (notesZ k q_7 u_8)))) hP hD rfl
  refine va_putF (D := D) (ci := 4) (v := .ref q_7) (C := RX6) (T := TX6) (N := 5) hx hb hts in6 tyX6 tyX6_ok nmX6 hown hG.1 hP hD hS 0 rfl rfl 2 (by decide) (hts (.fieldLink RX6 28 "ChairCane$Standing" "notes" "LChairCane$Notes;") (by decide +kernel)) (fun _ h9 => h9) rfl hin rfl (tyX6_ok 2 (by decide)) rfl rfl (Nat.le_of_ble_eq_true rfl) dX6_init_34 (fun H locs hP hD hS => ?_)
  obtain ⟨hP, hD⟩ := cv (w' := ([(h0, .inr (4, [.ref q_1, .ref q_4, .ref q_7, .int 0, .int 0]))] : va_W) ++ (roomZ k q_1 u_2 ++ (actsZ k q_4 u_5 ++ (notesZ k q_7 u_8)))) hP hD rfl
  refine lv_aload_n hx hb dX6_init_37 rfl (lv_at hl 0 rfl) ?_
  refine lv_iconst (v := (-1)) hx hb dX6_init_38 (by decide) ?_
  refine va_put (D := D) (ci := 4) (v := .int (-1)) (C := RX6) (T := TX6) (N := 5) hx hb hts in6 tyX6 tyX6_ok nmX6 hown hG.1 hP hD hS 0 rfl rfl 3 (by decide) (hts (.fieldLink RX6 32 "ChairCane$Standing" "inForce" "I") (by decide +kernel)) (fun _ h9 => h9) rfl (tyX6_ok 3 (by decide)) rfl rfl (Nat.le_of_ble_eq_true rfl) dX6_init_39 (fun H locs hP hD hS => ?_)
  obtain ⟨hP, hD⟩ := cv (w' := ([(h0, .inr (4, [.ref q_1, .ref q_4, .ref q_7, .int (-1), .int 0]))] : va_W) ++ (roomZ k q_1 u_2 ++ (actsZ k q_4 u_5 ++ (notesZ k q_7 u_8)))) hP hD rfl
  refine lv_aload_n hx hb dX6_init_42 rfl (lv_at hl 0 rfl) ?_
  refine lv_iconst (v := 0) hx hb dX6_init_43 (by decide) ?_
  refine va_put (D := D) (ci := 4) (v := .int 0) (C := RX6) (T := TX6) (N := 5) hx hb hts in6 tyX6 tyX6_ok nmX6 hown hG.1 hP hD hS 0 rfl rfl 4 (by decide) (hts (.fieldLink RX6 36 "ChairCane$Standing" "x" "I") (by decide +kernel)) (fun _ h9 => h9) rfl (tyX6_ok 4 (by decide)) rfl rfl (Nat.le_of_ble_eq_true rfl) dX6_init_44 (fun H locs hP hD hS => ?_)
  obtain ⟨hP, hD⟩ := cv (w' := ([(h0, .inr (4, [.ref q_1, .ref q_4, .ref q_7, .int (-1), .int 0]))] : va_W) ++ (roomZ k q_1 u_2 ++ (actsZ k q_4 u_5 ++ (notesZ k q_7 u_8)))) hP hD rfl
  exact hc_endV hx hb hr hlocks (fun i => [q_1, q_4, q_7, (u_2 0), (u_2 1), (u_2 2), (u_2 3), (u_2 4), (u_2 5), (u_2 6), (u_2 7), (u_5 0), (u_5 1), (u_5 2), (u_8 0), (u_8 1), (u_8 2)].getD i 0) trivial (hP.sub [0, 1, 2, 3, 4, 5, 6, 7, 8, 9, 10, 11, 12, 13, 14, 15, 16, 17] rfl) (hD.sub [0, 1, 2, 3, 4, 5, 6, 7, 8, 9, 10, 11, 12, 13, 14, 15, 16, 17] (by decide +kernel) rfl) hS dX6_init_47
end
section
/-! the class, whole -/
abbrev XZ : Type := (Nat → Int32) × (Nat → Nat → Int32) × RZ × IZ
noncomputable def CW (k : Nat → ClassId) (a ra ia : Nat → Nat) (rr ii : Nat → Option Nat) (z : XZ) : va_W := ([((a 0), .inr (6, [.ref (a 1), .ref (a 2), .int (z.1 0), .ref (a 3), .ref (a 4), .ref (a 5), .ref (a 6), .ref (a 7), .ref (a 8), .ref (a 9), .ref (a 10), .ref (a 11)])), ((a 1), .inr (5, [.ref (a 12), .int (z.1 1), .ref (a 13), .ref (a 14), .ref (a 15), .int (z.1 2), .int (z.1 3), .int (z.1 4)])), ((a 12), hcY k 400 (z.2.1 0)), ((a 13), hcI k 401 (z.2.1 1)), ((a 14), hcI k 401 (z.2.1 2)), ((a 15), hcI k 401 (z.2.1 3)), ((a 2), hcR k 6 rr), ((a 3), .inr (4, [.ref (a 16), .ref (a 17), .ref (a 18), .int (z.1 5), .int (z.1 6)])), ((a 16), .inr (2, [.int (z.1 7), .int (z.1 8), .int (z.1 9), .int (z.1 10), .ref (a 19), .ref (a 20), .ref (a 21), .ref (a 22), .ref (a 23), .ref (a 24), .int (z.1 11), .int (z.1 12), .int (z.1 13), .ref (a 25), .ref (a 26), .int (z.1 14), .int (z.1 15)])), ((a 19), hcI k 4 (z.2.1 4)), ((a 20), hcI k 8 (z.2.1 5)), ((a 21), hcI k 8 (z.2.1 6)), ((a 22), hcI k 8 (z.2.1 7)), ((a 23), hcI k 8 (z.2.1 8)), ((a 24), hcI k 4 (z.2.1 9)), ((a 25), hcI k 4 (z.2.1 10)), ((a 26), hcI k 4 (z.2.1 11)), ((a 17), .inr (0, [.ref (a 27), .ref (a 28), .ref (a 29), .int (z.1 16), .int (z.1 17)])), ((a 27), hcI k 20 (z.2.1 12)), ((a 28), hcI k 20 (z.2.1 13)), ((a 29), hcI k 20 (z.2.1 14)), ((a 18), .inr (1, [.ref (a 30), .ref (a 31), .ref (a 32), .int (z.1 18)])), ((a 30), hcI k 10 (z.2.1 15)), ((a 31), hcI k 10 (z.2.1 16)), ((a 32), hcI k 10 (z.2.1 17)), ((a 4), hcS k 4 ii), ((a 5), hcZ k 4 (z.2.1 18)), ((a 6), .inr (2, [.int (z.1 19), .int (z.1 20), .int (z.1 21), .int (z.1 22), .ref (a 33), .ref (a 34), .ref (a 35), .ref (a 36), .ref (a 37), .ref (a 38), .int (z.1 23), .int (z.1 24), .int (z.1 25), .ref (a 39), .ref (a 40), .int (z.1 26), .int (z.1 27)])), ((a 33), hcI k 4 (z.2.1 19)), ((a 34), hcI k 8 (z.2.1 20)), ((a 35), hcI k 8 (z.2.1 21)), ((a 36), hcI k 8 (z.2.1 22)), ((a 37), hcI k 8 (z.2.1 23)), ((a 38), hcI k 4 (z.2.1 24)), ((a 39), hcI k 4 (z.2.1 25)), ((a 40), hcI k 4 (z.2.1 26)), ((a 7), hcZ k 256 (z.2.1 27)), ((a 8), hcI k 4 (z.2.1 28)), ((a 9), hcI k 4 (z.2.1 29)), ((a 10), hcI k 61 (z.2.1 30)), ((a 11), hcI k 24 (z.2.1 31))] : va_W) ++ (RU_i k ra z.2.2.1 ++ (IM k ia z.2.2.2))
noncomputable def RQ (ra ia : Nat → Nat) (rr ii : Nat → Option Nat) : Prop := (∀ i, i < 6 → rr i = some (ra (6 * i))) ∧ ∀ i, i < 4 → ii i = some (ia (18 * i))
end
section
/-! the class's constructor -/
theorem dX8_init_0 : decode cX8_init 0 = .ok (.aload_n 0, 1) := of_0 ok_aload_n_0 (by decide +kernel)
theorem dX8_init_1 : decode cX8_init 1 = .ok (.invokespecial 1, 3) := of_u2 ok_invokespecial 0 1 (by decide +kernel)
theorem dX8_init_4 : decode cX8_init 4 = .ok (.aload_n 0, 1) := of_0 ok_aload_n_0 (by decide +kernel)
theorem dX8_init_5 : decode cX8_init 5 = .ok (.new 7, 3) := of_u2 ok_new 0 7 (by decide +kernel)
theorem dX8_init_8 : decode cX8_init 8 = .ok (.dup, 1) := of_0 ok_dup (by decide +kernel)
theorem dX8_init_9 : decode cX8_init 9 = .ok (.invokespecial 9, 3) := of_u2 ok_invokespecial 0 9 (by decide +kernel)
theorem dX8_init_12 : decode cX8_init 12 = .ok (.putfield 10, 3) := of_u2 ok_putfield 0 10 (by decide +kernel)
theorem dX8_init_15 : decode cX8_init 15 = .ok (.aload_n 0, 1) := of_0 ok_aload_n_0 (by decide +kernel)
theorem dX8_init_16 : decode cX8_init 16 = .ok (.bipush 6, 2) := of_s1 ok_bipush 6 (by decide +kernel)
theorem dX8_init_18 : decode cX8_init 18 = .ok (.anewarray 16, 3) := of_u2 ok_anewarray 0 16 (by decide +kernel)
theorem dX8_init_21 : decode cX8_init 21 = .ok (.putfield 18, 3) := of_u2 ok_putfield 0 18 (by decide +kernel)
theorem dX8_init_24 : decode cX8_init 24 = .ok (.aload_n 0, 1) := of_0 ok_aload_n_0 (by decide +kernel)
theorem dX8_init_25 : decode cX8_init 25 = .ok (.iconst 0, 1) := of_0 ok_iconst_0 (by decide +kernel)
theorem dX8_init_26 : decode cX8_init 26 = .ok (.putfield 22, 3) := of_u2 ok_putfield 0 22 (by decide +kernel)
theorem dX8_init_29 : decode cX8_init 29 = .ok (.aload_n 0, 1) := of_0 ok_aload_n_0 (by decide +kernel)
theorem dX8_init_30 : decode cX8_init 30 = .ok (.new 26, 3) := of_u2 ok_new 0 26 (by decide +kernel)
theorem dX8_init_33 : decode cX8_init 33 = .ok (.dup, 1) := of_0 ok_dup (by decide +kernel)
theorem dX8_init_34 : decode cX8_init 34 = .ok (.invokespecial 28, 3) := of_u2 ok_invokespecial 0 28 (by decide +kernel)
theorem dX8_init_37 : decode cX8_init 37 = .ok (.putfield 29, 3) := of_u2 ok_putfield 0 29 (by decide +kernel)
theorem dX8_init_40 : decode cX8_init 40 = .ok (.aload_n 0, 1) := of_0 ok_aload_n_0 (by decide +kernel)
theorem dX8_init_41 : decode cX8_init 41 = .ok (.iconst 4, 1) := of_0 ok_iconst_4 (by decide +kernel)
theorem dX8_init_42 : decode cX8_init 42 = .ok (.anewarray 26, 3) := of_u2 ok_anewarray 0 26 (by decide +kernel)
theorem dX8_init_45 : decode cX8_init 45 = .ok (.putfield 33, 3) := of_u2 ok_putfield 0 33 (by decide +kernel)
theorem dX8_init_48 : decode cX8_init 48 = .ok (.aload_n 0, 1) := of_0 ok_aload_n_0 (by decide +kernel)
theorem dX8_init_49 : decode cX8_init 49 = .ok (.iconst 4, 1) := of_0 ok_iconst_4 (by decide +kernel)
theorem dX8_init_50 : decode cX8_init 50 = .ok (.newarray .boolean, 2) := by decide +kernel
theorem dX8_init_52 : decode cX8_init 52 = .ok (.putfield 37, 3) := of_u2 ok_putfield 0 37 (by decide +kernel)
theorem dX8_init_55 : decode cX8_init 55 = .ok (.aload_n 0, 1) := of_0 ok_aload_n_0 (by decide +kernel)
theorem dX8_init_56 : decode cX8_init 56 = .ok (.new 41, 3) := of_u2 ok_new 0 41 (by decide +kernel)
theorem dX8_init_59 : decode cX8_init 59 = .ok (.dup, 1) := of_0 ok_dup (by decide +kernel)
theorem dX8_init_60 : decode cX8_init 60 = .ok (.invokespecial 43, 3) := of_u2 ok_invokespecial 0 43 (by decide +kernel)
theorem dX8_init_63 : decode cX8_init 63 = .ok (.putfield 44, 3) := of_u2 ok_putfield 0 44 (by decide +kernel)
theorem dX8_init_66 : decode cX8_init 66 = .ok (.aload_n 0, 1) := of_0 ok_aload_n_0 (by decide +kernel)
theorem dX8_init_67 : decode cX8_init 67 = .ok (.sipush 256, 3) := of_s2 ok_sipush 1 0 (by decide +kernel)
theorem dX8_init_70 : decode cX8_init 70 = .ok (.newarray .boolean, 2) := by decide +kernel
theorem dX8_init_72 : decode cX8_init 72 = .ok (.putfield 48, 3) := of_u2 ok_putfield 0 48 (by decide +kernel)
theorem dX8_init_75 : decode cX8_init 75 = .ok (.aload_n 0, 1) := of_0 ok_aload_n_0 (by decide +kernel)
theorem dX8_init_76 : decode cX8_init 76 = .ok (.iconst 4, 1) := of_0 ok_iconst_4 (by decide +kernel)
theorem dX8_init_77 : decode cX8_init 77 = .ok (.newarray .int, 2) := by decide +kernel
theorem dX8_init_79 : decode cX8_init 79 = .ok (.putfield 51, 3) := of_u2 ok_putfield 0 51 (by decide +kernel)
theorem dX8_init_82 : decode cX8_init 82 = .ok (.aload_n 0, 1) := of_0 ok_aload_n_0 (by decide +kernel)
theorem dX8_init_83 : decode cX8_init 83 = .ok (.iconst 4, 1) := of_0 ok_iconst_4 (by decide +kernel)
theorem dX8_init_84 : decode cX8_init 84 = .ok (.newarray .int, 2) := by decide +kernel
theorem dX8_init_86 : decode cX8_init 86 = .ok (.putfield 55, 3) := of_u2 ok_putfield 0 55 (by decide +kernel)
theorem dX8_init_89 : decode cX8_init 89 = .ok (.aload_n 0, 1) := of_0 ok_aload_n_0 (by decide +kernel)
theorem dX8_init_90 : decode cX8_init 90 = .ok (.bipush 61, 2) := of_s1 ok_bipush 61 (by decide +kernel)
theorem dX8_init_92 : decode cX8_init 92 = .ok (.newarray .int, 2) := by decide +kernel
theorem dX8_init_94 : decode cX8_init 94 = .ok (.putfield 58, 3) := of_u2 ok_putfield 0 58 (by decide +kernel)
theorem dX8_init_97 : decode cX8_init 97 = .ok (.aload_n 0, 1) := of_0 ok_aload_n_0 (by decide +kernel)
theorem dX8_init_98 : decode cX8_init 98 = .ok (.bipush 24, 2) := of_s1 ok_bipush 24 (by decide +kernel)
theorem dX8_init_100 : decode cX8_init 100 = .ok (.newarray .int, 2) := by decide +kernel
theorem dX8_init_102 : decode cX8_init 102 = .ok (.putfield 61, 3) := of_u2 ok_putfield 0 61 (by decide +kernel)
theorem dX8_init_105 : decode cX8_init 105 = .ok (.iconst 0, 1) := of_0 ok_iconst_0 (by decide +kernel)
theorem dX8_init_106 : decode cX8_init 106 = .ok (.istore_n 1, 1) := of_0 ok_istore_n_1 (by decide +kernel)
theorem dX8_init_107 : decode cX8_init 107 = .ok (.iload_n 1, 1) := of_0 ok_iload_n_1 (by decide +kernel)
theorem dX8_init_108 : decode cX8_init 108 = .ok (.bipush 6, 2) := of_s1 ok_bipush 6 (by decide +kernel)
theorem dX8_init_110 : decode cX8_init 110 = .ok (.if_icmp .ge 22, 3) := of_s2 ok_if_icmp_ge 0 22 (by decide +kernel)
theorem dX8_init_113 : decode cX8_init 113 = .ok (.aload_n 0, 1) := of_0 ok_aload_n_0 (by decide +kernel)
theorem dX8_init_114 : decode cX8_init 114 = .ok (.getfield 18, 3) := of_u2 ok_getfield 0 18 (by decide +kernel)
theorem dX8_init_117 : decode cX8_init 117 = .ok (.iload_n 1, 1) := of_0 ok_iload_n_1 (by decide +kernel)
theorem dX8_init_118 : decode cX8_init 118 = .ok (.new 16, 3) := of_u2 ok_new 0 16 (by decide +kernel)
theorem dX8_init_121 : decode cX8_init 121 = .ok (.dup, 1) := of_0 ok_dup (by decide +kernel)
theorem dX8_init_122 : decode cX8_init 122 = .ok (.invokespecial 64, 3) := of_u2 ok_invokespecial 0 64 (by decide +kernel)
theorem dX8_init_125 : decode cX8_init 125 = .ok (.aastore, 1) := of_0 ok_aastore (by decide +kernel)
theorem dX8_init_126 : decode cX8_init 126 = .ok (.iinc 1 1, 3) := of_ii ok_iinc 1 (by decide +kernel)
theorem dX8_init_129 : decode cX8_init 129 = .ok (.goto (-22), 3) := of_s2 ok_goto 255 234 (by decide +kernel)
theorem dX8_init_132 : decode cX8_init 132 = .ok (.iconst 0, 1) := of_0 ok_iconst_0 (by decide +kernel)
theorem dX8_init_133 : decode cX8_init 133 = .ok (.istore_n 1, 1) := of_0 ok_istore_n_1 (by decide +kernel)
theorem dX8_init_134 : decode cX8_init 134 = .ok (.iload_n 1, 1) := of_0 ok_iload_n_1 (by decide +kernel)
theorem dX8_init_135 : decode cX8_init 135 = .ok (.iconst 4, 1) := of_0 ok_iconst_4 (by decide +kernel)
theorem dX8_init_136 : decode cX8_init 136 = .ok (.if_icmp .ge 22, 3) := of_s2 ok_if_icmp_ge 0 22 (by decide +kernel)
theorem dX8_init_139 : decode cX8_init 139 = .ok (.aload_n 0, 1) := of_0 ok_aload_n_0 (by decide +kernel)
theorem dX8_init_140 : decode cX8_init 140 = .ok (.getfield 33, 3) := of_u2 ok_getfield 0 33 (by decide +kernel)
theorem dX8_init_143 : decode cX8_init 143 = .ok (.iload_n 1, 1) := of_0 ok_iload_n_1 (by decide +kernel)
theorem dX8_init_144 : decode cX8_init 144 = .ok (.new 26, 3) := of_u2 ok_new 0 26 (by decide +kernel)
theorem dX8_init_147 : decode cX8_init 147 = .ok (.dup, 1) := of_0 ok_dup (by decide +kernel)
theorem dX8_init_148 : decode cX8_init 148 = .ok (.invokespecial 28, 3) := of_u2 ok_invokespecial 0 28 (by decide +kernel)
theorem dX8_init_151 : decode cX8_init 151 = .ok (.aastore, 1) := of_0 ok_aastore (by decide +kernel)
theorem dX8_init_152 : decode cX8_init 152 = .ok (.iinc 1 1, 3) := of_ii ok_iinc 1 (by decide +kernel)
theorem dX8_init_155 : decode cX8_init 155 = .ok (.goto (-21), 3) := of_s2 ok_goto 255 235 (by decide +kernel)
theorem dX8_init_158 : decode cX8_init 158 = .ok (.return_, 1) := of_0 ok_return_ (by decide +kernel)
set_option maxRecDepth 20000 in
theorem ggX8_init_X3_init : GoodIn wsX8_init wsX3_init := good_rp ([58, 59, 2, 3, 60, 61, 62, 63, 23, 64, 65, 66, 67, 68, 69, 70, 71, 72, 73, 74, 75, 76, 129, 130, 131, 132, 133, 134, 135, 136, 137, 138, 139, 140, 141, 142, 143, 144, 145] : List Nat) rfl (by decide +kernel)
set_option maxRecDepth 20000 in
theorem gX8_init_X3_init_n43 : GoodIn wsX8_init (wsX3_init) := ggX8_init_X3_init
set_option maxRecDepth 20000 in
theorem ggX8_init_X4_init : GoodIn wsX8_init wsX4_init := good_rp ([93, 94, 2, 3, 23, 95, 96, 97, 98, 99, 100, 101, 102, 103, 146, 147, 148, 149, 150, 151, 152, 153] : List Nat) rfl (by decide +kernel)
set_option maxRecDepth 20000 in
theorem gX8_init_X4_init_n64 : GoodIn wsX8_init (wsX4_init) := ggX8_init_X4_init
set_option maxRecDepth 20000 in
theorem ggX8_init_X6_init : GoodIn wsX8_init wsX6_init := good_rp ([43, 44, 2, 3, 45, 19, 20, 46, 47, 48, 49, 50, 51, 52, 53, 54, 55, 56, 57, 58, 59, 60, 61, 62, 63, 23, 64, 65, 66, 67, 68, 69, 70, 71, 72, 73, 74, 75, 76, 77, 78, 79, 80, 81, 82, 83, 84, 85, 86, 87, 88, 89, 90, 91, 129, 130, 131, 132, 133, 134, 135, 136, 137, 138, 139, 140, 141, 142, 143, 144, 145, 124, 125, 126, 127, 128, 154, 155, 156, 157, 158, 159, 160, 161, 162] : List Nat) rfl (by decide +kernel)
set_option maxRecDepth 20000 in
theorem gX8_init_X6_init_n28 : GoodIn wsX8_init (wsX6_init) := ggX8_init_X6_init
set_option maxRecDepth 20000 in
theorem ggX8_init_X7_init : GoodIn wsX8_init wsX7_init := good_rp ([31, 32, 2, 3, 33, 34, 35, 23, 36, 37, 38, 39, 40, 41, 104, 105, 106, 107, 108, 109, 110, 111] : List Nat) rfl (by decide +kernel)
set_option maxRecDepth 20000 in
theorem gX8_init_X7_init_n9 : GoodIn wsX8_init (wsX7_init) := ggX8_init_X7_init
noncomputable def z0 : XZ := (fun j => [0, 0, 0, 0, 0, -1, 0, 0, 0, 0, 0, 0, 0, 0, 0, 0, 0, 0, 0, 0, 0, 0, 0, 0, 0, 0, 0, 0].getD j 0, fun _ _ => 0, (fun _ => 0, fun _ _ => 0, fun _ _ => 0), fun _ => (fun j => [-1].getD j 0, fun _ _ => 0))
set_option maxHeartbeats 4000000 in
set_option maxRecDepth 100000 in
theorem c_X8_init (l : Launch) (D : va_G) (k : Nat → ClassId) (sz : Nat) (h0 : Nat) : CtV l yX8_init wsX8_init (rmK 3 148 5908) [.ref h0] D k sz (([(h0, .inr (6, [.null, .null, .int 0, .null, .null, .null, .null, .null, .null, .null, .null, .null]))] : va_W)) (fun u : (Nat → Nat) × (Nat → Nat) × (Nat → Nat) × (Nat → Option Nat) × (Nat → Option Nat) => u.1 0 = h0 ∧ RQ u.2.1 u.2.2.1 u.2.2.2.1 u.2.2.2.2) (fun u : (Nat → Nat) × (Nat → Nat) × (Nat → Nat) × (Nat → Option Nat) × (Nat → Option Nat) => CW k u.1 u.2.1 u.2.2.1 u.2.2.2.1 u.2.2.2.2 z0) 148 5908 := by
  refine CtV.mk (cc := cX8_init) (maxL := 2) (ret := none) (by decide) rfl (Nat.le_of_ble_eq_true rfl) ?_
  intro p e s m below meth c A ls E hP hD hS hl
  obtain ⟨hx, hb, hr, hml, hown, hts, hlocks, hin, hG, hA⟩ := E
  have hown : s.vm.findClass RX8 = some m.cls := hown
  have in0 : ∀ w ∈ u_ws RX0 TX0 5, w ∈ wsX8_init := fun _ h => List.mem_cons_of_mem _ (List.mem_append_left _ (List.mem_append_right _ h))
  have in2 : ∀ w ∈ u_ws RX2 TX2 4, w ∈ wsX8_init := fun _ h => List.mem_cons_of_mem _ (List.mem_append_right _ h)
  have in3 : ∀ w ∈ u_ws RX3 TX3 17, w ∈ wsX8_init := fun _ h => List.mem_cons_of_mem _ (List.mem_append_left _ (List.mem_append_left _ (List.mem_append_left _ (List.mem_append_right _ h))))
  have in4 : ∀ w ∈ u_ws RX4 TX4 8, w ∈ wsX8_init := fun _ h => List.mem_cons_of_mem _ (List.mem_append_left _ (List.mem_append_left _ (List.mem_append_right _ h)))
  have in6 : ∀ w ∈ u_ws RX6 TX6 5, w ∈ wsX8_init := fun _ h => List.mem_cons_of_mem _ (List.mem_append_left _ (List.mem_append_left _ (List.mem_append_left _ (List.mem_append_left _ (List.mem_append_right _ h)))))
  have in7 : ∀ w ∈ u_ws RX7 TX7 8, w ∈ wsX8_init := fun _ h => List.mem_cons_of_mem _ (List.mem_append_left _ (List.mem_append_left _ (List.mem_append_left _ (List.mem_append_left _ (List.mem_append_left _ (List.mem_append_left _ (List.mem_append_right _ h)))))))
  have in8 : ∀ w ∈ u_ws RX8 TX8 12, w ∈ wsX8_init := fun _ h => List.mem_cons_of_mem _ (List.mem_append_left _ (List.mem_append_left _ (List.mem_append_left _ (List.mem_append_left _ (List.mem_append_left _ (List.mem_append_right _ h))))))
  have hl : lv_has ls 2 [(0, .ref h0)] := hl
  refine lv_aload_n hx hb dX8_init_0 rfl (lv_at hl 0 rfl) ?_
  refine W.objInit hx hb hown (hts (.methodLink RX8 1 objectInit) (by decide +kernel)) (hts (.instanceMethod objectInit) (by decide +kernel)) (hts (.code objectInit ⟨#[0xb1]⟩ 1 none) (by decide +kernel)) rfl (by rw [hml]; exact hl.1) rfl dX8_init_1 (Nat.le_of_ble_eq_true rfl) (Nat.le_of_ble_eq_true rfl) ?_
  refine W.eq (g2 := F0 m 4 ls []) rfl ?_
  refine lv_aload_n hx hb dX8_init_4 rfl (lv_at hl 0 rfl) ?_
  refine va_new (ci := 5) (fs := [.null, .int 0, .null, .null, .null, .int 0, .int 0, .int 0]) (C := RX7) (T := TX7) (N := 8) hx hb hts in7 tyX7 tyX7_ok hown (hts (.classLink RX8 7 RX7) (by decide +kernel)) (hts (.instantiable RX7 8) (by decide +kernel)) (hts (.initialized RX7) (by decide +kernel)) hG.1 hP hD hS hA rfl (fun j hj => match j, hj with | 0, _ => rfl | 1, _ => rfl | 2, _ => rfl | 3, _ => rfl | 4, _ => rfl | 5, _ => rfl | 6, _ => rfl | 7, _ => rfl | n + 8, h => absurd h (by omega)) (Nat.le_of_ble_eq_true rfl) (Nat.le_of_ble_eq_true rfl) dX8_init_5 (fun q_1 H hP hD hS => ?_)
  refine lv_dup hx hb dX8_init_8 rfl ?_
  refine hc_N (As := []) (rest := [.ref q_1, .ref h0]) (n := 0) (host := RX8) hx hb hml hown hts hG hA hP hD hS hl.1 _ _ (c_X7_init l D k _ q_1) gX8_init_X7_init_n9 rfl ⟨rfl, rfl, Nat.le_of_ble_eq_true rfl, Nat.le_of_ble_eq_true rfl⟩ hG.2.2.2.1 (hts (.initialized RX7) (by decide +kernel)) (hts (.instanceMethod yX7_init) (by decide +kernel)) rfl (by decide +kernel) (q_r _ _) (q_l _ _) (q_nd2 _ _) ⟨rfl, rfl, Nat.le_of_ble_eq_true rfl, Nat.le_of_ble_eq_true rfl, Nat.le_of_ble_eq_true rfl⟩ dX8_init_9 (fun u_2 H locs hw hP hD hS => ?_)
  obtain ⟨hP, hD⟩ := cv (w' := ([(h0, .inr (6, [.null, .null, .int 0, .null, .null, .null, .null, .null, .null, .null, .null, .null]))] : va_W) ++ (tapeZ k q_1 u_2)) hP hD rfl
  refine va_putF (D := D) (ci := 6) (v := .ref q_1) (C := RX8) (T := TX8) (N := 12) hx hb hts in8 tyX8 tyX8_ok nmX8 hown hG.1 hP hD hS 0 rfl rfl 0 (by decide) (hts (.fieldLink RX8 10 "ChairCane" "tape" "LChairCane$Tape;") (by decide +kernel)) (fun _ h9 => h9) rfl hin rfl (tyX8_ok 0 (by decide)) rfl rfl (Nat.le_of_ble_eq_true rfl) dX8_init_12 (fun H locs hP hD hS => ?_)
  obtain ⟨hP, hD⟩ := cv (w' := ([(h0, .inr (6, [.ref q_1, .null, .int 0, .null, .null, .null, .null, .null, .null, .null, .null, .null]))] : va_W) ++ (tapeZ k q_1 u_2)) hP hD rfl
  refine lv_aload_n hx hb dX8_init_15 rfl (lv_at hl 0 rfl) ?_
  refine lv_bipush (v := 6) hx hb dX8_init_16 (by decide) ?_
  refine va_newq hx hb hown (hts (.classLink RX8 16 RX4) (by decide +kernel)) hG.2.1 hG.1 hP hD hS hA (N' := 6) (by decide) (by decide) (by decide) (Nat.le_of_ble_eq_true rfl) (Nat.le_of_ble_eq_true rfl) dX8_init_18 (fun q_4 cA H hK hP hD hS => ?_)
  have eA := hc_oneR hK
  subst eA
  obtain ⟨hP, hD⟩ := cv (w' := ([(h0, .inr (6, [.ref q_1, .null, .int 0, .null, .null, .null, .null, .null, .null, .null, .null, .null]))] : va_W) ++ (tapeZ k q_1 u_2 ++ (([(q_4, hcR k 6 (fun _ => none))] : va_W)))) hP hD rfl
  refine va_putF (D := D) (ci := 6) (v := .ref q_4) (C := RX8) (T := TX8) (N := 12) hx hb hts in8 tyX8 tyX8_ok nmX8 hown hG.1 hP hD hS 0 rfl rfl 1 (by decide) (hts (.fieldLink RX8 18 "ChairCane" "rules" "[LChairCane$Rule;") (by decide +kernel)) (fun _ h9 => h9) rfl hin rfl (tyX8_ok 1 (by decide)) rfl rfl (Nat.le_of_ble_eq_true rfl) dX8_init_21 (fun H locs hP hD hS => ?_)
  obtain ⟨hP, hD⟩ := cv (w' := ([(h0, .inr (6, [.ref q_1, .ref q_4, .int 0, .null, .null, .null, .null, .null, .null, .null, .null, .null]))] : va_W) ++ (tapeZ k q_1 u_2 ++ (([(q_4, hcR k 6 (fun _ => none))] : va_W)))) hP hD rfl
  refine lv_aload_n hx hb dX8_init_24 rfl (lv_at hl 0 rfl) ?_
  refine lv_iconst (v := 0) hx hb dX8_init_25 (by decide) ?_
  refine va_put (D := D) (ci := 6) (v := .int 0) (C := RX8) (T := TX8) (N := 12) hx hb hts in8 tyX8 tyX8_ok nmX8 hown hG.1 hP hD hS 0 rfl rfl 2 (by decide) (hts (.fieldLink RX8 22 "ChairCane" "ruleCount" "I") (by decide +kernel)) (fun _ h9 => h9) rfl (tyX8_ok 2 (by decide)) rfl rfl (Nat.le_of_ble_eq_true rfl) dX8_init_26 (fun H locs hP hD hS => ?_)
  obtain ⟨hP, hD⟩ := cv (w' := ([(h0, .inr (6, [.ref q_1, .ref q_4, .int 0, .null, .null, .null, .null, .null, .null, .null, .null, .null]))] : va_W) ++ (tapeZ k q_1 u_2 ++ (([(q_4, hcR k 6 (fun _ => none))] : va_W)))) hP hD rfl
  refine lv_aload_n hx hb dX8_init_29 rfl (lv_at hl 0 rfl) ?_
  refine va_new (ci := 4) (fs := [.null, .null, .null, .int 0, .int 0]) (C := RX6) (T := TX6) (N := 5) hx hb hts in6 tyX6 tyX6_ok hown (hts (.classLink RX8 26 RX6) (by decide +kernel)) (hts (.instantiable RX6 5) (by decide +kernel)) (hts (.initialized RX6) (by decide +kernel)) hG.1 hP hD hS hA rfl (fun j hj => match j, hj with | 0, _ => rfl | 1, _ => rfl | 2, _ => rfl | 3, _ => rfl | 4, _ => rfl | n + 5, h => absurd h (by omega)) (Nat.le_of_ble_eq_true rfl) (Nat.le_of_ble_eq_true rfl) dX8_init_30 (fun q_5 H hP hD hS => ?_)
  refine lv_dup hx hb dX8_init_33 rfl ?_
  refine hc_N (As := []) (rest := [.ref q_5, .ref h0]) (n := 0) (host := RX8) hx hb hml hown hts hG hA hP hD hS hl.1 _ _ (c_X6_init l D k _ q_5) gX8_init_X6_init_n28 rfl ⟨rfl, rfl, Nat.le_of_ble_eq_true rfl, Nat.le_of_ble_eq_true rfl⟩ hG.2.2.2.2.1 (hts (.initialized RX6) (by decide +kernel)) (hts (.instanceMethod yX6_init) (by decide +kernel)) rfl (by decide +kernel) (q_r _ _) (q_l _ _) (q_nd2 _ _) ⟨rfl, rfl, Nat.le_of_ble_eq_true rfl, Nat.le_of_ble_eq_true rfl, Nat.le_of_ble_eq_true rfl⟩ dX8_init_34 (fun u_6 H locs hw hP hD hS => ?_)
  obtain ⟨hP, hD⟩ := cv (w' := ([(h0, .inr (6, [.ref q_1, .ref q_4, .int 0, .null, .null, .null, .null, .null, .null, .null, .null, .null]))] : va_W) ++ (tapeZ k q_1 u_2 ++ (([(q_4, hcR k 6 (fun _ => none))] : va_W) ++ (standZ k q_5 u_6)))) hP hD rfl
  refine va_putF (D := D) (ci := 6) (v := .ref q_5) (C := RX8) (T := TX8) (N := 12) hx hb hts in8 tyX8 tyX8_ok nmX8 hown hG.1 hP hD hS 0 rfl rfl 3 (by decide) (hts (.fieldLink RX8 29 "ChairCane" "now" "LChairCane$Standing;") (by decide +kernel)) (fun _ h9 => h9) rfl hin rfl (tyX8_ok 3 (by decide)) rfl rfl (Nat.le_of_ble_eq_true rfl) dX8_init_37 (fun H locs hP hD hS => ?_)
  obtain ⟨hP, hD⟩ := cv (w' := ([(h0, .inr (6, [.ref q_1, .ref q_4, .int 0, .ref q_5, .null, .null, .null, .null, .null, .null, .null, .null]))] : va_W) ++ (tapeZ k q_1 u_2 ++ (([(q_4, hcR k 6 (fun _ => none))] : va_W) ++ (standZ k q_5 u_6)))) hP hD rfl
  refine lv_aload_n hx hb dX8_init_40 rfl (lv_at hl 0 rfl) ?_
  refine lv_iconst (v := 4) hx hb dX8_init_41 (by decide) ?_
  refine va_newq hx hb hown (hts (.classLink RX8 26 RX6) (by decide +kernel)) hG.2.2.1 hG.1 hP hD hS hA (N' := 4) (by decide) (by decide) (by decide) (Nat.le_of_ble_eq_true rfl) (Nat.le_of_ble_eq_true rfl) dX8_init_42 (fun q_8 cA H hK hP hD hS => ?_)
  have eA := hc_oneS hK
  subst eA
  obtain ⟨hP, hD⟩ := cv (w' := ([(h0, .inr (6, [.ref q_1, .ref q_4, .int 0, .ref q_5, .null, .null, .null, .null, .null, .null, .null, .null]))] : va_W) ++ (tapeZ k q_1 u_2 ++ (([(q_4, hcR k 6 (fun _ => none))] : va_W) ++ (standZ k q_5 u_6 ++ (([(q_8, hcS k 4 (fun _ => none))] : va_W)))))) hP hD rfl
  refine va_putF (D := D) (ci := 6) (v := .ref q_8) (C := RX8) (T := TX8) (N := 12) hx hb hts in8 tyX8 tyX8_ok nmX8 hown hG.1 hP hD hS 0 rfl rfl 4 (by decide) (hts (.fieldLink RX8 33 "ChairCane" "images" "[LChairCane$Standing;") (by decide +kernel)) (fun _ h9 => h9) rfl hin rfl (tyX8_ok 4 (by decide)) rfl rfl (Nat.le_of_ble_eq_true rfl) dX8_init_45 (fun H locs hP hD hS => ?_)
  obtain ⟨hP, hD⟩ := cv (w' := ([(h0, .inr (6, [.ref q_1, .ref q_4, .int 0, .ref q_5, .ref q_8, .null, .null, .null, .null, .null, .null, .null]))] : va_W) ++ (tapeZ k q_1 u_2 ++ (([(q_4, hcR k 6 (fun _ => none))] : va_W) ++ (standZ k q_5 u_6 ++ (([(q_8, hcS k 4 (fun _ => none))] : va_W)))))) hP hD rfl
  refine lv_aload_n hx hb dX8_init_48 rfl (lv_at hl 0 rfl) ?_
  refine lv_iconst (v := 4) hx hb dX8_init_49 (by decide) ?_
  refine hc_newZ hx hb (hts (.arrayClass .boolean) (by decide +kernel)) hG hA hP hD hS 4 (by decide) ⟨Nat.le_of_ble_eq_true rfl, Nat.le_of_ble_eq_true rfl⟩ dX8_init_50 (fun q_9 H hP hD hS => ?_)
  refine va_putF (D := D) (ci := 6) (v := .ref q_9) (C := RX8) (T := TX8) (N := 12) hx hb hts in8 tyX8 tyX8_ok nmX8 hown hG.1 hP hD hS 0 rfl rfl 5 (by decide) (hts (.fieldLink RX8 37 "ChairCane" "imageMade" "[Z") (by decide +kernel)) (fun _ h9 => h9) rfl hin rfl (tyX8_ok 5 (by decide)) rfl rfl (Nat.le_of_ble_eq_true rfl) dX8_init_52 (fun H locs hP hD hS => ?_)
  obtain ⟨hP, hD⟩ := cv (w' := ([(h0, .inr (6, [.ref q_1, .ref q_4, .int 0, .ref q_5, .ref q_8, .ref q_9, .null, .null, .null, .null, .null, .null]))] : va_W) ++ (tapeZ k q_1 u_2 ++ (([(q_4, hcR k 6 (fun _ => none))] : va_W) ++ (standZ k q_5 u_6 ++ (([(q_8, hcS k 4 (fun _ => none)), (q_9, hcZ k 4 (fun _ => 0))] : va_W)))))) hP hD rfl
  refine lv_aload_n hx hb dX8_init_55 rfl (lv_at hl 0 rfl) ?_
  refine va_new (ci := 2) (fs := [.int 0, .int 0, .int 0, .int 0, .null, .null, .null, .null, .null, .null, .int 0, .int 0, .int 0, .null, .null, .int 0, .int 0]) (C := RX3) (T := TX3) (N := 17) hx hb hts in3 tyX3 tyX3_ok hown (hts (.classLink RX8 41 RX3) (by decide +kernel)) (hts (.instantiable RX3 17) (by decide +kernel)) (hts (.initialized RX3) (by decide +kernel)) hG.1 hP hD hS hA rfl (fun j hj => match j, hj with | 0, _ => rfl | 1, _ => rfl | 2, _ => rfl | 3, _ => rfl | 4, _ => rfl | 5, _ => rfl | 6, _ => rfl | 7, _ => rfl | 8, _ => rfl | 9, _ => rfl | 10, _ => rfl | 11, _ => rfl | 12, _ => rfl | 13, _ => rfl | 14, _ => rfl | 15, _ => rfl | 16, _ => rfl | n + 17, h => absurd h (by omega)) (Nat.le_of_ble_eq_true rfl) (Nat.le_of_ble_eq_true rfl) dX8_init_56 (fun q_10 H hP hD hS => ?_)
  refine lv_dup hx hb dX8_init_59 rfl ?_
  refine hc_N (As := []) (rest := [.ref q_10, .ref h0]) (n := 0) (host := RX8) hx hb hml hown hts hG hA hP hD hS hl.1 _ _ (c_X3_init l D k _ q_10) gX8_init_X3_init_n43 rfl ⟨rfl, rfl, Nat.le_of_ble_eq_true rfl, Nat.le_of_ble_eq_true rfl⟩ hG.2.2.2.2.2.2.2.2.1 (hts (.initialized RX3) (by decide +kernel)) (hts (.instanceMethod yX3_init) (by decide +kernel)) rfl (by decide +kernel) (q_r _ _) (q_l _ _) (q_nd2 _ _) ⟨rfl, rfl, Nat.le_of_ble_eq_true rfl, Nat.le_of_ble_eq_true rfl, Nat.le_of_ble_eq_true rfl⟩ dX8_init_60 (fun u_11 H locs hw hP hD hS => ?_)
  obtain ⟨hP, hD⟩ := cv (w' := ([(h0, .inr (6, [.ref q_1, .ref q_4, .int 0, .ref q_5, .ref q_8, .ref q_9, .null, .null, .null, .null, .null, .null]))] : va_W) ++ (tapeZ k q_1 u_2 ++ (([(q_4, hcR k 6 (fun _ => none))] : va_W) ++ (standZ k q_5 u_6 ++ (([(q_8, hcS k 4 (fun _ => none)), (q_9, hcZ k 4 (fun _ => 0))] : va_W) ++ (roomZ k q_10 u_11)))))) hP hD rfl
  refine va_putF (D := D) (ci := 6) (v := .ref q_10) (C := RX8) (T := TX8) (N := 12) hx hb hts in8 tyX8 tyX8_ok nmX8 hown hG.1 hP hD hS 0 rfl rfl 6 (by decide) (hts (.fieldLink RX8 44 "ChairCane" "trial" "LChairCane$Room;") (by decide +kernel)) (fun _ h9 => h9) rfl hin rfl (tyX8_ok 6 (by decide)) rfl rfl (Nat.le_of_ble_eq_true rfl) dX8_init_63 (fun H locs hP hD hS => ?_)
  obtain ⟨hP, hD⟩ := cv (w' := ([(h0, .inr (6, [.ref q_1, .ref q_4, .int 0, .ref q_5, .ref q_8, .ref q_9, .ref q_10, .null, .null, .null, .null, .null]))] : va_W) ++ (tapeZ k q_1 u_2 ++ (([(q_4, hcR k 6 (fun _ => none))] : va_W) ++ (standZ k q_5 u_6 ++ (([(q_8, hcS k 4 (fun _ => none)), (q_9, hcZ k 4 (fun _ => 0))] : va_W) ++ (roomZ k q_10 u_11)))))) hP hD rfl
  refine lv_aload_n hx hb dX8_init_66 rfl (lv_at hl 0 rfl) ?_
  refine lv_sipush (v := 256) hx hb dX8_init_67 (by decide) ?_
  refine hc_newZ hx hb (hts (.arrayClass .boolean) (by decide +kernel)) hG hA hP hD hS 256 (by decide) ⟨Nat.le_of_ble_eq_true rfl, Nat.le_of_ble_eq_true rfl⟩ dX8_init_70 (fun q_13 H hP hD hS => ?_)
  refine va_putF (D := D) (ci := 6) (v := .ref q_13) (C := RX8) (T := TX8) (N := 12) hx hb hts in8 tyX8 tyX8_ok nmX8 hown hG.1 hP hD hS 0 rfl rfl 7 (by decide) (hts (.fieldLink RX8 48 "ChairCane" "safe" "[Z") (by decide +kernel)) (fun _ h9 => h9) rfl hin rfl (tyX8_ok 7 (by decide)) rfl rfl (Nat.le_of_ble_eq_true rfl) dX8_init_72 (fun H locs hP hD hS => ?_)
  obtain ⟨hP, hD⟩ := cv (w' := ([(h0, .inr (6, [.ref q_1, .ref q_4, .int 0, .ref q_5, .ref q_8, .ref q_9, .ref q_10, .ref q_13, .null, .null, .null, .null]))] : va_W) ++ (tapeZ k q_1 u_2 ++ (([(q_4, hcR k 6 (fun _ => none))] : va_W) ++ (standZ k q_5 u_6 ++ (([(q_8, hcS k 4 (fun _ => none)), (q_9, hcZ k 4 (fun _ => 0))] : va_W) ++ (roomZ k q_10 u_11 ++ (([(q_13, hcZ k 256 (fun _ => 0))] : va_W)))))))) hP hD rfl
  refine lv_aload_n hx hb dX8_init_75 rfl (lv_at hl 0 rfl) ?_
  refine lv_iconst (v := 4) hx hb dX8_init_76 (by decide) ?_
  refine hc_newI hx hb (hts (.arrayClass .int) (by decide +kernel)) hG hA hP hD hS 4 (by decide) ⟨Nat.le_of_ble_eq_true rfl, Nat.le_of_ble_eq_true rfl⟩ dX8_init_77 (fun q_14 H hP hD hS => ?_)
  refine va_putF (D := D) (ci := 6) (v := .ref q_14) (C := RX8) (T := TX8) (N := 12) hx hb hts in8 tyX8 tyX8_ok nmX8 hown hG.1 hP hD hS 0 rfl rfl 8 (by decide) (hts (.fieldLink RX8 51 "ChairCane" "payOfOne" "[I") (by decide +kernel)) (fun _ h9 => h9) rfl hin rfl (tyX8_ok 8 (by decide)) rfl rfl (Nat.le_of_ble_eq_true rfl) dX8_init_79 (fun H locs hP hD hS => ?_)
  obtain ⟨hP, hD⟩ := cv (w' := ([(h0, .inr (6, [.ref q_1, .ref q_4, .int 0, .ref q_5, .ref q_8, .ref q_9, .ref q_10, .ref q_13, .ref q_14, .null, .null, .null]))] : va_W) ++ (tapeZ k q_1 u_2 ++ (([(q_4, hcR k 6 (fun _ => none))] : va_W) ++ (standZ k q_5 u_6 ++ (([(q_8, hcS k 4 (fun _ => none)), (q_9, hcZ k 4 (fun _ => 0))] : va_W) ++ (roomZ k q_10 u_11 ++ (([(q_13, hcZ k 256 (fun _ => 0)), (q_14, hcI k 4 (fun _ => 0))] : va_W)))))))) hP hD rfl
  refine lv_aload_n hx hb dX8_init_82 rfl (lv_at hl 0 rfl) ?_
  refine lv_iconst (v := 4) hx hb dX8_init_83 (by decide) ?_
  refine hc_newI hx hb (hts (.arrayClass .int) (by decide +kernel)) hG hA hP hD hS 4 (by decide) ⟨Nat.le_of_ble_eq_true rfl, Nat.le_of_ble_eq_true rfl⟩ dX8_init_84 (fun q_15 H hP hD hS => ?_)
  refine va_putF (D := D) (ci := 6) (v := .ref q_15) (C := RX8) (T := TX8) (N := 12) hx hb hts in8 tyX8 tyX8_ok nmX8 hown hG.1 hP hD hS 0 rfl rfl 9 (by decide) (hts (.fieldLink RX8 55 "ChairCane" "payOfOther" "[I") (by decide +kernel)) (fun _ h9 => h9) rfl hin rfl (tyX8_ok 9 (by decide)) rfl rfl (Nat.le_of_ble_eq_true rfl) dX8_init_86 (fun H locs hP hD hS => ?_)
  obtain ⟨hP, hD⟩ := cv (w' := ([(h0, .inr (6, [.ref q_1, .ref q_4, .int 0, .ref q_5, .ref q_8, .ref q_9, .ref q_10, .ref q_13, .ref q_14, .ref q_15, .null, .null]))] : va_W) ++ (tapeZ k q_1 u_2 ++ (([(q_4, hcR k 6 (fun _ => none))] : va_W) ++ (standZ k q_5 u_6 ++ (([(q_8, hcS k 4 (fun _ => none)), (q_9, hcZ k 4 (fun _ => 0))] : va_W) ++ (roomZ k q_10 u_11 ++ (([(q_13, hcZ k 256 (fun _ => 0)), (q_14, hcI k 4 (fun _ => 0)), (q_15, hcI k 4 (fun _ => 0))] : va_W)))))))) hP hD rfl
  refine lv_aload_n hx hb dX8_init_89 rfl (lv_at hl 0 rfl) ?_
  refine lv_bipush (v := 61) hx hb dX8_init_90 (by decide) ?_
  refine hc_newI hx hb (hts (.arrayClass .int) (by decide +kernel)) hG hA hP hD hS 61 (by decide) ⟨Nat.le_of_ble_eq_true rfl, Nat.le_of_ble_eq_true rfl⟩ dX8_init_92 (fun q_16 H hP hD hS => ?_)
  refine va_putF (D := D) (ci := 6) (v := .ref q_16) (C := RX8) (T := TX8) (N := 12) hx hb hts in8 tyX8 tyX8_ok nmX8 hown hG.1 hP hD hS 0 rfl rfl 10 (by decide) (hts (.fieldLink RX8 58 "ChairCane" "seen" "[I") (by decide +kernel)) (fun _ h9 => h9) rfl hin rfl (tyX8_ok 10 (by decide)) rfl rfl (Nat.le_of_ble_eq_true rfl) dX8_init_94 (fun H locs hP hD hS => ?_)
  obtain ⟨hP, hD⟩ := cv (w' := ([(h0, .inr (6, [.ref q_1, .ref q_4, .int 0, .ref q_5, .ref q_8, .ref q_9, .ref q_10, .ref q_13, .ref q_14, .ref q_15, .ref q_16, .null]))] : va_W) ++ (tapeZ k q_1 u_2 ++ (([(q_4, hcR k 6 (fun _ => none))] : va_W) ++ (standZ k q_5 u_6 ++ (([(q_8, hcS k 4 (fun _ => none)), (q_9, hcZ k 4 (fun _ => 0))] : va_W) ++ (roomZ k q_10 u_11 ++ (([(q_13, hcZ k 256 (fun _ => 0)), (q_14, hcI k 4 (fun _ => 0)), (q_15, hcI k 4 (fun _ => 0)), (q_16, hcI k 61 (fun _ => 0))] : va_W)))))))) hP hD rfl
  refine lv_aload_n hx hb dX8_init_97 rfl (lv_at hl 0 rfl) ?_
  refine lv_bipush (v := 24) hx hb dX8_init_98 (by decide) ?_
  refine hc_newI hx hb (hts (.arrayClass .int) (by decide +kernel)) hG hA hP hD hS 24 (by decide) ⟨Nat.le_of_ble_eq_true rfl, Nat.le_of_ble_eq_true rfl⟩ dX8_init_100 (fun q_17 H hP hD hS => ?_)
  refine va_putF (D := D) (ci := 6) (v := .ref q_17) (C := RX8) (T := TX8) (N := 12) hx hb hts in8 tyX8 tyX8_ok nmX8 hown hG.1 hP hD hS 0 rfl rfl 11 (by decide) (hts (.fieldLink RX8 61 "ChairCane" "tally" "[I") (by decide +kernel)) (fun _ h9 => h9) rfl hin rfl (tyX8_ok 11 (by decide)) rfl rfl (Nat.le_of_ble_eq_true rfl) dX8_init_102 (fun H locs hP hD hS => ?_)
  obtain ⟨hP, hD⟩ := cv (w' := ([(h0, .inr (6, [.ref q_1, .ref q_4, .int 0, .ref q_5, .ref q_8, .ref q_9, .ref q_10, .ref q_13, .ref q_14, .ref q_15, .ref q_16, .ref q_17]))] : va_W) ++ (tapeZ k q_1 u_2 ++ (([(q_4, hcR k 6 (fun _ => none))] : va_W) ++ (standZ k q_5 u_6 ++ (([(q_8, hcS k 4 (fun _ => none)), (q_9, hcZ k 4 (fun _ => 0))] : va_W) ++ (roomZ k q_10 u_11 ++ (([(q_13, hcZ k 256 (fun _ => 0)), (q_14, hcI k 4 (fun _ => 0)), (q_15, hcI k 4 (fun _ => 0)), (q_16, hcI k 61 (fun _ => 0)), (q_17, hcI k 24 (fun _ => 0))] : va_W)))))))) hP hD rfl
  refine lv_iconst (v := 0) hx hb dX8_init_105 (by decide) ?_
  refine lv_istore_n (lv' := [(1, .int 0), (0, .ref h0)]) hx hb dX8_init_106 rfl hl (by decide) rfl (fun ls hl => ?_)
  refine lv_iload_n hx hb dX8_init_107 rfl (lv_at hl 0 rfl) ?_
  refine lv_bipush (v := 6) hx hb dX8_init_108 (by decide) ?_
  refine lv_icmp_ge (tgt := 132) hx hb dX8_init_110 (by decide) (fun h => absurd h (by decide)) (fun _ => ?_)
  refine lv_aload_n hx hb dX8_init_113 rfl (lv_at hl 1 rfl) ?_
  refine va_get (D := D) (ci := 6) (v := .ref q_4) (C := RX8) (T := TX8) (N := 12) hx hb hts in8 hown hG.1 hP 0 rfl rfl 1 (by decide) (hts (.fieldLink RX8 18 "ChairCane" "rules" "[LChairCane$Rule;") (by decide +kernel)) (fun _ h9 => h9) rfl dX8_init_114 ?_
  refine lv_iload_n hx hb dX8_init_117 rfl (lv_at hl 0 rfl) ?_
  refine va_new (ci := 3) (fs := [.null, .null, .null, .null, .null, .int 0, .int 0, .int 0]) (C := RX4) (T := TX4) (N := 8) hx hb hts in4 tyX4 tyX4_ok hown (hts (.classLink RX8 16 RX4) (by decide +kernel)) (hts (.instantiable RX4 8) (by decide +kernel)) (hts (.initialized RX4) (by decide +kernel)) hG.1 hP hD hS hA rfl (fun j hj => match j, hj with | 0, _ => rfl | 1, _ => rfl | 2, _ => rfl | 3, _ => rfl | 4, _ => rfl | 5, _ => rfl | 6, _ => rfl | 7, _ => rfl | n + 8, h => absurd h (by omega)) (Nat.le_of_ble_eq_true rfl) (Nat.le_of_ble_eq_true rfl) dX8_init_118 (fun q_18 H hP hD hS => ?_)
  refine lv_dup hx hb dX8_init_121 rfl ?_
  refine hc_N (As := []) (rest := [.ref q_18, .int 0, .ref q_4]) (n := 0) (host := RX8) hx hb hml hown hts hG hA hP hD hS hl.1 _ _ (c_X4_init l D k _ q_18) gX8_init_X4_init_n64 rfl ⟨rfl, rfl, Nat.le_of_ble_eq_true rfl, Nat.le_of_ble_eq_true rfl⟩ hG.2.2.2.2.2.2.2.2.2 (hts (.initialized RX4) (by decide +kernel)) (hts (.instanceMethod yX4_init) (by decide +kernel)) rfl (by decide +kernel) (q_r _ _) (q_l _ _) (q_nd2 _ _) ⟨rfl, rfl, Nat.le_of_ble_eq_true rfl, Nat.le_of_ble_eq_true rfl, Nat.le_of_ble_eq_true rfl⟩ dX8_init_122 (fun u_19 H locs hw hP hD hS => ?_)
  obtain ⟨hP, hD⟩ := cv (w' := ([(h0, .inr (6, [.ref q_1, .ref q_4, .int 0, .ref q_5, .ref q_8, .ref q_9, .ref q_10, .ref q_13, .ref q_14, .ref q_15, .ref q_16, .ref q_17]))] : va_W) ++ (tapeZ k q_1 u_2 ++ (([(q_4, hcR k 6 (fun _ => none))] : va_W) ++ (standZ k q_5 u_6 ++ (([(q_8, hcS k 4 (fun _ => none)), (q_9, hcZ k 4 (fun _ => 0))] : va_W) ++ (roomZ k q_10 u_11 ++ (([(q_13, hcZ k 256 (fun _ => 0)), (q_14, hcI k 4 (fun _ => 0)), (q_15, hcI k 4 (fun _ => 0)), (q_16, hcI k 61 (fun _ => 0)), (q_17, hcI k 24 (fun _ => 0))] : va_W) ++ (ruleZ k q_18 u_19)))))))) hP hD rfl
  refine va_astq hx hb hG.1 hP hD hS 6 4 41 3 rfl rfl rfl rfl (by unfold vp_in; decide) dX8_init_125 (fun H locs hP hD hS => ?_)
  obtain ⟨hP, hD⟩ := cv (w' := ([(h0, .inr (6, [.ref q_1, .ref q_4, .int 0, .ref q_5, .ref q_8, .ref q_9, .ref q_10, .ref q_13, .ref q_14, .ref q_15, .ref q_16, .ref q_17]))] : va_W) ++ (tapeZ k q_1 u_2 ++ (([(q_4, hcR k 6 (va_up (fun _ => none) 0 (some q_18)))] : va_W) ++ (standZ k q_5 u_6 ++ (([(q_8, hcS k 4 (fun _ => none)), (q_9, hcZ k 4 (fun _ => 0))] : va_W) ++ (roomZ k q_10 u_11 ++ (([(q_13, hcZ k 256 (fun _ => 0)), (q_14, hcI k 4 (fun _ => 0)), (q_15, hcI k 4 (fun _ => 0)), (q_16, hcI k 61 (fun _ => 0)), (q_17, hcI k 24 (fun _ => 0))] : va_W) ++ (ruleZ k q_18 u_19)))))))) hP hD rfl
  refine lv_iinc (v := 1) (lv' := [(1, .int 1), (0, .ref h0)]) hx hb dX8_init_126 hl (k := 0) rfl (by decide) (by decide) rfl (fun ls hl => ?_)
  refine lv_goto (tgt := 107) hx hb dX8_init_129 (by decide) ?_
  refine lv_iload_n hx hb dX8_init_107 rfl (lv_at hl 0 rfl) ?_
  refine lv_bipush (v := 6) hx hb dX8_init_108 (by decide) ?_
  refine lv_icmp_ge (tgt := 132) hx hb dX8_init_110 (by decide) (fun h => absurd h (by decide)) (fun _ => ?_)
  refine lv_aload_n hx hb dX8_init_113 rfl (lv_at hl 1 rfl) ?_
  refine va_get (D := D) (ci := 6) (v := .ref q_4) (C := RX8) (T := TX8) (N := 12) hx hb hts in8 hown hG.1 hP 0 rfl rfl 1 (by decide) (hts (.fieldLink RX8 18 "ChairCane" "rules" "[LChairCane$Rule;") (by decide +kernel)) (fun _ h9 => h9) rfl dX8_init_114 ?_
  refine lv_iload_n hx hb dX8_init_117 rfl (lv_at hl 0 rfl) ?_
  refine va_new (ci := 3) (fs := [.null, .null, .null, .null, .null, .int 0, .int 0, .int 0]) (C := RX4) (T := TX4) (N := 8) hx hb hts in4 tyX4 tyX4_ok hown (hts (.classLink RX8 16 RX4) (by decide +kernel)) (hts (.instantiable RX4 8) (by decide +kernel)) (hts (.initialized RX4) (by decide +kernel)) hG.1 hP hD hS hA rfl (fun j hj => match j, hj with | 0, _ => rfl | 1, _ => rfl | 2, _ => rfl | 3, _ => rfl | 4, _ => rfl | 5, _ => rfl | 6, _ => rfl | 7, _ => rfl | n + 8, h => absurd h (by omega)) (Nat.le_of_ble_eq_true rfl) (Nat.le_of_ble_eq_true rfl) dX8_init_118 (fun q_21 H hP hD hS => ?_)
  refine lv_dup hx hb dX8_init_121 rfl ?_
  refine hc_N (As := []) (rest := [.ref q_21, .int 1, .ref q_4]) (n := 0) (host := RX8) hx hb hml hown hts hG hA hP hD hS hl.1 _ _ (c_X4_init l D k _ q_21) gX8_init_X4_init_n64 rfl ⟨rfl, rfl, Nat.le_of_ble_eq_true rfl, Nat.le_of_ble_eq_true rfl⟩ hG.2.2.2.2.2.2.2.2.2 (hts (.initialized RX4) (by decide +kernel)) (hts (.instanceMethod yX4_init) (by decide +kernel)) rfl (by decide +kernel) (q_r _ _) (q_l _ _) (q_nd2 _ _) ⟨rfl, rfl, Nat.le_of_ble_eq_true rfl, Nat.le_of_ble_eq_true rfl, Nat.le_of_ble_eq_true rfl⟩ dX8_init_122 (fun u_22 H locs hw hP hD hS => ?_)
  obtain ⟨hP, hD⟩ := cv (w' := ([(h0, .inr (6, [.ref q_1, .ref q_4, .int 0, .ref q_5, .ref q_8, .ref q_9, .ref q_10, .ref q_13, .ref q_14, .ref q_15, .ref q_16, .ref q_17]))] : va_W) ++ (tapeZ k q_1 u_2 ++ (([(q_4, hcR k 6 (va_up (fun _ => none) 0 (some q_18)))] : va_W) ++ (standZ k q_5 u_6 ++ (([(q_8, hcS k 4 (fun _ => none)), (q_9, hcZ k 4 (fun _ => 0))] : va_W) ++ (roomZ k q_10 u_11 ++ (([(q_13, hcZ k 256 (fun _ => 0)), (q_14, hcI k 4 (fun _ => 0)), (q_15, hcI k 4 (fun _ => 0)), (q_16, hcI k 61 (fun _ => 0)), (q_17, hcI k 24 (fun _ => 0))] : va_W) ++ (ruleZ k q_18 u_19 ++ (ruleZ k q_21 u_22))))))))) hP hD rfl
  refine va_astq hx hb hG.1 hP hD hS 6 4 47 3 rfl rfl rfl rfl (by unfold vp_in; decide) dX8_init_125 (fun H locs hP hD hS => ?_)
  obtain ⟨hP, hD⟩ := cv (w' := ([(h0, .inr (6, [.ref q_1, .ref q_4, .int 0, .ref q_5, .ref q_8, .ref q_9, .ref q_10, .ref q_13, .ref q_14, .ref q_15, .ref q_16, .ref q_17]))] : va_W) ++ (tapeZ k q_1 u_2 ++ (([(q_4, hcR k 6 (va_up (va_up (fun _ => none) 0 (some q_18)) 1 (some q_21)))] : va_W) ++ (standZ k q_5 u_6 ++ (([(q_8, hcS k 4 (fun _ => none)), (q_9, hcZ k 4 (fun _ => 0))] : va_W) ++ (roomZ k q_10 u_11 ++ (([(q_13, hcZ k 256 (fun _ => 0)), (q_14, hcI k 4 (fun _ => 0)), (q_15, hcI k 4 (fun _ => 0)), (q_16, hcI k 61 (fun _ => 0)), (q_17, hcI k 24 (fun _ => 0))] : va_W) ++ (ruleZ k q_18 u_19 ++ (ruleZ k q_21 u_22))))))))) hP hD rfl
  refine lv_iinc (v := 2) (lv' := [(1, .int 2), (0, .ref h0)]) hx hb dX8_init_126 hl (k := 0) rfl (by decide) (by decide) rfl (fun ls hl => ?_)
  refine lv_goto (tgt := 107) hx hb dX8_init_129 (by decide) ?_
  refine lv_iload_n hx hb dX8_init_107 rfl (lv_at hl 0 rfl) ?_
  refine lv_bipush (v := 6) hx hb dX8_init_108 (by decide) ?_
  refine lv_icmp_ge (tgt := 132) hx hb dX8_init_110 (by decide) (fun h => absurd h (by decide)) (fun _ => ?_)
  refine lv_aload_n hx hb dX8_init_113 rfl (lv_at hl 1 rfl) ?_
  refine va_get (D := D) (ci := 6) (v := .ref q_4) (C := RX8) (T := TX8) (N := 12) hx hb hts in8 hown hG.1 hP 0 rfl rfl 1 (by decide) (hts (.fieldLink RX8 18 "ChairCane" "rules" "[LChairCane$Rule;") (by decide +kernel)) (fun _ h9 => h9) rfl dX8_init_114 ?_
  refine lv_iload_n hx hb dX8_init_117 rfl (lv_at hl 0 rfl) ?_
  refine va_new (ci := 3) (fs := [.null, .null, .null, .null, .null, .int 0, .int 0, .int 0]) (C := RX4) (T := TX4) (N := 8) hx hb hts in4 tyX4 tyX4_ok hown (hts (.classLink RX8 16 RX4) (by decide +kernel)) (hts (.instantiable RX4 8) (by decide +kernel)) (hts (.initialized RX4) (by decide +kernel)) hG.1 hP hD hS hA rfl (fun j hj => match j, hj with | 0, _ => rfl | 1, _ => rfl | 2, _ => rfl | 3, _ => rfl | 4, _ => rfl | 5, _ => rfl | 6, _ => rfl | 7, _ => rfl | n + 8, h => absurd h (by omega)) (Nat.le_of_ble_eq_true rfl) (Nat.le_of_ble_eq_true rfl) dX8_init_118 (fun q_24 H hP hD hS => ?_)
  refine lv_dup hx hb dX8_init_121 rfl ?_
  refine hc_N (As := []) (rest := [.ref q_24, .int 2, .ref q_4]) (n := 0) (host := RX8) hx hb hml hown hts hG hA hP hD hS hl.1 _ _ (c_X4_init l D k _ q_24) gX8_init_X4_init_n64 rfl ⟨rfl, rfl, Nat.le_of_ble_eq_true rfl, Nat.le_of_ble_eq_true rfl⟩ hG.2.2.2.2.2.2.2.2.2 (hts (.initialized RX4) (by decide +kernel)) (hts (.instanceMethod yX4_init) (by decide +kernel)) rfl (by decide +kernel) (q_r _ _) (q_l _ _) (q_nd2 _ _) ⟨rfl, rfl, Nat.le_of_ble_eq_true rfl, Nat.le_of_ble_eq_true rfl, Nat.le_of_ble_eq_true rfl⟩ dX8_init_122 (fun u_25 H locs hw hP hD hS => ?_)
  obtain ⟨hP, hD⟩ := cv (w' := ([(h0, .inr (6, [.ref q_1, .ref q_4, .int 0, .ref q_5, .ref q_8, .ref q_9, .ref q_10, .ref q_13, .ref q_14, .ref q_15, .ref q_16, .ref q_17]))] : va_W) ++ (tapeZ k q_1 u_2 ++ (([(q_4, hcR k 6 (va_up (va_up (fun _ => none) 0 (some q_18)) 1 (some q_21)))] : va_W) ++ (standZ k q_5 u_6 ++ (([(q_8, hcS k 4 (fun _ => none)), (q_9, hcZ k 4 (fun _ => 0))] : va_W) ++ (roomZ k q_10 u_11 ++ (([(q_13, hcZ k 256 (fun _ => 0)), (q_14, hcI k 4 (fun _ => 0)), (q_15, hcI k 4 (fun _ => 0)), (q_16, hcI k 61 (fun _ => 0)), (q_17, hcI k 24 (fun _ => 0))] : va_W) ++ (ruleZ k q_18 u_19 ++ (ruleZ k q_21 u_22 ++ (ruleZ k q_24 u_25)))))))))) hP hD rfl
  refine va_astq hx hb hG.1 hP hD hS 6 4 53 3 rfl rfl rfl rfl (by unfold vp_in; decide) dX8_init_125 (fun H locs hP hD hS => ?_)
  obtain ⟨hP, hD⟩ := cv (w' := ([(h0, .inr (6, [.ref q_1, .ref q_4, .int 0, .ref q_5, .ref q_8, .ref q_9, .ref q_10, .ref q_13, .ref q_14, .ref q_15, .ref q_16, .ref q_17]))] : va_W) ++ (tapeZ k q_1 u_2 ++ (([(q_4, hcR k 6 (va_up (va_up (va_up (fun _ => none) 0 (some q_18)) 1 (some q_21)) 2 (some q_24)))] : va_W) ++ (standZ k q_5 u_6 ++ (([(q_8, hcS k 4 (fun _ => none)), (q_9, hcZ k 4 (fun _ => 0))] : va_W) ++ (roomZ k q_10 u_11 ++ (([(q_13, hcZ k 256 (fun _ => 0)), (q_14, hcI k 4 (fun _ => 0)), (q_15, hcI k 4 (fun _ => 0)), (q_16, hcI k 61 (fun _ => 0)), (q_17, hcI k 24 (fun _ => 0))] : va_W) ++ (ruleZ k q_18 u_19 ++ (ruleZ k q_21 u_22 ++ (ruleZ k q_24 u_25)))))))))) hP hD rfl
  refine lv_iinc (v := 3) (lv' := [(1, .int 3), (0, .ref h0)]) hx hb dX8_init_126 hl (k := 0) rfl (by decide) (by decide) rfl (fun ls hl => ?_)
  refine lv_goto (tgt := 107) hx hb dX8_init_129 (by decide) ?_
  refine lv_iload_n hx hb dX8_init_107 rfl (lv_at hl 0 rfl) ?_
  refine lv_bipush (v := 6) hx hb dX8_init_108 (by decide) ?_
  refine lv_icmp_ge (tgt := 132) hx hb dX8_init_110 (by decide) (fun h => absurd h (by decide)) (fun _ => ?_)
  refine lv_aload_n hx hb dX8_init_113 rfl (lv_at hl 1 rfl) ?_
  refine va_get (D := D) (ci := 6) (v := .ref q_4) (C := RX8) (T := TX8) (N := 12) hx hb hts in8 hown hG.1 hP 0 rfl rfl 1 (by decide) (hts (.fieldLink RX8 18 "ChairCane" "rules" "[LChairCane$Rule;") (by decide +kernel)) (fun _ h9 => h9) rfl dX8_init_114 ?_
  refine lv_iload_n hx hb dX8_init_117 rfl (lv_at hl 0 rfl) ?_
  refine va_new (ci := 3) (fs := [.null, .null, .null, .null, .null, .int 0, .int 0, .int 0]) (C := RX4) (T := TX4) (N := 8) hx hb hts in4 tyX4 tyX4_ok hown (hts (.classLink RX8 16 RX4) (by decide +kernel)) (hts (.instantiable RX4 8) (by decide +kernel)) (hts (.initialized RX4) (by decide +kernel)) hG.1 hP hD hS hA rfl (fun j hj => match j, hj with | 0, _ => rfl | 1, _ => rfl | 2, _ => rfl | 3, _ => rfl | 4, _ => rfl | 5, _ => rfl | 6, _ => rfl | 7, _ => rfl | n + 8, h => absurd h (by omega)) (Nat.le_of_ble_eq_true rfl) (Nat.le_of_ble_eq_true rfl) dX8_init_118 (fun q_27 H hP hD hS => ?_)
  refine lv_dup hx hb dX8_init_121 rfl ?_
  refine hc_N (As := []) (rest := [.ref q_27, .int 3, .ref q_4]) (n := 0) (host := RX8) hx hb hml hown hts hG hA hP hD hS hl.1 _ _ (c_X4_init l D k _ q_27) gX8_init_X4_init_n64 rfl ⟨rfl, rfl, Nat.le_of_ble_eq_true rfl, Nat.le_of_ble_eq_true rfl⟩ hG.2.2.2.2.2.2.2.2.2 (hts (.initialized RX4) (by decide +kernel)) (hts (.instanceMethod yX4_init) (by decide +kernel)) rfl (by decide +kernel) (q_r _ _) (q_l _ _) (q_nd2 _ _) ⟨rfl, rfl, Nat.le_of_ble_eq_true rfl, Nat.le_of_ble_eq_true rfl, Nat.le_of_ble_eq_true rfl⟩ dX8_init_122 (fun u_28 H locs hw hP hD hS => ?_)
  obtain ⟨hP, hD⟩ := cv (w' := ([(h0, .inr (6, [.ref q_1, .ref q_4, .int 0, .ref q_5, .ref q_8, .ref q_9, .ref q_10, .ref q_13, .ref q_14, .ref q_15, .ref q_16, .ref q_17]))] : va_W) ++ (tapeZ k q_1 u_2 ++ (([(q_4, hcR k 6 (va_up (va_up (va_up (fun _ => none) 0 (some q_18)) 1 (some q_21)) 2 (some q_24)))] : va_W) ++ (standZ k q_5 u_6 ++ (([(q_8, hcS k 4 (fun _ => none)), (q_9, hcZ k 4 (fun _ => 0))] : va_W) ++ (roomZ k q_10 u_11 ++ (([(q_13, hcZ k 256 (fun _ => 0)), (q_14, hcI k 4 (fun _ => 0)), (q_15, hcI k 4 (fun _ => 0)), (q_16, hcI k 61 (fun _ => 0)), (q_17, hcI k 24 (fun _ => 0))] : va_W) ++ (ruleZ k q_18 u_19 ++ (ruleZ k q_21 u_22 ++ (ruleZ k q_24 u_25 ++ (ruleZ k q_27 u_28))))))))))) hP hD rfl
  refine va_astq hx hb hG.1 hP hD hS 6 4 59 3 rfl rfl rfl rfl (by unfold vp_in; decide) dX8_init_125 (fun H locs hP hD hS => ?_)
  obtain ⟨hP, hD⟩ := cv (w' := ([(h0, .inr (6, [.ref q_1, .ref q_4, .int 0, .ref q_5, .ref q_8, .ref q_9, .ref q_10, .ref q_13, .ref q_14, .ref q_15, .ref q_16, .ref q_17]))] : va_W) ++ (tapeZ k q_1 u_2 ++ (([(q_4, hcR k 6 (va_up (va_up (va_up (va_up (fun _ => none) 0 (some q_18)) 1 (some q_21)) 2 (some q_24)) 3 (some q_27)))] : va_W) ++ (standZ k q_5 u_6 ++ (([(q_8, hcS k 4 (fun _ => none)), (q_9, hcZ k 4 (fun _ => 0))] : va_W) ++ (roomZ k q_10 u_11 ++ (([(q_13, hcZ k 256 (fun _ => 0)), (q_14, hcI k 4 (fun _ => 0)), (q_15, hcI k 4 (fun _ => 0)), (q_16, hcI k 61 (fun _ => 0)), (q_17, hcI k 24 (fun _ => 0))] : va_W) ++ (ruleZ k q_18 u_19 ++ (ruleZ k q_21 u_22 ++ (ruleZ k q_24 u_25 ++ (ruleZ k q_27 u_28))))))))))) hP hD rfl
  refine lv_iinc (v := 4) (lv' := [(1, .int 4), (0, .ref h0)]) hx hb dX8_init_126 hl (k := 0) rfl (by decide) (by decide) rfl (fun ls hl => ?_)
  refine lv_goto (tgt := 107) hx hb dX8_init_129 (by decide) ?_
  refine lv_iload_n hx hb dX8_init_107 rfl (lv_at hl 0 rfl) ?_
  refine lv_bipush (v := 6) hx hb dX8_init_108 (by decide) ?_
  refine lv_icmp_ge (tgt := 132) hx hb dX8_init_110 (by decide) (fun h => absurd h (by decide)) (fun _ => ?_)
  refine lv_aload_n hx hb dX8_init_113 rfl (lv_at hl 1 rfl) ?_
  refine va_get (D := D) (ci := 6) (v := .ref q_4) (C := RX8) (T := TX8) (N := 12) hx hb hts in8 hown hG.1 hP 0 rfl rfl 1 (by decide) (hts (.fieldLink RX8 18 "ChairCane" "rules" "[LChairCane$Rule;") (by decide +kernel)) (fun _ h9 => h9) rfl dX8_init_114 ?_
  refine lv_iload_n hx hb dX8_init_117 rfl (lv_at hl 0 rfl) ?_
  refine va_new (ci := 3) (fs := [.null, .null, .null, .null, .null, .int 0, .int 0, .int 0]) (C := RX4) (T := TX4) (N := 8) hx hb hts in4 tyX4 tyX4_ok hown (hts (.classLink RX8 16 RX4) (by decide +kernel)) (hts (.instantiable RX4 8) (by decide +kernel)) (hts (.initialized RX4) (by decide +kernel)) hG.1 hP hD hS hA rfl (fun j hj => match j, hj with | 0, _ => rfl | 1, _ => rfl | 2, _ => rfl | 3, _ => rfl | 4, _ => rfl | 5, _ => rfl | 6, _ => rfl | 7, _ => rfl | n + 8, h => absurd h (by omega)) (Nat.le_of_ble_eq_true rfl) (Nat.le_of_ble_eq_true rfl) dX8_init_118 (fun q_30 H hP hD hS => ?_)
  refine lv_dup hx hb dX8_init_121 rfl ?_
  refine hc_N (As := []) (rest := [.ref q_30, .int 4, .ref q_4]) (n := 0) (host := RX8) hx hb hml hown hts hG hA hP hD hS hl.1 _ _ (c_X4_init l D k _ q_30) gX8_init_X4_init_n64 rfl ⟨rfl, rfl, Nat.le_of_ble_eq_true rfl, Nat.le_of_ble_eq_true rfl⟩ hG.2.2.2.2.2.2.2.2.2 (hts (.initialized RX4) (by decide +kernel)) (hts (.instanceMethod yX4_init) (by decide +kernel)) rfl (by decide +kernel) (q_r _ _) (q_l _ _) (q_nd2 _ _) ⟨rfl, rfl, Nat.le_of_ble_eq_true rfl, Nat.le_of_ble_eq_true rfl, Nat.le_of_ble_eq_true rfl⟩ dX8_init_122 (fun u_31 H locs hw hP hD hS => ?_)
  obtain ⟨hP, hD⟩ := cv (w' := ([(h0, .inr (6, [.ref q_1, .ref q_4, .int 0, .ref q_5, .ref q_8, .ref q_9, .ref q_10, .ref q_13, .ref q_14, .ref q_15, .ref q_16, .ref q_17]))] : va_W) ++ (tapeZ k q_1 u_2 ++ (([(q_4, hcR k 6 (va_up (va_up (va_up (va_up (fun _ => none) 0 (some q_18)) 1 (some q_21)) 2 (some q_24)) 3 (some q_27)))] : va_W) ++ (standZ k q_5 u_6 ++ (([(q_8, hcS k 4 (fun _ => none)), (q_9, hcZ k 4 (fun _ => 0))] : va_W) ++ (roomZ k q_10 u_11 ++ (([(q_13, hcZ k 256 (fun _ => 0)), (q_14, hcI k 4 (fun _ => 0)), (q_15, hcI k 4 (fun _ => 0)), (q_16, hcI k 61 (fun _ => 0)), (q_17, hcI k 24 (fun _ => 0))] : va_W) ++ (ruleZ k q_18 u_19 ++ (ruleZ k q_21 u_22 ++ (ruleZ k q_24 u_25 ++ (ruleZ k q_27 u_28 ++ (ruleZ k q_30 u_31)))))))))))) hP hD rfl
  refine va_astq hx hb hG.1 hP hD hS 6 4 65 3 rfl rfl rfl rfl (by unfold vp_in; decide) dX8_init_125 (fun H locs hP hD hS => ?_)
  obtain ⟨hP, hD⟩ := cv (w' := ([(h0, .inr (6, [.ref q_1, .ref q_4, .int 0, .ref q_5, .ref q_8, .ref q_9, .ref q_10, .ref q_13, .ref q_14, .ref q_15, .ref q_16, .ref q_17]))] : va_W) ++ (tapeZ k q_1 u_2 ++ (([(q_4, hcR k 6 (va_up (va_up (va_up (va_up (va_up (fun _ => none) 0 (some q_18)) 1 (some q_21)) 2 (some q_24)) 3 (some q_27)) 4 (some q_30)))] : va_W) ++ (standZ k q_5 u_6 ++ (([(q_8, hcS k 4 (fun _ => none)), (q_9, hcZ k 4 (fun _ => 0))] : va_W) ++ (roomZ k q_10 u_11 ++ (([(q_13, hcZ k 256 (fun _ => 0)), (q_14, hcI k 4 (fun _ => 0)), (q_15, hcI k 4 (fun _ => 0)), (q_16, hcI k 61 (fun _ => 0)), (q_17, hcI k 24 (fun _ => 0))] : va_W) ++ (ruleZ k q_18 u_19 ++ (ruleZ k q_21 u_22 ++ (ruleZ k q_24 u_25 ++ (ruleZ k q_27 u_28 ++ (ruleZ k q_30 u_31)))))))))))) hP hD rfl
  refine lv_iinc (v := 5) (lv' := [(1, .int 5), (0, .ref h0)]) hx hb dX8_init_126 hl (k := 0) rfl (by decide) (by decide) rfl (fun ls hl => ?_)
  refine lv_goto (tgt := 107) hx hb dX8_init_129 (by decide) ?_
  refine lv_iload_n hx hb dX8_init_107 rfl (lv_at hl 0 rfl) ?_
  refine lv_bipush (v := 6) hx hb dX8_init_108 (by decide) ?_
  refine lv_icmp_ge (tgt := 132) hx hb dX8_init_110 (by decide) (fun h => absurd h (by decide)) (fun _ => ?_)
  refine lv_aload_n hx hb dX8_init_113 rfl (lv_at hl 1 rfl) ?_
  refine va_get (D := D) (ci := 6) (v := .ref q_4) (C := RX8) (T := TX8) (N := 12) hx hb hts in8 hown hG.1 hP 0 rfl rfl 1 (by decide) (hts (.fieldLink RX8 18 "ChairCane" "rules" "[LChairCane$Rule;") (by decide +kernel)) (fun _ h9 => h9) rfl dX8_init_114 ?_
  refine lv_iload_n hx hb dX8_init_117 rfl (lv_at hl 0 rfl) ?_
  refine va_new (ci := 3) (fs := [.null, .null, .null, .null, .null, .int 0, .int 0, .int 0]) (C := RX4) (T := TX4) (N := 8) hx hb hts in4 tyX4 tyX4_ok hown (hts (.classLink RX8 16 RX4) (by decide +kernel)) (hts (.instantiable RX4 8) (by decide +kernel)) (hts (.initialized RX4) (by decide +kernel)) hG.1 hP hD hS hA rfl (fun j hj => match j, hj with | 0, _ => rfl | 1, _ => rfl | 2, _ => rfl | 3, _ => rfl | 4, _ => rfl | 5, _ => rfl | 6, _ => rfl | 7, _ => rfl | n + 8, h => absurd h (by omega)) (Nat.le_of_ble_eq_true rfl) (Nat.le_of_ble_eq_true rfl) dX8_init_118 (fun q_33 H hP hD hS => ?_)
  refine lv_dup hx hb dX8_init_121 rfl ?_
  refine hc_N (As := []) (rest := [.ref q_33, .int 5, .ref q_4]) (n := 0) (host := RX8) hx hb hml hown hts hG hA hP hD hS hl.1 _ _ (c_X4_init l D k _ q_33) gX8_init_X4_init_n64 rfl ⟨rfl, rfl, Nat.le_of_ble_eq_true rfl, Nat.le_of_ble_eq_true rfl⟩ hG.2.2.2.2.2.2.2.2.2 (hts (.initialized RX4) (by decide +kernel)) (hts (.instanceMethod yX4_init) (by decide +kernel)) rfl (by decide +kernel) (q_r _ _) (q_l _ _) (q_nd2 _ _) ⟨rfl, rfl, Nat.le_of_ble_eq_true rfl, Nat.le_of_ble_eq_true rfl, Nat.le_of_ble_eq_true rfl⟩ dX8_init_122 (fun u_34 H locs hw hP hD hS => ?_)
  obtain ⟨hP, hD⟩ := cv (w' := ([(h0, .inr (6, [.ref q_1, .ref q_4, .int 0, .ref q_5, .ref q_8, .ref q_9, .ref q_10, .ref q_13, .ref q_14, .ref q_15, .ref q_16, .ref q_17]))] : va_W) ++ (tapeZ k q_1 u_2 ++ (([(q_4, hcR k 6 (va_up (va_up (va_up (va_up (va_up (fun _ => none) 0 (some q_18)) 1 (some q_21)) 2 (some q_24)) 3 (some q_27)) 4 (some q_30)))] : va_W) ++ (standZ k q_5 u_6 ++ (([(q_8, hcS k 4 (fun _ => none)), (q_9, hcZ k 4 (fun _ => 0))] : va_W) ++ (roomZ k q_10 u_11 ++ (([(q_13, hcZ k 256 (fun _ => 0)), (q_14, hcI k 4 (fun _ => 0)), (q_15, hcI k 4 (fun _ => 0)), (q_16, hcI k 61 (fun _ => 0)), (q_17, hcI k 24 (fun _ => 0))] : va_W) ++ (ruleZ k q_18 u_19 ++ (ruleZ k q_21 u_22 ++ (ruleZ k q_24 u_25 ++ (ruleZ k q_27 u_28 ++ (ruleZ k q_30 u_31 ++ (ruleZ k q_33 u_34))))))))))))) hP hD rfl
  refine va_astq hx hb hG.1 hP hD hS 6 4 71 3 rfl rfl rfl rfl (by unfold vp_in; decide) dX8_init_125 (fun H locs hP hD hS => ?_)
  obtain ⟨hP, hD⟩ := cv (w' := ([(h0, .inr (6, [.ref q_1, .ref q_4, .int 0, .ref q_5, .ref q_8, .ref q_9, .ref q_10, .ref q_13, .ref q_14, .ref q_15, .ref q_16, .ref q_17]))] : va_W) ++ (tapeZ k q_1 u_2 ++ (([(q_4, hcR k 6 (va_up (va_up (va_up (va_up (va_up (va_up (fun _ => none) 0 (some q_18)) 1 (some q_21)) 2 (some q_24)) 3 (some q_27)) 4 (some q_30)) 5 (some q_33)))] : va_W) ++ (standZ k q_5 u_6 ++ (([(q_8, hcS k 4 (fun _ => none)), (q_9, hcZ k 4 (fun _ => 0))] : va_W) ++ (roomZ k q_10 u_11 ++ (([(q_13, hcZ k 256 (fun _ => 0)), (q_14, hcI k 4 (fun _ => 0)), (q_15, hcI k 4 (fun _ => 0)), (q_16, hcI k 61 (fun _ => 0)), (q_17, hcI k 24 (fun _ => 0))] : va_W) ++ (ruleZ k q_18 u_19 ++ (ruleZ k q_21 u_22 ++ (ruleZ k q_24 u_25 ++ (ruleZ k q_27 u_28 ++ (ruleZ k q_30 u_31 ++ (ruleZ k q_33 u_34))))))))))))) hP hD rfl
  refine lv_iinc (v := 6) (lv' := [(1, .int 6), (0, .ref h0)]) hx hb dX8_init_126 hl (k := 0) rfl (by decide) (by decide) rfl (fun ls hl => ?_)
  refine lv_goto (tgt := 107) hx hb dX8_init_129 (by decide) ?_
  refine lv_iload_n hx hb dX8_init_107 rfl (lv_at hl 0 rfl) ?_
  refine lv_bipush (v := 6) hx hb dX8_init_108 (by decide) ?_
  refine lv_icmp_ge (tgt := 132) hx hb dX8_init_110 (by decide) (fun _ => ?_) (fun h => absurd (by decide) h)
  refine lv_iconst (v := 0) hx hb dX8_init_132 (by decide) ?_
  refine lv_istore_n (lv' := [(1, .int 0), (0, .ref h0)]) hx hb dX8_init_133 rfl hl (by decide) rfl (fun ls hl => ?_)
  refine lv_iload_n hx hb dX8_init_134 rfl (lv_at hl 0 rfl) ?_
  refine lv_iconst (v := 4) hx hb dX8_init_135 (by decide) ?_
  refine lv_icmp_ge (tgt := 158) hx hb dX8_init_136 (by decide) (fun h => absurd h (by decide)) (fun _ => ?_)
  refine lv_aload_n hx hb dX8_init_139 rfl (lv_at hl 1 rfl) ?_
  refine va_get (D := D) (ci := 6) (v := .ref q_8) (C := RX8) (T := TX8) (N := 12) hx hb hts in8 hown hG.1 hP 0 rfl rfl 4 (by decide) (hts (.fieldLink RX8 33 "ChairCane" "images" "[LChairCane$Standing;") (by decide +kernel)) (fun _ h9 => h9) rfl dX8_init_140 ?_
  refine lv_iload_n hx hb dX8_init_143 rfl (lv_at hl 0 rfl) ?_
  refine va_new (ci := 4) (fs := [.null, .null, .null, .int 0, .int 0]) (C := RX6) (T := TX6) (N := 5) hx hb hts in6 tyX6 tyX6_ok hown (hts (.classLink RX8 26 RX6) (by decide +kernel)) (hts (.instantiable RX6 5) (by decide +kernel)) (hts (.initialized RX6) (by decide +kernel)) hG.1 hP hD hS hA rfl (fun j hj => match j, hj with | 0, _ => rfl | 1, _ => rfl | 2, _ => rfl | 3, _ => rfl | 4, _ => rfl | n + 5, h => absurd h (by omega)) (Nat.le_of_ble_eq_true rfl) (Nat.le_of_ble_eq_true rfl) dX8_init_144 (fun q_36 H hP hD hS => ?_)
  refine lv_dup hx hb dX8_init_147 rfl ?_
  refine hc_N (As := []) (rest := [.ref q_36, .int 0, .ref q_8]) (n := 0) (host := RX8) hx hb hml hown hts hG hA hP hD hS hl.1 _ _ (c_X6_init l D k _ q_36) gX8_init_X6_init_n28 rfl ⟨rfl, rfl, Nat.le_of_ble_eq_true rfl, Nat.le_of_ble_eq_true rfl⟩ hG.2.2.2.2.1 (hts (.initialized RX6) (by decide +kernel)) (hts (.instanceMethod yX6_init) (by decide +kernel)) rfl (by decide +kernel) (q_r _ _) (q_l _ _) (q_nd2 _ _) ⟨rfl, rfl, Nat.le_of_ble_eq_true rfl, Nat.le_of_ble_eq_true rfl, Nat.le_of_ble_eq_true rfl⟩ dX8_init_148 (fun u_37 H locs hw hP hD hS => ?_)
  obtain ⟨hP, hD⟩ := cv (w' := ([(h0, .inr (6, [.ref q_1, .ref q_4, .int 0, .ref q_5, .ref q_8, .ref q_9, .ref q_10, .ref q_13, .ref q_14, .ref q_15, .ref q_16, .ref q_17]))] : va_W) ++ (tapeZ k q_1 u_2 ++ (([(q_4, hcR k 6 (va_up (va_up (va_up (va_up (va_up (va_up (fun _ => none) 0 (some q_18)) 1 (some q_21)) 2 (some q_24)) 3 (some q_27)) 4 (some q_30)) 5 (some q_33)))] : va_W) ++ (standZ k q_5 u_6 ++ (([(q_8, hcS k 4 (fun _ => none)), (q_9, hcZ k 4 (fun _ => 0))] : va_W) ++ (roomZ k q_10 u_11 ++ (([(q_13, hcZ k 256 (fun _ => 0)), (q_14, hcI k 4 (fun _ => 0)), (q_15, hcI k 4 (fun _ => 0)), (q_16, hcI k 61 (fun _ => 0)), (q_17, hcI k 24 (fun _ => 0))] : va_W) ++ (ruleZ k q_18 u_19 ++ (ruleZ k q_21 u_22 ++ (ruleZ k q_24 u_25 ++ (ruleZ k q_27 u_28 ++ (ruleZ k q_30 u_31 ++ (ruleZ k q_33 u_34 ++ (standZ k q_36 u_37)))))))))))))) hP hD rfl
  refine va_astq hx hb hG.1 hP hD hS 25 5 77 4 rfl rfl rfl rfl (by unfold vp_in; decide) dX8_init_151 (fun H locs hP hD hS => ?_)
  obtain ⟨hP, hD⟩ := cv (w' := ([(h0, .inr (6, [.ref q_1, .ref q_4, .int 0, .ref q_5, .ref q_8, .ref q_9, .ref q_10, .ref q_13, .ref q_14, .ref q_15, .ref q_16, .ref q_17]))] : va_W) ++ (tapeZ k q_1 u_2 ++ (([(q_4, hcR k 6 (va_up (va_up (va_up (va_up (va_up (va_up (fun _ => none) 0 (some q_18)) 1 (some q_21)) 2 (some q_24)) 3 (some q_27)) 4 (some q_30)) 5 (some q_33)))] : va_W) ++ (standZ k q_5 u_6 ++ (([(q_8, hcS k 4 (va_up (fun _ => none) 0 (some q_36))), (q_9, hcZ k 4 (fun _ => 0))] : va_W) ++ (roomZ k q_10 u_11 ++ (([(q_13, hcZ k 256 (fun _ => 0)), (q_14, hcI k 4 (fun _ => 0)), (q_15, hcI k 4 (fun _ => 0)), (q_16, hcI k 61 (fun _ => 0)), (q_17, hcI k 24 (fun _ => 0))] : va_W) ++ (ruleZ k q_18 u_19 ++ (ruleZ k q_21 u_22 ++ (ruleZ k q_24 u_25 ++ (ruleZ k q_27 u_28 ++ (ruleZ k q_30 u_31 ++ (ruleZ k q_33 u_34 ++ (standZ k q_36 u_37)))))))))))))) hP hD rfl
  refine lv_iinc (v := 1) (lv' := [(1, .int 1), (0, .ref h0)]) hx hb dX8_init_152 hl (k := 0) rfl (by decide) (by decide) rfl (fun ls hl => ?_)
  refine lv_goto (tgt := 134) hx hb dX8_init_155 (by decide) ?_
  refine lv_iload_n hx hb dX8_init_134 rfl (lv_at hl 0 rfl) ?_
  refine lv_iconst (v := 4) hx hb dX8_init_135 (by decide) ?_
  refine lv_icmp_ge (tgt := 158) hx hb dX8_init_136 (by decide) (fun h => absurd h (by decide)) (fun _ => ?_)
  refine lv_aload_n hx hb dX8_init_139 rfl (lv_at hl 1 rfl) ?_
  refine va_get (D := D) (ci := 6) (v := .ref q_8) (C := RX8) (T := TX8) (N := 12) hx hb hts in8 hown hG.1 hP 0 rfl rfl 4 (by decide) (hts (.fieldLink RX8 33 "ChairCane" "images" "[LChairCane$Standing;") (by decide +kernel)) (fun _ h9 => h9) rfl dX8_init_140 ?_
  refine lv_iload_n hx hb dX8_init_143 rfl (lv_at hl 0 rfl) ?_
  refine va_new (ci := 4) (fs := [.null, .null, .null, .int 0, .int 0]) (C := RX6) (T := TX6) (N := 5) hx hb hts in6 tyX6 tyX6_ok hown (hts (.classLink RX8 26 RX6) (by decide +kernel)) (hts (.instantiable RX6 5) (by decide +kernel)) (hts (.initialized RX6) (by decide +kernel)) hG.1 hP hD hS hA rfl (fun j hj => match j, hj with | 0, _ => rfl | 1, _ => rfl | 2, _ => rfl | 3, _ => rfl | 4, _ => rfl | n + 5, h => absurd h (by omega)) (Nat.le_of_ble_eq_true rfl) (Nat.le_of_ble_eq_true rfl) dX8_init_144 (fun q_39 H hP hD hS => ?_)
  refine lv_dup hx hb dX8_init_147 rfl ?_
  refine hc_N (As := []) (rest := [.ref q_39, .int 1, .ref q_8]) (n := 0) (host := RX8) hx hb hml hown hts hG hA hP hD hS hl.1 _ _ (c_X6_init l D k _ q_39) gX8_init_X6_init_n28 rfl ⟨rfl, rfl, Nat.le_of_ble_eq_true rfl, Nat.le_of_ble_eq_true rfl⟩ hG.2.2.2.2.1 (hts (.initialized RX6) (by decide +kernel)) (hts (.instanceMethod yX6_init) (by decide +kernel)) rfl (by decide +kernel) (q_r _ _) (q_l _ _) (q_nd2 _ _) ⟨rfl, rfl, Nat.le_of_ble_eq_true rfl, Nat.le_of_ble_eq_true rfl, Nat.le_of_ble_eq_true rfl⟩ dX8_init_148 (fun u_40 H locs hw hP hD hS => ?_)
  obtain ⟨hP, hD⟩ := cv (w' := ([(h0, .inr (6, [.ref q_1, .ref q_4, .int 0, .ref q_5, .ref q_8, .ref q_9, .ref q_10, .ref q_13, .ref q_14, .ref q_15, .ref q_16, .ref q_17]))] : va_W) ++ (tapeZ k q_1 u_2 ++ (([(q_4, hcR k 6 (va_up (va_up (va_up (va_up (va_up (va_up (fun _ => none) 0 (some q_18)) 1 (some q_21)) 2 (some q_24)) 3 (some q_27)) 4 (some q_30)) 5 (some q_33)))] : va_W) ++ (standZ k q_5 u_6 ++ (([(q_8, hcS k 4 (va_up (fun _ => none) 0 (some q_36))), (q_9, hcZ k 4 (fun _ => 0))] : va_W) ++ (roomZ k q_10 u_11 ++ (([(q_13, hcZ k 256 (fun _ => 0)), (q_14, hcI k 4 (fun _ => 0)), (q_15, hcI k 4 (fun _ => 0)), (q_16, hcI k 61 (fun _ => 0)), (q_17, hcI k 24 (fun _ => 0))] : va_W) ++ (ruleZ k q_18 u_19 ++ (ruleZ k q_21 u_22 ++ (ruleZ k q_24 u_25 ++ (ruleZ k q_27 u_28 ++ (ruleZ k q_30 u_31 ++ (ruleZ k q_33 u_34 ++ (standZ k q_36 u_37 ++ (standZ k q_39 u_40))))))))))))))) hP hD rfl
  refine va_astq hx hb hG.1 hP hD hS 25 5 95 4 rfl rfl rfl rfl (by unfold vp_in; decide) dX8_init_151 (fun H locs hP hD hS => ?_)
  obtain ⟨hP, hD⟩ := cv (w' := ([(h0, .inr (6, [.ref q_1, .ref q_4, .int 0, .ref q_5, .ref q_8, .ref q_9, .ref q_10, .ref q_13, .ref q_14, .ref q_15, .ref q_16, .ref q_17]))] : va_W) ++ (tapeZ k q_1 u_2 ++ (([(q_4, hcR k 6 (va_up (va_up (va_up (va_up (va_up (va_up (fun _ => none) 0 (some q_18)) 1 (some q_21)) 2 (some q_24)) 3 (some q_27)) 4 (some q_30)) 5 (some q_33)))] : va_W) ++ (standZ k q_5 u_6 ++ (([(q_8, hcS k 4 (va_up (va_up (fun _ => none) 0 (some q_36)) 1 (some q_39))), (q_9, hcZ k 4 (fun _ => 0))] : va_W) ++ (roomZ k q_10 u_11 ++ (([(q_13, hcZ k 256 (fun _ => 0)), (q_14, hcI k 4 (fun _ => 0)), (q_15, hcI k 4 (fun _ => 0)), (q_16, hcI k 61 (fun _ => 0)), (q_17, hcI k 24 (fun _ => 0))] : va_W) ++ (ruleZ k q_18 u_19 ++ (ruleZ k q_21 u_22 ++ (ruleZ k q_24 u_25 ++ (ruleZ k q_27 u_28 ++ (ruleZ k q_30 u_31 ++ (ruleZ k q_33 u_34 ++ (standZ k q_36 u_37 ++ (standZ k q_39 u_40))))))))))))))) hP hD rfl
  refine lv_iinc (v := 2) (lv' := [(1, .int 2), (0, .ref h0)]) hx hb dX8_init_152 hl (k := 0) rfl (by decide) (by decide) rfl (fun ls hl => ?_)
  refine lv_goto (tgt := 134) hx hb dX8_init_155 (by decide) ?_
  refine lv_iload_n hx hb dX8_init_134 rfl (lv_at hl 0 rfl) ?_
  refine lv_iconst (v := 4) hx hb dX8_init_135 (by decide) ?_
  refine lv_icmp_ge (tgt := 158) hx hb dX8_init_136 (by decide) (fun h => absurd h (by decide)) (fun _ => ?_)
  refine lv_aload_n hx hb dX8_init_139 rfl (lv_at hl 1 rfl) ?_
  refine va_get (D := D) (ci := 6) (v := .ref q_8) (C := RX8) (T := TX8) (N := 12) hx hb hts in8 hown hG.1 hP 0 rfl rfl 4 (by decide) (hts (.fieldLink RX8 33 "ChairCane" "images" "[LChairCane$Standing;") (by decide +kernel)) (fun _ h9 => h9) rfl dX8_init_140 ?_
  refine lv_iload_n hx hb dX8_init_143 rfl (lv_at hl 0 rfl) ?_
  refine va_new (ci := 4) (fs := [.null, .null, .null, .int 0, .int 0]) (C := RX6) (T := TX6) (N := 5) hx hb hts in6 tyX6 tyX6_ok hown (hts (.classLink RX8 26 RX6) (by decide +kernel)) (hts (.instantiable RX6 5) (by decide +kernel)) (hts (.initialized RX6) (by decide +kernel)) hG.1 hP hD hS hA rfl (fun j hj => match j, hj with | 0, _ => rfl | 1, _ => rfl | 2, _ => rfl | 3, _ => rfl | 4, _ => rfl | n + 5, h => absurd h (by omega)) (Nat.le_of_ble_eq_true rfl) (Nat.le_of_ble_eq_true rfl) dX8_init_144 (fun q_42 H hP hD hS => ?_)
  refine lv_dup hx hb dX8_init_147 rfl ?_
  refine hc_N (As := []) (rest := [.ref q_42, .int 2, .ref q_8]) (n := 0) (host := RX8) hx hb hml hown hts hG hA hP hD hS hl.1 _ _ (c_X6_init l D k _ q_42) gX8_init_X6_init_n28 rfl ⟨rfl, rfl, Nat.le_of_ble_eq_true rfl, Nat.le_of_ble_eq_true rfl⟩ hG.2.2.2.2.1 (hts (.initialized RX6) (by decide +kernel)) (hts (.instanceMethod yX6_init) (by decide +kernel)) rfl (by decide +kernel) (q_r _ _) (q_l _ _) (q_nd2 _ _) ⟨rfl, rfl, Nat.le_of_ble_eq_true rfl, Nat.le_of_ble_eq_true rfl, Nat.le_of_ble_eq_true rfl⟩ dX8_init_148 (fun u_43 H locs hw hP hD hS => ?_)
  obtain ⟨hP, hD⟩ := cv (w' := ([(h0, .inr (6, [.ref q_1, .ref q_4, .int 0, .ref q_5, .ref q_8, .ref q_9, .ref q_10, .ref q_13, .ref q_14, .ref q_15, .ref q_16, .ref q_17]))] : va_W) ++ (tapeZ k q_1 u_2 ++ (([(q_4, hcR k 6 (va_up (va_up (va_up (va_up (va_up (va_up (fun _ => none) 0 (some q_18)) 1 (some q_21)) 2 (some q_24)) 3 (some q_27)) 4 (some q_30)) 5 (some q_33)))] : va_W) ++ (standZ k q_5 u_6 ++ (([(q_8, hcS k 4 (va_up (va_up (fun _ => none) 0 (some q_36)) 1 (some q_39))), (q_9, hcZ k 4 (fun _ => 0))] : va_W) ++ (roomZ k q_10 u_11 ++ (([(q_13, hcZ k 256 (fun _ => 0)), (q_14, hcI k 4 (fun _ => 0)), (q_15, hcI k 4 (fun _ => 0)), (q_16, hcI k 61 (fun _ => 0)), (q_17, hcI k 24 (fun _ => 0))] : va_W) ++ (ruleZ k q_18 u_19 ++ (ruleZ k q_21 u_22 ++ (ruleZ k q_24 u_25 ++ (ruleZ k q_27 u_28 ++ (ruleZ k q_30 u_31 ++ (ruleZ k q_33 u_34 ++ (standZ k q_36 u_37 ++ (standZ k q_39 u_40 ++ (standZ k q_42 u_43)))))))))))))))) hP hD rfl
  refine va_astq hx hb hG.1 hP hD hS 25 5 113 4 rfl rfl rfl rfl (by unfold vp_in; decide) dX8_init_151 (fun H locs hP hD hS => ?_)
  obtain ⟨hP, hD⟩ := cv (w' := ([(h0, .inr (6, [.ref q_1, .ref q_4, .int 0, .ref q_5, .ref q_8, .ref q_9, .ref q_10, .ref q_13, .ref q_14, .ref q_15, .ref q_16, .ref q_17]))] : va_W) ++ (tapeZ k q_1 u_2 ++ (([(q_4, hcR k 6 (va_up (va_up (va_up (va_up (va_up (va_up (fun _ => none) 0 (some q_18)) 1 (some q_21)) 2 (some q_24)) 3 (some q_27)) 4 (some q_30)) 5 (some q_33)))] : va_W) ++ (standZ k q_5 u_6 ++ (([(q_8, hcS k 4 (va_up (va_up (va_up (fun _ => none) 0 (some q_36)) 1 (some q_39)) 2 (some q_42))), (q_9, hcZ k 4 (fun _ => 0))] : va_W) ++ (roomZ k q_10 u_11 ++ (([(q_13, hcZ k 256 (fun _ => 0)), (q_14, hcI k 4 (fun _ => 0)), (q_15, hcI k 4 (fun _ => 0)), (q_16, hcI k 61 (fun _ => 0)), (q_17, hcI k 24 (fun _ => 0))] : va_W) ++ (ruleZ k q_18 u_19 ++ (ruleZ k q_21 u_22 ++ (ruleZ k q_24 u_25 ++ (ruleZ k q_27 u_28 ++ (ruleZ k q_30 u_31 ++ (ruleZ k q_33 u_34 ++ (standZ k q_36 u_37 ++ (standZ k q_39 u_40 ++ (standZ k q_42 u_43)))))))))))))))) hP hD rfl
  refine lv_iinc (v := 3) (lv' := [(1, .int 3), (0, .ref h0)]) hx hb dX8_init_152 hl (k := 0) rfl (by decide) (by decide) rfl (fun ls hl => ?_)
  refine lv_goto (tgt := 134) hx hb dX8_init_155 (by decide) ?_
  refine lv_iload_n hx hb dX8_init_134 rfl (lv_at hl 0 rfl) ?_
  refine lv_iconst (v := 4) hx hb dX8_init_135 (by decide) ?_
  refine lv_icmp_ge (tgt := 158) hx hb dX8_init_136 (by decide) (fun h => absurd h (by decide)) (fun _ => ?_)
  refine lv_aload_n hx hb dX8_init_139 rfl (lv_at hl 1 rfl) ?_
  refine va_get (D := D) (ci := 6) (v := .ref q_8) (C := RX8) (T := TX8) (N := 12) hx hb hts in8 hown hG.1 hP 0 rfl rfl 4 (by decide) (hts (.fieldLink RX8 33 "ChairCane" "images" "[LChairCane$Standing;") (by decide +kernel)) (fun _ h9 => h9) rfl dX8_init_140 ?_
  refine lv_iload_n hx hb dX8_init_143 rfl (lv_at hl 0 rfl) ?_
  refine va_new (ci := 4) (fs := [.null, .null, .null, .int 0, .int 0]) (C := RX6) (T := TX6) (N := 5) hx hb hts in6 tyX6 tyX6_ok hown (hts (.classLink RX8 26 RX6) (by decide +kernel)) (hts (.instantiable RX6 5) (by decide +kernel)) (hts (.initialized RX6) (by decide +kernel)) hG.1 hP hD hS hA rfl (fun j hj => match j, hj with | 0, _ => rfl | 1, _ => rfl | 2, _ => rfl | 3, _ => rfl | 4, _ => rfl | n + 5, h => absurd h (by omega)) (Nat.le_of_ble_eq_true rfl) (Nat.le_of_ble_eq_true rfl) dX8_init_144 (fun q_45 H hP hD hS => ?_)
  refine lv_dup hx hb dX8_init_147 rfl ?_
  refine hc_N (As := []) (rest := [.ref q_45, .int 3, .ref q_8]) (n := 0) (host := RX8) hx hb hml hown hts hG hA hP hD hS hl.1 _ _ (c_X6_init l D k _ q_45) gX8_init_X6_init_n28 rfl ⟨rfl, rfl, Nat.le_of_ble_eq_true rfl, Nat.le_of_ble_eq_true rfl⟩ hG.2.2.2.2.1 (hts (.initialized RX6) (by decide +kernel)) (hts (.instanceMethod yX6_init) (by decide +kernel)) rfl (by decide +kernel) (q_r _ _) (q_l _ _) (q_nd2 _ _) ⟨rfl, rfl, Nat.le_of_ble_eq_true rfl, Nat.le_of_ble_eq_true rfl, Nat.le_of_ble_eq_true rfl⟩ dX8_init_148 (fun u_46 H locs hw hP hD hS => ?_)
  obtain ⟨hP, hD⟩ := cv (w' := ([(h0, .inr (6, [.ref q_1, .ref q_4, .int 0, .ref q_5, .ref q_8, .ref q_9, .ref q_10, .ref q_13, .ref q_14, .ref q_15, .ref q_16, .ref q_17]))] : va_W) ++ (tapeZ k q_1 u_2 ++ (([(q_4, hcR k 6 (va_up (va_up (va_up (va_up (va_up (va_up (fun _ => none) 0 (some q_18)) 1 (some q_21)) 2 (some q_24)) 3 (some q_27)) 4 (some q_30)) 5 (some q_33)))] : va_W) ++ (standZ k q_5 u_6 ++ (([(q_8, hcS k 4 (va_up (va_up (va_up (fun _ => none) 0 (some q_36)) 1 (some q_39)) 2 (some q_42))), (q_9, hcZ k 4 (fun _ => 0))] : va_W) ++ (roomZ k q_10 u_11 ++ (([(q_13, hcZ k 256 (fun _ => 0)), (q_14, hcI k 4 (fun _ => 0)), (q_15, hcI k 4 (fun _ => 0)), (q_16, hcI k 61 (fun _ => 0)), (q_17, hcI k 24 (fun _ => 0))] : va_W) ++ (ruleZ k q_18 u_19 ++ (ruleZ k q_21 u_22 ++ (ruleZ k q_24 u_25 ++ (ruleZ k q_27 u_28 ++ (ruleZ k q_30 u_31 ++ (ruleZ k q_33 u_34 ++ (standZ k q_36 u_37 ++ (standZ k q_39 u_40 ++ (standZ k q_42 u_43 ++ (standZ k q_45 u_46))))))))))))))))) hP hD rfl
  refine va_astq hx hb hG.1 hP hD hS 25 5 131 4 rfl rfl rfl rfl (by unfold vp_in; decide) dX8_init_151 (fun H locs hP hD hS => ?_)
  obtain ⟨hP, hD⟩ := cv (w' := ([(h0, .inr (6, [.ref q_1, .ref q_4, .int 0, .ref q_5, .ref q_8, .ref q_9, .ref q_10, .ref q_13, .ref q_14, .ref q_15, .ref q_16, .ref q_17]))] : va_W) ++ (tapeZ k q_1 u_2 ++ (([(q_4, hcR k 6 (va_up (va_up (va_up (va_up (va_up (va_up (fun _ => none) 0 (some q_18)) 1 (some q_21)) 2 (some q_24)) 3 (some q_27)) 4 (some q_30)) 5 (some q_33)))] : va_W) ++ (standZ k q_5 u_6 ++ (([(q_8, hcS k 4 (va_up (va_up (va_up (va_up (fun _ => none) 0 (some q_36)) 1 (some q_39)) 2 (some q_42)) 3 (some q_45))), (q_9, hcZ k 4 (fun _ => 0))] : va_W) ++ (roomZ k q_10 u_11 ++ (([(q_13, hcZ k 256 (fun _ => 0)), (q_14, hcI k 4 (fun _ => 0)), (q_15, hcI k 4 (fun _ => 0)), (q_16, hcI k 61 (fun _ => 0)), (q_17, hcI k 24 (fun _ => 0))] : va_W) ++ (ruleZ k q_18 u_19 ++ (ruleZ k q_21 u_22 ++ (ruleZ k q_24 u_25 ++ (ruleZ k q_27 u_28 ++ (ruleZ k q_30 u_31 ++ (ruleZ k q_33 u_34 ++ (standZ k q_36 u_37 ++ (standZ k q_39 u_40 ++ (standZ k q_42 u_43 ++ (standZ k q_45 u_46))))))))))))))))) hP hD rfl
  refine lv_iinc (v := 4) (lv' := [(1, .int 4), (0, .ref h0)]) hx hb dX8_init_152 hl (k := 0) rfl (by decide) (by decide) rfl (fun ls hl => ?_)
  refine lv_goto (tgt := 134) hx hb dX8_init_155 (by decide) ?_
  refine lv_iload_n hx hb dX8_init_134 rfl (lv_at hl 0 rfl) ?_
  refine lv_iconst (v := 4) hx hb dX8_init_135 (by decide) ?_
  refine lv_icmp_ge (tgt := 158) hx hb dX8_init_136 (by decide) (fun _ => ?_) (fun h => absurd (by decide) h)
  exact hc_endV hx hb hr hlocks ((fun i => [h0, q_1, q_4, q_5, q_8, q_9, q_10, q_13, q_14, q_15, q_16, q_17, (u_2 0), (u_2 1), (u_2 2), (u_2 3), (u_6 0), (u_6 1), (u_6 2), (u_6 3), (u_6 4), (u_6 5), (u_6 6), (u_6 7), (u_6 8), (u_6 9), (u_6 10), (u_6 11), (u_6 12), (u_6 13), (u_6 14), (u_6 15), (u_6 16), (u_11 0), (u_11 1), (u_11 2), (u_11 3), (u_11 4), (u_11 5), (u_11 6), (u_11 7)].getD i 0), (fun i => [q_18, (u_19 0), (u_19 1), (u_19 2), (u_19 3), (u_19 4), q_21, (u_22 0), (u_22 1), (u_22 2), (u_22 3), (u_22 4), q_24, (u_25 0), (u_25 1), (u_25 2), (u_25 3), (u_25 4), q_27, (u_28 0), (u_28 1), (u_28 2), (u_28 3), (u_28 4), q_30, (u_31 0), (u_31 1), (u_31 2), (u_31 3), (u_31 4), q_33, (u_34 0), (u_34 1), (u_34 2), (u_34 3), (u_34 4)].getD i 0), (fun i => [q_36, (u_37 0), (u_37 3), (u_37 4), (u_37 5), (u_37 6), (u_37 7), (u_37 8), (u_37 9), (u_37 10), (u_37 1), (u_37 11), (u_37 12), (u_37 13), (u_37 2), (u_37 14), (u_37 15), (u_37 16), q_39, (u_40 0), (u_40 3), (u_40 4), (u_40 5), (u_40 6), (u_40 7), (u_40 8), (u_40 9), (u_40 10), (u_40 1), (u_40 11), (u_40 12), (u_40 13), (u_40 2), (u_40 14), (u_40 15), (u_40 16), q_42, (u_43 0), (u_43 3), (u_43 4), (u_43 5), (u_43 6), (u_43 7), (u_43 8), (u_43 9), (u_43 10), (u_43 1), (u_43 11), (u_43 12), (u_43 13), (u_43 2), (u_43 14), (u_43 15), (u_43 16), q_45, (u_46 0), (u_46 3), (u_46 4), (u_46 5), (u_46 6), (u_46 7), (u_46 8), (u_46 9), (u_46 10), (u_46 1), (u_46 11), (u_46 12), (u_46 13), (u_46 2), (u_46 14), (u_46 15), (u_46 16)].getD i 0), (va_up (va_up (va_up (va_up (va_up (va_up (fun _ => none) 0 (some q_18)) 1 (some q_21)) 2 (some q_24)) 3 (some q_27)) 4 (some q_30)) 5 (some q_33)), (va_up (va_up (va_up (va_up (fun _ => none) 0 (some q_36)) 1 (some q_39)) 2 (some q_42)) 3 (some q_45))) ⟨rfl, (fun i hi => match i, hi with | 0, _ => rfl | 1, _ => rfl | 2, _ => rfl | 3, _ => rfl | 4, _ => rfl | 5, _ => rfl | n + 6, h => absurd h (by omega)), (fun i hi => match i, hi with | 0, _ => rfl | 1, _ => rfl | 2, _ => rfl | 3, _ => rfl | n + 4, h => absurd h (by omega))⟩ (hP.sub [0, 1, 2, 3, 4, 5, 6, 7, 8, 9, 10, 11, 12, 13, 14, 15, 16, 17, 18, 19, 20, 21, 22, 23, 24, 25, 26, 27, 28, 29, 30, 31, 32, 33, 34, 35, 36, 37, 38, 39, 40, 41, 42, 43, 44, 45, 46, 47, 48, 49, 50, 51, 52, 53, 54, 55, 56, 57, 58, 59, 60, 61, 62, 63, 64, 65, 66, 67, 68, 69, 70, 71, 72, 73, 74, 75, 76, 77, 78, 79, 80, 81, 82, 83, 84, 85, 86, 87, 88, 89, 90, 91, 92, 93, 94, 95, 96, 97, 98, 99, 100, 101, 102, 103, 104, 105, 106, 107, 108, 109, 110, 111, 112, 113, 114, 115, 116, 117, 118, 119, 120, 121, 122, 123, 124, 125, 126, 127, 128, 129, 130, 131, 132, 133, 134, 135, 136, 137, 138, 139, 140, 141, 142, 143, 144, 145, 146, 147, 148] rfl) (hD.sub [0, 1, 2, 3, 4, 5, 6, 7, 8, 9, 10, 11, 12, 13, 14, 15, 16, 17, 18, 19, 20, 21, 22, 23, 24, 25, 26, 27, 28, 29, 30, 31, 32, 33, 34, 35, 36, 37, 38, 39, 40, 41, 42, 43, 44, 45, 46, 47, 48, 49, 50, 51, 52, 53, 54, 55, 56, 57, 58, 59, 60, 61, 62, 63, 64, 65, 66, 67, 68, 69, 70, 71, 72, 73, 74, 75, 76, 77, 78, 79, 80, 81, 82, 83, 84, 85, 86, 87, 88, 89, 90, 91, 92, 93, 94, 95, 96, 97, 98, 99, 100, 101, 102, 103, 104, 105, 106, 107, 108, 109, 110, 111, 112, 113, 114, 115, 116, 117, 118, 119, 120, 121, 122, 123, 124, 125, 126, 127, 128, 129, 130, 131, 132, 133, 134, 135, 136, 137, 138, 139, 140, 141, 142, 143, 144, 145, 146, 147, 148] (by decide +kernel) rfl) hS dX8_init_158
end
section
/-! the reference's constructor -/
theorem dX9_init_0 : decode cX9_init 0 = .ok (.aload_n 0, 1) := of_0 ok_aload_n_0 (by decide +kernel)
theorem dX9_init_1 : decode cX9_init 1 = .ok (.invokespecial 3, 3) := of_u2 ok_invokespecial 0 3 (by decide +kernel)
theorem dX9_init_4 : decode cX9_init 4 = .ok (.aload_n 0, 1) := of_0 ok_aload_n_0 (by decide +kernel)
theorem dX9_init_5 : decode cX9_init 5 = .ok (.bipush 8, 2) := of_s1 ok_bipush 8 (by decide +kernel)
theorem dX9_init_7 : decode cX9_init 7 = .ok (.newarray .int, 2) := by decide +kernel
theorem dX9_init_9 : decode cX9_init 9 = .ok (.dup, 1) := of_0 ok_dup (by decide +kernel)
theorem dX9_init_10 : decode cX9_init 10 = .ok (.iconst 0, 1) := of_0 ok_iconst_0 (by decide +kernel)
theorem dX9_init_11 : decode cX9_init 11 = .ok (.iconst 0, 1) := of_0 ok_iconst_0 (by decide +kernel)
theorem dX9_init_12 : decode cX9_init 12 = .ok (.iastore, 1) := of_0 ok_iastore (by decide +kernel)
theorem dX9_init_13 : decode cX9_init 13 = .ok (.dup, 1) := of_0 ok_dup (by decide +kernel)
theorem dX9_init_14 : decode cX9_init 14 = .ok (.iconst 1, 1) := of_0 ok_iconst_1 (by decide +kernel)
theorem dX9_init_15 : decode cX9_init 15 = .ok (.iconst 0, 1) := of_0 ok_iconst_0 (by decide +kernel)
theorem dX9_init_16 : decode cX9_init 16 = .ok (.iastore, 1) := of_0 ok_iastore (by decide +kernel)
theorem dX9_init_17 : decode cX9_init 17 = .ok (.dup, 1) := of_0 ok_dup (by decide +kernel)
theorem dX9_init_18 : decode cX9_init 18 = .ok (.iconst 2, 1) := of_0 ok_iconst_2 (by decide +kernel)
theorem dX9_init_19 : decode cX9_init 19 = .ok (.iconst 0, 1) := of_0 ok_iconst_0 (by decide +kernel)
theorem dX9_init_20 : decode cX9_init 20 = .ok (.iastore, 1) := of_0 ok_iastore (by decide +kernel)
theorem dX9_init_21 : decode cX9_init 21 = .ok (.dup, 1) := of_0 ok_dup (by decide +kernel)
theorem dX9_init_22 : decode cX9_init 22 = .ok (.iconst 3, 1) := of_0 ok_iconst_3 (by decide +kernel)
theorem dX9_init_23 : decode cX9_init 23 = .ok (.iconst 0, 1) := of_0 ok_iconst_0 (by decide +kernel)
theorem dX9_init_24 : decode cX9_init 24 = .ok (.iastore, 1) := of_0 ok_iastore (by decide +kernel)
theorem dX9_init_25 : decode cX9_init 25 = .ok (.dup, 1) := of_0 ok_dup (by decide +kernel)
theorem dX9_init_26 : decode cX9_init 26 = .ok (.iconst 4, 1) := of_0 ok_iconst_4 (by decide +kernel)
theorem dX9_init_27 : decode cX9_init 27 = .ok (.iconst 0, 1) := of_0 ok_iconst_0 (by decide +kernel)
theorem dX9_init_28 : decode cX9_init 28 = .ok (.iastore, 1) := of_0 ok_iastore (by decide +kernel)
theorem dX9_init_29 : decode cX9_init 29 = .ok (.dup, 1) := of_0 ok_dup (by decide +kernel)
theorem dX9_init_30 : decode cX9_init 30 = .ok (.iconst 5, 1) := of_0 ok_iconst_5 (by decide +kernel)
theorem dX9_init_31 : decode cX9_init 31 = .ok (.iconst 0, 1) := of_0 ok_iconst_0 (by decide +kernel)
theorem dX9_init_32 : decode cX9_init 32 = .ok (.iastore, 1) := of_0 ok_iastore (by decide +kernel)
theorem dX9_init_33 : decode cX9_init 33 = .ok (.dup, 1) := of_0 ok_dup (by decide +kernel)
theorem dX9_init_34 : decode cX9_init 34 = .ok (.bipush 6, 2) := of_s1 ok_bipush 6 (by decide +kernel)
theorem dX9_init_36 : decode cX9_init 36 = .ok (.iconst 0, 1) := of_0 ok_iconst_0 (by decide +kernel)
theorem dX9_init_37 : decode cX9_init 37 = .ok (.iastore, 1) := of_0 ok_iastore (by decide +kernel)
theorem dX9_init_38 : decode cX9_init 38 = .ok (.dup, 1) := of_0 ok_dup (by decide +kernel)
theorem dX9_init_39 : decode cX9_init 39 = .ok (.bipush 7, 2) := of_s1 ok_bipush 7 (by decide +kernel)
theorem dX9_init_41 : decode cX9_init 41 = .ok (.iconst (-1), 1) := of_0 ok_iconst_m1 (by decide +kernel)
theorem dX9_init_42 : decode cX9_init 42 = .ok (.iastore, 1) := of_0 ok_iastore (by decide +kernel)
theorem dX9_init_43 : decode cX9_init 43 = .ok (.putfield 9, 3) := of_u2 ok_putfield 0 9 (by decide +kernel)
theorem dX9_init_46 : decode cX9_init 46 = .ok (.aload_n 0, 1) := of_0 ok_aload_n_0 (by decide +kernel)
theorem dX9_init_47 : decode cX9_init 47 = .ok (.iconst 4, 1) := of_0 ok_iconst_4 (by decide +kernel)
theorem dX9_init_48 : decode cX9_init 48 = .ok (.newarray .int, 2) := by decide +kernel
theorem dX9_init_50 : decode cX9_init 50 = .ok (.putfield 13, 3) := of_u2 ok_putfield 0 13 (by decide +kernel)
theorem dX9_init_53 : decode cX9_init 53 = .ok (.aload_n 0, 1) := of_0 ok_aload_n_0 (by decide +kernel)
theorem dX9_init_54 : decode cX9_init 54 = .ok (.bipush 8, 2) := of_s1 ok_bipush 8 (by decide +kernel)
theorem dX9_init_56 : decode cX9_init 56 = .ok (.newarray .int, 2) := by decide +kernel
theorem dX9_init_58 : decode cX9_init 58 = .ok (.putfield 16, 3) := of_u2 ok_putfield 0 16 (by decide +kernel)
theorem dX9_init_61 : decode cX9_init 61 = .ok (.aload_n 0, 1) := of_0 ok_aload_n_0 (by decide +kernel)
theorem dX9_init_62 : decode cX9_init 62 = .ok (.bipush 8, 2) := of_s1 ok_bipush 8 (by decide +kernel)
theorem dX9_init_64 : decode cX9_init 64 = .ok (.newarray .int, 2) := by decide +kernel
theorem dX9_init_66 : decode cX9_init 66 = .ok (.putfield 19, 3) := of_u2 ok_putfield 0 19 (by decide +kernel)
theorem dX9_init_69 : decode cX9_init 69 = .ok (.aload_n 0, 1) := of_0 ok_aload_n_0 (by decide +kernel)
theorem dX9_init_70 : decode cX9_init 70 = .ok (.bipush 8, 2) := of_s1 ok_bipush 8 (by decide +kernel)
theorem dX9_init_72 : decode cX9_init 72 = .ok (.newarray .int, 2) := by decide +kernel
theorem dX9_init_74 : decode cX9_init 74 = .ok (.putfield 22, 3) := of_u2 ok_putfield 0 22 (by decide +kernel)
theorem dX9_init_77 : decode cX9_init 77 = .ok (.aload_n 0, 1) := of_0 ok_aload_n_0 (by decide +kernel)
theorem dX9_init_78 : decode cX9_init 78 = .ok (.bipush 8, 2) := of_s1 ok_bipush 8 (by decide +kernel)
theorem dX9_init_80 : decode cX9_init 80 = .ok (.newarray .int, 2) := by decide +kernel
theorem dX9_init_82 : decode cX9_init 82 = .ok (.putfield 25, 3) := of_u2 ok_putfield 0 25 (by decide +kernel)
theorem dX9_init_85 : decode cX9_init 85 = .ok (.aload_n 0, 1) := of_0 ok_aload_n_0 (by decide +kernel)
theorem dX9_init_86 : decode cX9_init 86 = .ok (.bipush 8, 2) := of_s1 ok_bipush 8 (by decide +kernel)
theorem dX9_init_88 : decode cX9_init 88 = .ok (.newarray .int, 2) := by decide +kernel
theorem dX9_init_90 : decode cX9_init 90 = .ok (.putfield 28, 3) := of_u2 ok_putfield 0 28 (by decide +kernel)
theorem dX9_init_93 : decode cX9_init 93 = .ok (.aload_n 0, 1) := of_0 ok_aload_n_0 (by decide +kernel)
theorem dX9_init_94 : decode cX9_init 94 = .ok (.bipush 10, 2) := of_s1 ok_bipush 10 (by decide +kernel)
theorem dX9_init_96 : decode cX9_init 96 = .ok (.newarray .int, 2) := by decide +kernel
theorem dX9_init_98 : decode cX9_init 98 = .ok (.putfield 31, 3) := of_u2 ok_putfield 0 31 (by decide +kernel)
theorem dX9_init_101 : decode cX9_init 101 = .ok (.aload_n 0, 1) := of_0 ok_aload_n_0 (by decide +kernel)
theorem dX9_init_102 : decode cX9_init 102 = .ok (.bipush 10, 2) := of_s1 ok_bipush 10 (by decide +kernel)
theorem dX9_init_104 : decode cX9_init 104 = .ok (.newarray .int, 2) := by decide +kernel
theorem dX9_init_106 : decode cX9_init 106 = .ok (.putfield 34, 3) := of_u2 ok_putfield 0 34 (by decide +kernel)
theorem dX9_init_109 : decode cX9_init 109 = .ok (.aload_n 0, 1) := of_0 ok_aload_n_0 (by decide +kernel)
theorem dX9_init_110 : decode cX9_init 110 = .ok (.bipush 10, 2) := of_s1 ok_bipush 10 (by decide +kernel)
theorem dX9_init_112 : decode cX9_init 112 = .ok (.newarray .int, 2) := by decide +kernel
theorem dX9_init_114 : decode cX9_init 114 = .ok (.putfield 37, 3) := of_u2 ok_putfield 0 37 (by decide +kernel)
theorem dX9_init_117 : decode cX9_init 117 = .ok (.aload_n 0, 1) := of_0 ok_aload_n_0 (by decide +kernel)
theorem dX9_init_118 : decode cX9_init 118 = .ok (.iconst 4, 1) := of_0 ok_iconst_4 (by decide +kernel)
theorem dX9_init_119 : decode cX9_init 119 = .ok (.newarray .int, 2) := by decide +kernel
theorem dX9_init_121 : decode cX9_init 121 = .ok (.putfield 40, 3) := of_u2 ok_putfield 0 40 (by decide +kernel)
theorem dX9_init_124 : decode cX9_init 124 = .ok (.aload_n 0, 1) := of_0 ok_aload_n_0 (by decide +kernel)
theorem dX9_init_125 : decode cX9_init 125 = .ok (.iconst 4, 1) := of_0 ok_iconst_4 (by decide +kernel)
theorem dX9_init_126 : decode cX9_init 126 = .ok (.newarray .int, 2) := by decide +kernel
theorem dX9_init_128 : decode cX9_init 128 = .ok (.putfield 43, 3) := of_u2 ok_putfield 0 43 (by decide +kernel)
theorem dX9_init_131 : decode cX9_init 131 = .ok (.aload_n 0, 1) := of_0 ok_aload_n_0 (by decide +kernel)
theorem dX9_init_132 : decode cX9_init 132 = .ok (.iconst 4, 1) := of_0 ok_iconst_4 (by decide +kernel)
theorem dX9_init_133 : decode cX9_init 133 = .ok (.newarray .int, 2) := by decide +kernel
theorem dX9_init_135 : decode cX9_init 135 = .ok (.putfield 46, 3) := of_u2 ok_putfield 0 46 (by decide +kernel)
theorem dX9_init_138 : decode cX9_init 138 = .ok (.aload_n 0, 1) := of_0 ok_aload_n_0 (by decide +kernel)
theorem dX9_init_139 : decode cX9_init 139 = .ok (.bipush 8, 2) := of_s1 ok_bipush 8 (by decide +kernel)
theorem dX9_init_141 : decode cX9_init 141 = .ok (.newarray .int, 2) := by decide +kernel
theorem dX9_init_143 : decode cX9_init 143 = .ok (.putfield 49, 3) := of_u2 ok_putfield 0 49 (by decide +kernel)
theorem dX9_init_146 : decode cX9_init 146 = .ok (.aload_n 0, 1) := of_0 ok_aload_n_0 (by decide +kernel)
theorem dX9_init_147 : decode cX9_init 147 = .ok (.bipush 8, 2) := of_s1 ok_bipush 8 (by decide +kernel)
theorem dX9_init_149 : decode cX9_init 149 = .ok (.newarray .int, 2) := by decide +kernel
theorem dX9_init_151 : decode cX9_init 151 = .ok (.putfield 52, 3) := of_u2 ok_putfield 0 52 (by decide +kernel)
theorem dX9_init_154 : decode cX9_init 154 = .ok (.aload_n 0, 1) := of_0 ok_aload_n_0 (by decide +kernel)
theorem dX9_init_155 : decode cX9_init 155 = .ok (.bipush 8, 2) := of_s1 ok_bipush 8 (by decide +kernel)
theorem dX9_init_157 : decode cX9_init 157 = .ok (.newarray .int, 2) := by decide +kernel
theorem dX9_init_159 : decode cX9_init 159 = .ok (.putfield 55, 3) := of_u2 ok_putfield 0 55 (by decide +kernel)
theorem dX9_init_162 : decode cX9_init 162 = .ok (.aload_n 0, 1) := of_0 ok_aload_n_0 (by decide +kernel)
theorem dX9_init_163 : decode cX9_init 163 = .ok (.bipush 8, 2) := of_s1 ok_bipush 8 (by decide +kernel)
theorem dX9_init_165 : decode cX9_init 165 = .ok (.newarray .int, 2) := by decide +kernel
theorem dX9_init_167 : decode cX9_init 167 = .ok (.putfield 58, 3) := of_u2 ok_putfield 0 58 (by decide +kernel)
theorem dX9_init_170 : decode cX9_init 170 = .ok (.aload_n 0, 1) := of_0 ok_aload_n_0 (by decide +kernel)
theorem dX9_init_171 : decode cX9_init 171 = .ok (.bipush 11, 2) := of_s1 ok_bipush 11 (by decide +kernel)
theorem dX9_init_173 : decode cX9_init 173 = .ok (.putfield 61, 3) := of_u2 ok_putfield 0 61 (by decide +kernel)
theorem dX9_init_176 : decode cX9_init 176 = .ok (.aload_n 0, 1) := of_0 ok_aload_n_0 (by decide +kernel)
theorem dX9_init_177 : decode cX9_init 177 = .ok (.sipush 400, 3) := of_s2 ok_sipush 1 144 (by decide +kernel)
theorem dX9_init_180 : decode cX9_init 180 = .ok (.newarray .byte, 2) := by decide +kernel
theorem dX9_init_182 : decode cX9_init 182 = .ok (.putfield 65, 3) := of_u2 ok_putfield 0 65 (by decide +kernel)
theorem dX9_init_185 : decode cX9_init 185 = .ok (.aload_n 0, 1) := of_0 ok_aload_n_0 (by decide +kernel)
theorem dX9_init_186 : decode cX9_init 186 = .ok (.sipush 1800, 3) := of_s2 ok_sipush 7 8 (by decide +kernel)
theorem dX9_init_189 : decode cX9_init 189 = .ok (.newarray .int, 2) := by decide +kernel
theorem dX9_init_191 : decode cX9_init 191 = .ok (.putfield 69, 3) := of_u2 ok_putfield 0 69 (by decide +kernel)
theorem dX9_init_194 : decode cX9_init 194 = .ok (.aload_n 0, 1) := of_0 ok_aload_n_0 (by decide +kernel)
theorem dX9_init_195 : decode cX9_init 195 = .ok (.sipush 1800, 3) := of_s2 ok_sipush 7 8 (by decide +kernel)
theorem dX9_init_198 : decode cX9_init 198 = .ok (.newarray .int, 2) := by decide +kernel
theorem dX9_init_200 : decode cX9_init 200 = .ok (.putfield 72, 3) := of_u2 ok_putfield 0 72 (by decide +kernel)
theorem dX9_init_203 : decode cX9_init 203 = .ok (.aload_n 0, 1) := of_0 ok_aload_n_0 (by decide +kernel)
theorem dX9_init_204 : decode cX9_init 204 = .ok (.bipush 6, 2) := of_s1 ok_bipush 6 (by decide +kernel)
theorem dX9_init_206 : decode cX9_init 206 = .ok (.newarray .int, 2) := by decide +kernel
theorem dX9_init_208 : decode cX9_init 208 = .ok (.putfield 75, 3) := of_u2 ok_putfield 0 75 (by decide +kernel)
theorem dX9_init_211 : decode cX9_init 211 = .ok (.aload_n 0, 1) := of_0 ok_aload_n_0 (by decide +kernel)
theorem dX9_init_212 : decode cX9_init 212 = .ok (.bipush 72, 2) := of_s1 ok_bipush 72 (by decide +kernel)
theorem dX9_init_214 : decode cX9_init 214 = .ok (.newarray .int, 2) := by decide +kernel
theorem dX9_init_216 : decode cX9_init 216 = .ok (.putfield 78, 3) := of_u2 ok_putfield 0 78 (by decide +kernel)
theorem dX9_init_219 : decode cX9_init 219 = .ok (.aload_n 0, 1) := of_0 ok_aload_n_0 (by decide +kernel)
theorem dX9_init_220 : decode cX9_init 220 = .ok (.bipush 72, 2) := of_s1 ok_bipush 72 (by decide +kernel)
theorem dX9_init_222 : decode cX9_init 222 = .ok (.newarray .int, 2) := by decide +kernel
theorem dX9_init_224 : decode cX9_init 224 = .ok (.putfield 81, 3) := of_u2 ok_putfield 0 81 (by decide +kernel)
theorem dX9_init_227 : decode cX9_init 227 = .ok (.aload_n 0, 1) := of_0 ok_aload_n_0 (by decide +kernel)
theorem dX9_init_228 : decode cX9_init 228 = .ok (.bipush 72, 2) := of_s1 ok_bipush 72 (by decide +kernel)
theorem dX9_init_230 : decode cX9_init 230 = .ok (.newarray .int, 2) := by decide +kernel
theorem dX9_init_232 : decode cX9_init 232 = .ok (.putfield 84, 3) := of_u2 ok_putfield 0 84 (by decide +kernel)
theorem dX9_init_235 : decode cX9_init 235 = .ok (.aload_n 0, 1) := of_0 ok_aload_n_0 (by decide +kernel)
theorem dX9_init_236 : decode cX9_init 236 = .ok (.sipush 402, 3) := of_s2 ok_sipush 1 146 (by decide +kernel)
theorem dX9_init_239 : decode cX9_init 239 = .ok (.newarray .int, 2) := by decide +kernel
theorem dX9_init_241 : decode cX9_init 241 = .ok (.putfield 87, 3) := of_u2 ok_putfield 0 87 (by decide +kernel)
theorem dX9_init_244 : decode cX9_init 244 = .ok (.aload_n 0, 1) := of_0 ok_aload_n_0 (by decide +kernel)
theorem dX9_init_245 : decode cX9_init 245 = .ok (.bipush 11, 2) := of_s1 ok_bipush 11 (by decide +kernel)
theorem dX9_init_247 : decode cX9_init 247 = .ok (.newarray .long, 2) := by decide +kernel
theorem dX9_init_249 : decode cX9_init 249 = .ok (.putfield 90, 3) := of_u2 ok_putfield 0 90 (by decide +kernel)
theorem dX9_init_252 : decode cX9_init 252 = .ok (.aload_n 0, 1) := of_0 ok_aload_n_0 (by decide +kernel)
theorem dX9_init_253 : decode cX9_init 253 = .ok (.sipush 300, 3) := of_s2 ok_sipush 1 44 (by decide +kernel)
theorem dX9_init_256 : decode cX9_init 256 = .ok (.newarray .long, 2) := by decide +kernel
theorem dX9_init_258 : decode cX9_init 258 = .ok (.putfield 94, 3) := of_u2 ok_putfield 0 94 (by decide +kernel)
theorem dX9_init_261 : decode cX9_init 261 = .ok (.aload_n 0, 1) := of_0 ok_aload_n_0 (by decide +kernel)
theorem dX9_init_262 : decode cX9_init 262 = .ok (.bipush 8, 2) := of_s1 ok_bipush 8 (by decide +kernel)
theorem dX9_init_264 : decode cX9_init 264 = .ok (.newarray .int, 2) := by decide +kernel
theorem dX9_init_266 : decode cX9_init 266 = .ok (.dup, 1) := of_0 ok_dup (by decide +kernel)
theorem dX9_init_267 : decode cX9_init 267 = .ok (.iconst 0, 1) := of_0 ok_iconst_0 (by decide +kernel)
theorem dX9_init_268 : decode cX9_init 268 = .ok (.iconst (-1), 1) := of_0 ok_iconst_m1 (by decide +kernel)
theorem dX9_init_269 : decode cX9_init 269 = .ok (.iastore, 1) := of_0 ok_iastore (by decide +kernel)
theorem dX9_init_270 : decode cX9_init 270 = .ok (.dup, 1) := of_0 ok_dup (by decide +kernel)
theorem dX9_init_271 : decode cX9_init 271 = .ok (.iconst 1, 1) := of_0 ok_iconst_1 (by decide +kernel)
theorem dX9_init_272 : decode cX9_init 272 = .ok (.iconst (-1), 1) := of_0 ok_iconst_m1 (by decide +kernel)
theorem dX9_init_273 : decode cX9_init 273 = .ok (.iastore, 1) := of_0 ok_iastore (by decide +kernel)
theorem dX9_init_274 : decode cX9_init 274 = .ok (.dup, 1) := of_0 ok_dup (by decide +kernel)
theorem dX9_init_275 : decode cX9_init 275 = .ok (.iconst 2, 1) := of_0 ok_iconst_2 (by decide +kernel)
theorem dX9_init_276 : decode cX9_init 276 = .ok (.iconst (-1), 1) := of_0 ok_iconst_m1 (by decide +kernel)
theorem dX9_init_277 : decode cX9_init 277 = .ok (.iastore, 1) := of_0 ok_iastore (by decide +kernel)
theorem dX9_init_278 : decode cX9_init 278 = .ok (.dup, 1) := of_0 ok_dup (by decide +kernel)
theorem dX9_init_279 : decode cX9_init 279 = .ok (.iconst 3, 1) := of_0 ok_iconst_3 (by decide +kernel)
theorem dX9_init_280 : decode cX9_init 280 = .ok (.iconst (-1), 1) := of_0 ok_iconst_m1 (by decide +kernel)
theorem dX9_init_281 : decode cX9_init 281 = .ok (.iastore, 1) := of_0 ok_iastore (by decide +kernel)
theorem dX9_init_282 : decode cX9_init 282 = .ok (.dup, 1) := of_0 ok_dup (by decide +kernel)
theorem dX9_init_283 : decode cX9_init 283 = .ok (.iconst 4, 1) := of_0 ok_iconst_4 (by decide +kernel)
theorem dX9_init_284 : decode cX9_init 284 = .ok (.iconst (-1), 1) := of_0 ok_iconst_m1 (by decide +kernel)
theorem dX9_init_285 : decode cX9_init 285 = .ok (.iastore, 1) := of_0 ok_iastore (by decide +kernel)
theorem dX9_init_286 : decode cX9_init 286 = .ok (.dup, 1) := of_0 ok_dup (by decide +kernel)
theorem dX9_init_287 : decode cX9_init 287 = .ok (.iconst 5, 1) := of_0 ok_iconst_5 (by decide +kernel)
theorem dX9_init_288 : decode cX9_init 288 = .ok (.iconst (-1), 1) := of_0 ok_iconst_m1 (by decide +kernel)
theorem dX9_init_289 : decode cX9_init 289 = .ok (.iastore, 1) := of_0 ok_iastore (by decide +kernel)
theorem dX9_init_290 : decode cX9_init 290 = .ok (.dup, 1) := of_0 ok_dup (by decide +kernel)
theorem dX9_init_291 : decode cX9_init 291 = .ok (.bipush 6, 2) := of_s1 ok_bipush 6 (by decide +kernel)
theorem dX9_init_293 : decode cX9_init 293 = .ok (.iconst (-1), 1) := of_0 ok_iconst_m1 (by decide +kernel)
theorem dX9_init_294 : decode cX9_init 294 = .ok (.iastore, 1) := of_0 ok_iastore (by decide +kernel)
theorem dX9_init_295 : decode cX9_init 295 = .ok (.dup, 1) := of_0 ok_dup (by decide +kernel)
theorem dX9_init_296 : decode cX9_init 296 = .ok (.bipush 7, 2) := of_s1 ok_bipush 7 (by decide +kernel)
theorem dX9_init_298 : decode cX9_init 298 = .ok (.iconst (-1), 1) := of_0 ok_iconst_m1 (by decide +kernel)
theorem dX9_init_299 : decode cX9_init 299 = .ok (.iastore, 1) := of_0 ok_iastore (by decide +kernel)
theorem dX9_init_300 : decode cX9_init 300 = .ok (.putfield 97, 3) := of_u2 ok_putfield 0 97 (by decide +kernel)
theorem dX9_init_303 : decode cX9_init 303 = .ok (.aload_n 0, 1) := of_0 ok_aload_n_0 (by decide +kernel)
theorem dX9_init_304 : decode cX9_init 304 = .ok (.sipush 260, 3) := of_s2 ok_sipush 1 4 (by decide +kernel)
theorem dX9_init_307 : decode cX9_init 307 = .ok (.newarray .int, 2) := by decide +kernel
theorem dX9_init_309 : decode cX9_init 309 = .ok (.putfield 100, 3) := of_u2 ok_putfield 0 100 (by decide +kernel)
theorem dX9_init_312 : decode cX9_init 312 = .ok (.aload_n 0, 1) := of_0 ok_aload_n_0 (by decide +kernel)
theorem dX9_init_313 : decode cX9_init 313 = .ok (.iconst 1, 1) := of_0 ok_iconst_1 (by decide +kernel)
theorem dX9_init_314 : decode cX9_init 314 = .ok (.newarray .int, 2) := by decide +kernel
theorem dX9_init_316 : decode cX9_init 316 = .ok (.putfield 103, 3) := of_u2 ok_putfield 0 103 (by decide +kernel)
theorem dX9_init_319 : decode cX9_init 319 = .ok (.aload_n 0, 1) := of_0 ok_aload_n_0 (by decide +kernel)
theorem dX9_init_320 : decode cX9_init 320 = .ok (.sipush 256, 3) := of_s2 ok_sipush 1 0 (by decide +kernel)
theorem dX9_init_323 : decode cX9_init 323 = .ok (.newarray .boolean, 2) := by decide +kernel
theorem dX9_init_325 : decode cX9_init 325 = .ok (.putfield 106, 3) := of_u2 ok_putfield 0 106 (by decide +kernel)
theorem dX9_init_328 : decode cX9_init 328 = .ok (.aload_n 0, 1) := of_0 ok_aload_n_0 (by decide +kernel)
theorem dX9_init_329 : decode cX9_init 329 = .ok (.iconst 4, 1) := of_0 ok_iconst_4 (by decide +kernel)
theorem dX9_init_330 : decode cX9_init 330 = .ok (.newarray .int, 2) := by decide +kernel
theorem dX9_init_332 : decode cX9_init 332 = .ok (.putfield 110, 3) := of_u2 ok_putfield 0 110 (by decide +kernel)
theorem dX9_init_335 : decode cX9_init 335 = .ok (.aload_n 0, 1) := of_0 ok_aload_n_0 (by decide +kernel)
theorem dX9_init_336 : decode cX9_init 336 = .ok (.iconst 4, 1) := of_0 ok_iconst_4 (by decide +kernel)
theorem dX9_init_337 : decode cX9_init 337 = .ok (.newarray .int, 2) := by decide +kernel
theorem dX9_init_339 : decode cX9_init 339 = .ok (.putfield 113, 3) := of_u2 ok_putfield 0 113 (by decide +kernel)
theorem dX9_init_342 : decode cX9_init 342 = .ok (.aload_n 0, 1) := of_0 ok_aload_n_0 (by decide +kernel)
theorem dX9_init_343 : decode cX9_init 343 = .ok (.sipush 488, 3) := of_s2 ok_sipush 1 232 (by decide +kernel)
theorem dX9_init_346 : decode cX9_init 346 = .ok (.newarray .int, 2) := by decide +kernel
theorem dX9_init_348 : decode cX9_init 348 = .ok (.putfield 116, 3) := of_u2 ok_putfield 0 116 (by decide +kernel)
theorem dX9_init_351 : decode cX9_init 351 = .ok (.aload_n 0, 1) := of_0 ok_aload_n_0 (by decide +kernel)
theorem dX9_init_352 : decode cX9_init 352 = .ok (.bipush 56, 2) := of_s1 ok_bipush 56 (by decide +kernel)
theorem dX9_init_354 : decode cX9_init 354 = .ok (.newarray .int, 2) := by decide +kernel
theorem dX9_init_356 : decode cX9_init 356 = .ok (.putfield 119, 3) := of_u2 ok_putfield 0 119 (by decide +kernel)
theorem dX9_init_359 : decode cX9_init 359 = .ok (.aload_n 0, 1) := of_0 ok_aload_n_0 (by decide +kernel)
theorem dX9_init_360 : decode cX9_init 360 = .ok (.sipush 2000, 3) := of_s2 ok_sipush 7 208 (by decide +kernel)
theorem dX9_init_363 : decode cX9_init 363 = .ok (.newarray .int, 2) := by decide +kernel
theorem dX9_init_365 : decode cX9_init 365 = .ok (.putfield 122, 3) := of_u2 ok_putfield 0 122 (by decide +kernel)
theorem dX9_init_368 : decode cX9_init 368 = .ok (.aload_n 0, 1) := of_0 ok_aload_n_0 (by decide +kernel)
theorem dX9_init_369 : decode cX9_init 369 = .ok (.iconst 4, 1) := of_0 ok_iconst_4 (by decide +kernel)
theorem dX9_init_370 : decode cX9_init 370 = .ok (.newarray .boolean, 2) := by decide +kernel
theorem dX9_init_372 : decode cX9_init 372 = .ok (.putfield 125, 3) := of_u2 ok_putfield 0 125 (by decide +kernel)
theorem dX9_init_375 : decode cX9_init 375 = .ok (.return_, 1) := of_0 ok_return_ (by decide +kernel)
noncomputable def y0 : MZ := (fun j => [0, 0, 0, 0, 0, 0, 0, 0, 0, 0, 11, 0, 0, 0, 0, 0, 0, 0, 0, 0, 0, 0, 0, -1, 0, 0, 0, 0].getD j 0, ro8 [(fun _ => 0), (fun _ => 0), (fun _ => 0), (fun _ => 0), (fun _ => 0), (fun _ => 0), (fun _ => 0), (fun _ => 0), (fun _ => 0), (fun _ => 0), (fun _ => 0), (fun _ => 0), (fun _ => 0), (fun _ => 0), (fun _ => 0), (fun _ => 0), (fun _ => 0), (fun _ => 0), (fun _ => 0), (fun _ => 0), (fun _ => 0), (fun _ => 0), (fun _ => 0), (upd (upd (upd (upd (upd (upd (upd (upd (fun _ => 0) 0 (-1)) 1 (-1)) 2 (-1)) 3 (-1)) 4 (-1)) 5 (-1)) 6 (-1)) 7 (-1)), (fun _ => 0), (fun _ => 0), (fun _ => 0), (fun _ => 0), (fun _ => 0), (fun _ => 0), (fun _ => 0), (fun _ => 0), (fun _ => 0)], ro9 [(fun _ => 0), (fun _ => 0)])
set_option maxHeartbeats 4000000 in
set_option maxRecDepth 100000 in
theorem c_X9_init (l : Launch) (D : va_G) (k : Nat → ClassId) (sz : Nat) (h0 : Nat) : CtV l yX9_init wsX9_init (rmK 1 37 8142) [.ref h0] D k sz (([(h0, .inr (7, [.int 0, .null, .null, .null, .null, .null, .null, .null, .null, .null, .null, .null, .null, .null, .null, .null, .null, .null, .int 0, .int 0, .int 0, .int 0, .int 0, .int 0, .int 0, .int 0, .int 0, .int 0, .null, .null, .null, .null, .null, .null, .null, .null, .null, .null, .null, .null, .null, .int 0, .int 0, .int 0, .null, .null, .null, .null, .null, .null, .null, .int 0, .int 0]))] : va_W)) (fun v : Nat → Nat => v 0 = h0) (fun v : Nat → Nat => MW k v y0) 37 8142 := by
  refine CtV.mk (cc := cX9_init) (maxL := 1) (ret := none) (by decide) rfl (Nat.le_of_ble_eq_true rfl) ?_
  intro p e s m below meth c A ls E hP hD hS hl
  obtain ⟨hx, hb, hr, hml, hown, hts, hlocks, hin, hG, hA⟩ := E
  have hown : s.vm.findClass RX9 = some m.cls := hown
  have in9 : ∀ w ∈ u_ws RX9 TX9 53, w ∈ wsX9_init := fun _ h => List.mem_cons_of_mem _ (List.mem_append_right _ h)
  have hl : lv_has ls 1 [(0, .ref h0)] := hl
  refine lv_aload_n hx hb dX9_init_0 rfl (lv_at hl 0 rfl) ?_
  refine W.objInit hx hb hown (hts (.methodLink RX9 3 objectInit) (by decide +kernel)) (hts (.instanceMethod objectInit) (by decide +kernel)) (hts (.code objectInit ⟨#[0xb1]⟩ 1 none) (by decide +kernel)) rfl (by rw [hml]; exact hl.1) rfl dX9_init_1 (Nat.le_of_ble_eq_true rfl) (Nat.le_of_ble_eq_true rfl) ?_
  refine W.eq (g2 := F0 m 4 ls []) rfl ?_
  refine lv_aload_n hx hb dX9_init_4 rfl (lv_at hl 0 rfl) ?_
  refine lv_bipush (v := 8) hx hb dX9_init_5 (by decide) ?_
  refine hc_newI hx hb (hts (.arrayClass .int) (by decide +kernel)) hG hA hP hD hS 8 (by decide) ⟨Nat.le_of_ble_eq_true rfl, Nat.le_of_ble_eq_true rfl⟩ dX9_init_7 (fun q_1 H hP hD hS => ?_)
  obtain ⟨hP, hD⟩ := cv (w' := ([(h0, .inr (7, [.int 0, .null, .null, .null, .null, .null, .null, .null, .null, .null, .null, .null, .null, .null, .null, .null, .null, .null, .int 0, .int 0, .int 0, .int 0, .int 0, .int 0, .int 0, .int 0, .int 0, .int 0, .null, .null, .null, .null, .null, .null, .null, .null, .null, .null, .null, .null, .null, .int 0, .int 0, .int 0, .null, .null, .null, .null, .null, .null, .null, .int 0, .int 0])), (q_1, hcI k 8 (fun _ => 0))] : va_W)) hP hD rfl
  refine lv_dup hx hb dX9_init_9 rfl ?_
  refine lv_iconst (v := 0) hx hb dX9_init_10 (by decide) ?_
  refine lv_iconst (v := 0) hx hb dX9_init_11 (by decide) ?_
  refine va_iast hx hb hG.1 hP hD hS 1 0 rfl rfl (by unfold vp_in; decide) dX9_init_12 (fun H locs hP hD hS => ?_)
  refine lv_dup hx hb dX9_init_13 rfl ?_
  refine lv_iconst (v := 1) hx hb dX9_init_14 (by decide) ?_
  refine lv_iconst (v := 0) hx hb dX9_init_15 (by decide) ?_
  refine va_iast hx hb hG.1 hP hD hS 1 0 rfl rfl (by unfold vp_in; decide) dX9_init_16 (fun H locs hP hD hS => ?_)
  refine lv_dup hx hb dX9_init_17 rfl ?_
  refine lv_iconst (v := 2) hx hb dX9_init_18 (by decide) ?_
  refine lv_iconst (v := 0) hx hb dX9_init_19 (by decide) ?_
  refine va_iast hx hb hG.1 hP hD hS 1 0 rfl rfl (by unfold vp_in; decide) dX9_init_20 (fun H locs hP hD hS => ?_)
  refine lv_dup hx hb dX9_init_21 rfl ?_
  refine lv_iconst (v := 3) hx hb dX9_init_22 (by decide) ?_
  refine lv_iconst (v := 0) hx hb dX9_init_23 (by decide) ?_
  refine va_iast hx hb hG.1 hP hD hS 1 0 rfl rfl (by unfold vp_in; decide) dX9_init_24 (fun H locs hP hD hS => ?_)
  obtain ⟨hP, hD⟩ := cv (w' := ([(h0, .inr (7, [.int 0, .null, .null, .null, .null, .null, .null, .null, .null, .null, .null, .null, .null, .null, .null, .null, .null, .null, .int 0, .int 0, .int 0, .int 0, .int 0, .int 0, .int 0, .int 0, .int 0, .int 0, .null, .null, .null, .null, .null, .null, .null, .null, .null, .null, .null, .null, .null, .int 0, .int 0, .int 0, .null, .null, .null, .null, .null, .null, .null, .int 0, .int 0])), (q_1, hcI k 8 (upd (upd (upd (upd (fun _ => 0) 0 0) 1 0) 2 0) 3 0))] : va_W)) hP hD rfl
  refine lv_dup hx hb dX9_init_25 rfl ?_
  refine lv_iconst (v := 4) hx hb dX9_init_26 (by decide) ?_
  refine lv_iconst (v := 0) hx hb dX9_init_27 (by decide) ?_
  refine va_iast hx hb hG.1 hP hD hS 1 0 rfl rfl (by unfold vp_in; decide) dX9_init_28 (fun H locs hP hD hS => ?_)
  refine lv_dup hx hb dX9_init_29 rfl ?_
  refine lv_iconst (v := 5) hx hb dX9_init_30 (by decide) ?_
  refine lv_iconst (v := 0) hx hb dX9_init_31 (by decide) ?_
  refine va_iast hx hb hG.1 hP hD hS 1 0 rfl rfl (by unfold vp_in; decide) dX9_init_32 (fun H locs hP hD hS => ?_)
  refine lv_dup hx hb dX9_init_33 rfl ?_
  refine lv_bipush (v := 6) hx hb dX9_init_34 (by decide) ?_
  refine lv_iconst (v := 0) hx hb dX9_init_36 (by decide) ?_
  refine va_iast hx hb hG.1 hP hD hS 1 0 rfl rfl (by unfold vp_in; decide) dX9_init_37 (fun H locs hP hD hS => ?_)
  refine lv_dup hx hb dX9_init_38 rfl ?_
  refine lv_bipush (v := 7) hx hb dX9_init_39 (by decide) ?_
  refine lv_iconst (v := (-1)) hx hb dX9_init_41 (by decide) ?_
  refine va_iast hx hb hG.1 hP hD hS 1 0 rfl rfl (by unfold vp_in; decide) dX9_init_42 (fun H locs hP hD hS => ?_)
  obtain ⟨hP, hD⟩ := cv (w' := ([(h0, .inr (7, [.int 0, .null, .null, .null, .null, .null, .null, .null, .null, .null, .null, .null, .null, .null, .null, .null, .null, .null, .int 0, .int 0, .int 0, .int 0, .int 0, .int 0, .int 0, .int 0, .int 0, .int 0, .null, .null, .null, .null, .null, .null, .null, .null, .null, .null, .null, .null, .null, .int 0, .int 0, .int 0, .null, .null, .null, .null, .null, .null, .null, .int 0, .int 0])), (q_1, hcI k 8 (upd (upd (upd (upd (upd (upd (upd (upd (fun _ => 0) 0 0) 1 0) 2 0) 3 0) 4 0) 5 0) 6 0) 7 (-1)))] : va_W)) hP hD rfl
  refine va_putF (D := D) (ci := 7) (v := .ref q_1) (C := RX9) (T := TX9) (N := 53) hx hb hts in9 tyX9 tyX9_ok nmX9 hown hG.1 hP hD hS 0 rfl rfl 1 (by decide) (hts (.fieldLink RX9 9 "ChairCaneModel" "scalar" "[I") (by decide +kernel)) (fun _ h9 => h9) rfl hin rfl (tyX9_ok 1 (by decide)) rfl rfl (Nat.le_of_ble_eq_true rfl) dX9_init_43 (fun H locs hP hD hS => ?_)
  obtain ⟨hP, hD⟩ := cv (w' := ([(h0, .inr (7, [.int 0, .ref q_1, .null, .null, .null, .null, .null, .null, .null, .null, .null, .null, .null, .null, .null, .null, .null, .null, .int 0, .int 0, .int 0, .int 0, .int 0, .int 0, .int 0, .int 0, .int 0, .int 0, .null, .null, .null, .null, .null, .null, .null, .null, .null, .null, .null, .null, .null, .int 0, .int 0, .int 0, .null, .null, .null, .null, .null, .null, .null, .int 0, .int 0])), (q_1, hcI k 8 (upd (upd (upd (upd (upd (upd (upd (upd (fun _ => 0) 0 0) 1 0) 2 0) 3 0) 4 0) 5 0) 6 0) 7 (-1)))] : va_W)) hP hD rfl
  refine lv_aload_n hx hb dX9_init_46 rfl (lv_at hl 0 rfl) ?_
  refine lv_iconst (v := 4) hx hb dX9_init_47 (by decide) ?_
  refine hc_newI hx hb (hts (.arrayClass .int) (by decide +kernel)) hG hA hP hD hS 4 (by decide) ⟨Nat.le_of_ble_eq_true rfl, Nat.le_of_ble_eq_true rfl⟩ dX9_init_48 (fun q_10 H hP hD hS => ?_)
  refine va_putF (D := D) (ci := 7) (v := .ref q_10) (C := RX9) (T := TX9) (N := 53) hx hb hts in9 tyX9 tyX9_ok nmX9 hown hG.1 hP hD hS 0 rfl rfl 2 (by decide) (hts (.fieldLink RX9 13 "ChairCaneModel" "cane" "[I") (by decide +kernel)) (fun _ h9 => h9) rfl hin rfl (tyX9_ok 2 (by decide)) rfl rfl (Nat.le_of_ble_eq_true rfl) dX9_init_50 (fun H locs hP hD hS => ?_)
  obtain ⟨hP, hD⟩ := cv (w' := ([(h0, .inr (7, [.int 0, .ref q_1, .ref q_10, .null, .null, .null, .null, .null, .null, .null, .null, .null, .null, .null, .null, .null, .null, .null, .int 0, .int 0, .int 0, .int 0, .int 0, .int 0, .int 0, .int 0, .int 0, .int 0, .null, .null, .null, .null, .null, .null, .null, .null, .null, .null, .null, .null, .null, .int 0, .int 0, .int 0, .null, .null, .null, .null, .null, .null, .null, .int 0, .int 0])), (q_1, hcI k 8 (upd (upd (upd (upd (upd (upd (upd (upd (fun _ => 0) 0 0) 1 0) 2 0) 3 0) 4 0) 5 0) 6 0) 7 (-1))), (q_10, hcI k 4 (fun _ => 0))] : va_W)) hP hD rfl
  refine lv_aload_n hx hb dX9_init_53 rfl (lv_at hl 0 rfl) ?_
  refine lv_bipush (v := 8) hx hb dX9_init_54 (by decide) ?_
  refine hc_newI hx hb (hts (.arrayClass .int) (by decide +kernel)) hG hA hP hD hS 8 (by decide) ⟨Nat.le_of_ble_eq_true rfl, Nat.le_of_ble_eq_true rfl⟩ dX9_init_56 (fun q_11 H hP hD hS => ?_)
  refine va_putF (D := D) (ci := 7) (v := .ref q_11) (C := RX9) (T := TX9) (N := 53) hx hb hts in9 tyX9 tyX9_ok nmX9 hown hG.1 hP hD hS 0 rfl rfl 3 (by decide) (hts (.fieldLink RX9 16 "ChairCaneModel" "is" "[I") (by decide +kernel)) (fun _ h9 => h9) rfl hin rfl (tyX9_ok 3 (by decide)) rfl rfl (Nat.le_of_ble_eq_true rfl) dX9_init_58 (fun H locs hP hD hS => ?_)
  obtain ⟨hP, hD⟩ := cv (w' := ([(h0, .inr (7, [.int 0, .ref q_1, .ref q_10, .ref q_11, .null, .null, .null, .null, .null, .null, .null, .null, .null, .null, .null, .null, .null, .null, .int 0, .int 0, .int 0, .int 0, .int 0, .int 0, .int 0, .int 0, .int 0, .int 0, .null, .null, .null, .null, .null, .null, .null, .null, .null, .null, .null, .null, .null, .int 0, .int 0, .int 0, .null, .null, .null, .null, .null, .null, .null, .int 0, .int 0])), (q_1, hcI k 8 (upd (upd (upd (upd (upd (upd (upd (upd (fun _ => 0) 0 0) 1 0) 2 0) 3 0) 4 0) 5 0) 6 0) 7 (-1))), (q_10, hcI k 4 (fun _ => 0)), (q_11, hcI k 8 (fun _ => 0))] : va_W)) hP hD rfl
  refine lv_aload_n hx hb dX9_init_61 rfl (lv_at hl 0 rfl) ?_
  refine lv_bipush (v := 8) hx hb dX9_init_62 (by decide) ?_
  refine hc_newI hx hb (hts (.arrayClass .int) (by decide +kernel)) hG hA hP hD hS 8 (by decide) ⟨Nat.le_of_ble_eq_true rfl, Nat.le_of_ble_eq_true rfl⟩ dX9_init_64 (fun q_12 H hP hD hS => ?_)
  refine va_putF (D := D) (ci := 7) (v := .ref q_12) (C := RX9) (T := TX9) (N := 53) hx hb hts in9 tyX9 tyX9_ok nmX9 hown hG.1 hP hD hS 0 rfl rfl 4 (by decide) (hts (.fieldLink RX9 19 "ChairCaneModel" "strandOf" "[I") (by decide +kernel)) (fun _ h9 => h9) rfl hin rfl (tyX9_ok 4 (by decide)) rfl rfl (Nat.le_of_ble_eq_true rfl) dX9_init_66 (fun H locs hP hD hS => ?_)
  obtain ⟨hP, hD⟩ := cv (w' := ([(h0, .inr (7, [.int 0, .ref q_1, .ref q_10, .ref q_11, .ref q_12, .null, .null, .null, .null, .null, .null, .null, .null, .null, .null, .null, .null, .null, .int 0, .int 0, .int 0, .int 0, .int 0, .int 0, .int 0, .int 0, .int 0, .int 0, .null, .null, .null, .null, .null, .null, .null, .null, .null, .null, .null, .null, .null, .int 0, .int 0, .int 0, .null, .null, .null, .null, .null, .null, .null, .int 0, .int 0])), (q_1, hcI k 8 (upd (upd (upd (upd (upd (upd (upd (upd (fun _ => 0) 0 0) 1 0) 2 0) 3 0) 4 0) 5 0) 6 0) 7 (-1))), (q_10, hcI k 4 (fun _ => 0)), (q_11, hcI k 8 (fun _ => 0)), (q_12, hcI k 8 (fun _ => 0))] : va_W)) hP hD rfl
  refine lv_aload_n hx hb dX9_init_69 rfl (lv_at hl 0 rfl) ?_
  refine lv_bipush (v := 8) hx hb dX9_init_70 (by decide) ?_
  refine hc_newI hx hb (hts (.arrayClass .int) (by decide +kernel)) hG hA hP hD hS 8 (by decide) ⟨Nat.le_of_ble_eq_true rfl, Nat.le_of_ble_eq_true rfl⟩ dX9_init_72 (fun q_13 H hP hD hS => ?_)
  refine va_putF (D := D) (ci := 7) (v := .ref q_13) (C := RX9) (T := TX9) (N := 53) hx hb hts in9 tyX9 tyX9_ok nmX9 hown hG.1 hP hD hS 0 rfl rfl 5 (by decide) (hts (.fieldLink RX9 22 "ChairCaneModel" "weight" "[I") (by decide +kernel)) (fun _ h9 => h9) rfl hin rfl (tyX9_ok 5 (by decide)) rfl rfl (Nat.le_of_ble_eq_true rfl) dX9_init_74 (fun H locs hP hD hS => ?_)
  obtain ⟨hP, hD⟩ := cv (w' := ([(h0, .inr (7, [.int 0, .ref q_1, .ref q_10, .ref q_11, .ref q_12, .ref q_13, .null, .null, .null, .null, .null, .null, .null, .null, .null, .null, .null, .null, .int 0, .int 0, .int 0, .int 0, .int 0, .int 0, .int 0, .int 0, .int 0, .int 0, .null, .null, .null, .null, .null, .null, .null, .null, .null, .null, .null, .null, .null, .int 0, .int 0, .int 0, .null, .null, .null, .null, .null, .null, .null, .int 0, .int 0])), (q_1, hcI k 8 (upd (upd (upd (upd (upd (upd (upd (upd (fun _ => 0) 0 0) 1 0) 2 0) 3 0) 4 0) 5 0) 6 0) 7 (-1))), (q_10, hcI k 4 (fun _ => 0)), (q_11, hcI k 8 (fun _ => 0)), (q_12, hcI k 8 (fun _ => 0)), (q_13, hcI k 8 (fun _ => 0))] : va_W)) hP hD rfl
  refine lv_aload_n hx hb dX9_init_77 rfl (lv_at hl 0 rfl) ?_
  refine lv_bipush (v := 8) hx hb dX9_init_78 (by decide) ?_
  refine hc_newI hx hb (hts (.arrayClass .int) (by decide +kernel)) hG hA hP hD hS 8 (by decide) ⟨Nat.le_of_ble_eq_true rfl, Nat.le_of_ble_eq_true rfl⟩ dX9_init_80 (fun q_14 H hP hD hS => ?_)
  refine va_putF (D := D) (ci := 7) (v := .ref q_14) (C := RX9) (T := TX9) (N := 53) hx hb hts in9 tyX9 tyX9_ok nmX9 hown hG.1 hP hD hS 0 rfl rfl 6 (by decide) (hts (.fieldLink RX9 25 "ChairCaneModel" "height" "[I") (by decide +kernel)) (fun _ h9 => h9) rfl hin rfl (tyX9_ok 6 (by decide)) rfl rfl (Nat.le_of_ble_eq_true rfl) dX9_init_82 (fun H locs hP hD hS => ?_)
  obtain ⟨hP, hD⟩ := cv (w' := ([(h0, .inr (7, [.int 0, .ref q_1, .ref q_10, .ref q_11, .ref q_12, .ref q_13, .ref q_14, .null, .null, .null, .null, .null, .null, .null, .null, .null, .null, .null, .int 0, .int 0, .int 0, .int 0, .int 0, .int 0, .int 0, .int 0, .int 0, .int 0, .null, .null, .null, .null, .null, .null, .null, .null, .null, .null, .null, .null, .null, .int 0, .int 0, .int 0, .null, .null, .null, .null, .null, .null, .null, .int 0, .int 0])), (q_1, hcI k 8 (upd (upd (upd (upd (upd (upd (upd (upd (fun _ => 0) 0 0) 1 0) 2 0) 3 0) 4 0) 5 0) 6 0) 7 (-1))), (q_10, hcI k 4 (fun _ => 0)), (q_11, hcI k 8 (fun _ => 0)), (q_12, hcI k 8 (fun _ => 0)), (q_13, hcI k 8 (fun _ => 0)), (q_14, hcI k 8 (fun _ => 0))] : va_W)) hP hD rfl
  refine lv_aload_n hx hb dX9_init_85 rfl (lv_at hl 0 rfl) ?_
  refine lv_bipush (v := 8) hx hb dX9_init_86 (by decide) ?_
  refine hc_newI hx hb (hts (.arrayClass .int) (by decide +kernel)) hG hA hP hD hS 8 (by decide) ⟨Nat.le_of_ble_eq_true rfl, Nat.le_of_ble_eq_true rfl⟩ dX9_init_88 (fun q_15 H hP hD hS => ?_)
  refine va_putF (D := D) (ci := 7) (v := .ref q_15) (C := RX9) (T := TX9) (N := 53) hx hb hts in9 tyX9 tyX9_ok nmX9 hown hG.1 hP hD hS 0 rfl rfl 7 (by decide) (hts (.fieldLink RX9 28 "ChairCaneModel" "chairOf" "[I") (by decide +kernel)) (fun _ h9 => h9) rfl hin rfl (tyX9_ok 7 (by decide)) rfl rfl (Nat.le_of_ble_eq_true rfl) dX9_init_90 (fun H locs hP hD hS => ?_)
  obtain ⟨hP, hD⟩ := cv (w' := ([(h0, .inr (7, [.int 0, .ref q_1, .ref q_10, .ref q_11, .ref q_12, .ref q_13, .ref q_14, .ref q_15, .null, .null, .null, .null, .null, .null, .null, .null, .null, .null, .int 0, .int 0, .int 0, .int 0, .int 0, .int 0, .int 0, .int 0, .int 0, .int 0, .null, .null, .null, .null, .null, .null, .null, .null, .null, .null, .null, .null, .null, .int 0, .int 0, .int 0, .null, .null, .null, .null, .null, .null, .null, .int 0, .int 0])), (q_1, hcI k 8 (upd (upd (upd (upd (upd (upd (upd (upd (fun _ => 0) 0 0) 1 0) 2 0) 3 0) 4 0) 5 0) 6 0) 7 (-1))), (q_10, hcI k 4 (fun _ => 0)), (q_11, hcI k 8 (fun _ => 0)), (q_12, hcI k 8 (fun _ => 0)), (q_13, hcI k 8 (fun _ => 0)), (q_14, hcI k 8 (fun _ => 0)), (q_15, hcI k 8 (fun _ => 0))] : va_W)) hP hD rfl
  refine lv_aload_n hx hb dX9_init_93 rfl (lv_at hl 0 rfl) ?_
  refine lv_bipush (v := 10) hx hb dX9_init_94 (by decide) ?_
  refine hc_newI hx hb (hts (.arrayClass .int) (by decide +kernel)) hG hA hP hD hS 10 (by decide) ⟨Nat.le_of_ble_eq_true rfl, Nat.le_of_ble_eq_true rfl⟩ dX9_init_96 (fun q_16 H hP hD hS => ?_)
  refine va_putF (D := D) (ci := 7) (v := .ref q_16) (C := RX9) (T := TX9) (N := 53) hx hb hts in9 tyX9 tyX9_ok nmX9 hown hG.1 hP hD hS 0 rfl rfl 8 (by decide) (hts (.fieldLink RX9 31 "ChairCaneModel" "noteMinute" "[I") (by decide +kernel)) (fun _ h9 => h9) rfl hin rfl (tyX9_ok 8 (by decide)) rfl rfl (Nat.le_of_ble_eq_true rfl) dX9_init_98 (fun H locs hP hD hS => ?_)
  obtain ⟨hP, hD⟩ := cv (w' := ([(h0, .inr (7, [.int 0, .ref q_1, .ref q_10, .ref q_11, .ref q_12, .ref q_13, .ref q_14, .ref q_15, .ref q_16, .null, .null, .null, .null, .null, .null, .null, .null, .null, .int 0, .int 0, .int 0, .int 0, .int 0, .int 0, .int 0, .int 0, .int 0, .int 0, .null, .null, .null, .null, .null, .null, .null, .null, .null, .null, .null, .null, .null, .int 0, .int 0, .int 0, .null, .null, .null, .null, .null, .null, .null, .int 0, .int 0])), (q_1, hcI k 8 (upd (upd (upd (upd (upd (upd (upd (upd (fun _ => 0) 0 0) 1 0) 2 0) 3 0) 4 0) 5 0) 6 0) 7 (-1))), (q_10, hcI k 4 (fun _ => 0)), (q_11, hcI k 8 (fun _ => 0)), (q_12, hcI k 8 (fun _ => 0)), (q_13, hcI k 8 (fun _ => 0)), (q_14, hcI k 8 (fun _ => 0)), (q_15, hcI k 8 (fun _ => 0)), (q_16, hcI k 10 (fun _ => 0))] : va_W)) hP hD rfl
  refine lv_aload_n hx hb dX9_init_101 rfl (lv_at hl 0 rfl) ?_
  refine lv_bipush (v := 10) hx hb dX9_init_102 (by decide) ?_
  refine hc_newI hx hb (hts (.arrayClass .int) (by decide +kernel)) hG hA hP hD hS 10 (by decide) ⟨Nat.le_of_ble_eq_true rfl, Nat.le_of_ble_eq_true rfl⟩ dX9_init_104 (fun q_17 H hP hD hS => ?_)
  refine va_putF (D := D) (ci := 7) (v := .ref q_17) (C := RX9) (T := TX9) (N := 53) hx hb hts in9 tyX9 tyX9_ok nmX9 hown hG.1 hP hD hS 0 rfl rfl 9 (by decide) (hts (.fieldLink RX9 34 "ChairCaneModel" "noteWho" "[I") (by decide +kernel)) (fun _ h9 => h9) rfl hin rfl (tyX9_ok 9 (by decide)) rfl rfl (Nat.le_of_ble_eq_true rfl) dX9_init_106 (fun H locs hP hD hS => ?_)
  obtain ⟨hP, hD⟩ := cv (w' := ([(h0, .inr (7, [.int 0, .ref q_1, .ref q_10, .ref q_11, .ref q_12, .ref q_13, .ref q_14, .ref q_15, .ref q_16, .ref q_17, .null, .null, .null, .null, .null, .null, .null, .null, .int 0, .int 0, .int 0, .int 0, .int 0, .int 0, .int 0, .int 0, .int 0, .int 0, .null, .null, .null, .null, .null, .null, .null, .null, .null, .null, .null, .null, .null, .int 0, .int 0, .int 0, .null, .null, .null, .null, .null, .null, .null, .int 0, .int 0])), (q_1, hcI k 8 (upd (upd (upd (upd (upd (upd (upd (upd (fun _ => 0) 0 0) 1 0) 2 0) 3 0) 4 0) 5 0) 6 0) 7 (-1))), (q_10, hcI k 4 (fun _ => 0)), (q_11, hcI k 8 (fun _ => 0)), (q_12, hcI k 8 (fun _ => 0)), (q_13, hcI k 8 (fun _ => 0)), (q_14, hcI k 8 (fun _ => 0)), (q_15, hcI k 8 (fun _ => 0)), (q_16, hcI k 10 (fun _ => 0)), (q_17, hcI k 10 (fun _ => 0))] : va_W)) hP hD rfl
  refine lv_aload_n hx hb dX9_init_109 rfl (lv_at hl 0 rfl) ?_
  refine lv_bipush (v := 10) hx hb dX9_init_110 (by decide) ?_
  refine hc_newI hx hb (hts (.arrayClass .int) (by decide +kernel)) hG hA hP hD hS 10 (by decide) ⟨Nat.le_of_ble_eq_true rfl, Nat.le_of_ble_eq_true rfl⟩ dX9_init_112 (fun q_18 H hP hD hS => ?_)
  refine va_putF (D := D) (ci := 7) (v := .ref q_18) (C := RX9) (T := TX9) (N := 53) hx hb hts in9 tyX9 tyX9_ok nmX9 hown hG.1 hP hD hS 0 rfl rfl 10 (by decide) (hts (.fieldLink RX9 37 "ChairCaneModel" "noteIs" "[I") (by decide +kernel)) (fun _ h9 => h9) rfl hin rfl (tyX9_ok 10 (by decide)) rfl rfl (Nat.le_of_ble_eq_true rfl) dX9_init_114 (fun H locs hP hD hS => ?_)
  obtain ⟨hP, hD⟩ := cv (w' := ([(h0, .inr (7, [.int 0, .ref q_1, .ref q_10, .ref q_11, .ref q_12, .ref q_13, .ref q_14, .ref q_15, .ref q_16, .ref q_17, .ref q_18, .null, .null, .null, .null, .null, .null, .null, .int 0, .int 0, .int 0, .int 0, .int 0, .int 0, .int 0, .int 0, .int 0, .int 0, .null, .null, .null, .null, .null, .null, .null, .null, .null, .null, .null, .null, .null, .int 0, .int 0, .int 0, .null, .null, .null, .null, .null, .null, .null, .int 0, .int 0])), (q_1, hcI k 8 (upd (upd (upd (upd (upd (upd (upd (upd (fun _ => 0) 0 0) 1 0) 2 0) 3 0) 4 0) 5 0) 6 0) 7 (-1))), (q_10, hcI k 4 (fun _ => 0)), (q_11, hcI k 8 (fun _ => 0)), (q_12, hcI k 8 (fun _ => 0)), (q_13, hcI k 8 (fun _ => 0)), (q_14, hcI k 8 (fun _ => 0)), (q_15, hcI k 8 (fun _ => 0)), (q_16, hcI k 10 (fun _ => 0)), (q_17, hcI k 10 (fun _ => 0)), (q_18, hcI k 10 (fun _ => 0))] : va_W)) hP hD rfl
  refine lv_aload_n hx hb dX9_init_117 rfl (lv_at hl 0 rfl) ?_
  refine lv_iconst (v := 4) hx hb dX9_init_118 (by decide) ?_
  refine hc_newI hx hb (hts (.arrayClass .int) (by decide +kernel)) hG hA hP hD hS 4 (by decide) ⟨Nat.le_of_ble_eq_true rfl, Nat.le_of_ble_eq_true rfl⟩ dX9_init_119 (fun q_19 H hP hD hS => ?_)
  refine va_putF (D := D) (ci := 7) (v := .ref q_19) (C := RX9) (T := TX9) (N := 53) hx hb hts in9 tyX9 tyX9_ok nmX9 hown hG.1 hP hD hS 0 rfl rfl 11 (by decide) (hts (.fieldLink RX9 40 "ChairCaneModel" "toldCane" "[I") (by decide +kernel)) (fun _ h9 => h9) rfl hin rfl (tyX9_ok 11 (by decide)) rfl rfl (Nat.le_of_ble_eq_true rfl) dX9_init_121 (fun H locs hP hD hS => ?_)
  obtain ⟨hP, hD⟩ := cv (w' := ([(h0, .inr (7, [.int 0, .ref q_1, .ref q_10, .ref q_11, .ref q_12, .ref q_13, .ref q_14, .ref q_15, .ref q_16, .ref q_17, .ref q_18, .ref q_19, .null, .null, .null, .null, .null, .null, .int 0, .int 0, .int 0, .int 0, .int 0, .int 0, .int 0, .int 0, .int 0, .int 0, .null, .null, .null, .null, .null, .null, .null, .null, .null, .null, .null, .null, .null, .int 0, .int 0, .int 0, .null, .null, .null, .null, .null, .null, .null, .int 0, .int 0])), (q_1, hcI k 8 (upd (upd (upd (upd (upd (upd (upd (upd (fun _ => 0) 0 0) 1 0) 2 0) 3 0) 4 0) 5 0) 6 0) 7 (-1))), (q_10, hcI k 4 (fun _ => 0)), (q_11, hcI k 8 (fun _ => 0)), (q_12, hcI k 8 (fun _ => 0)), (q_13, hcI k 8 (fun _ => 0)), (q_14, hcI k 8 (fun _ => 0)), (q_15, hcI k 8 (fun _ => 0)), (q_16, hcI k 10 (fun _ => 0)), (q_17, hcI k 10 (fun _ => 0)), (q_18, hcI k 10 (fun _ => 0)), (q_19, hcI k 4 (fun _ => 0))] : va_W)) hP hD rfl
  refine lv_aload_n hx hb dX9_init_124 rfl (lv_at hl 0 rfl) ?_
  refine lv_iconst (v := 4) hx hb dX9_init_125 (by decide) ?_
  refine hc_newI hx hb (hts (.arrayClass .int) (by decide +kernel)) hG hA hP hD hS 4 (by decide) ⟨Nat.le_of_ble_eq_true rfl, Nat.le_of_ble_eq_true rfl⟩ dX9_init_126 (fun q_20 H hP hD hS => ?_)
  refine va_putF (D := D) (ci := 7) (v := .ref q_20) (C := RX9) (T := TX9) (N := 53) hx hb hts in9 tyX9 tyX9_ok nmX9 hown hG.1 hP hD hS 0 rfl rfl 12 (by decide) (hts (.fieldLink RX9 43 "ChairCaneModel" "newScalar" "[I") (by decide +kernel)) (fun _ h9 => h9) rfl hin rfl (tyX9_ok 12 (by decide)) rfl rfl (Nat.le_of_ble_eq_true rfl) dX9_init_128 (fun H locs hP hD hS => ?_)
  obtain ⟨hP, hD⟩ := cv (w' := ([(h0, .inr (7, [.int 0, .ref q_1, .ref q_10, .ref q_11, .ref q_12, .ref q_13, .ref q_14, .ref q_15, .ref q_16, .ref q_17, .ref q_18, .ref q_19, .ref q_20, .null, .null, .null, .null, .null, .int 0, .int 0, .int 0, .int 0, .int 0, .int 0, .int 0, .int 0, .int 0, .int 0, .null, .null, .null, .null, .null, .null, .null, .null, .null, .null, .null, .null, .null, .int 0, .int 0, .int 0, .null, .null, .null, .null, .null, .null, .null, .int 0, .int 0])), (q_1, hcI k 8 (upd (upd (upd (upd (upd (upd (upd (upd (fun _ => 0) 0 0) 1 0) 2 0) 3 0) 4 0) 5 0) 6 0) 7 (-1))), (q_10, hcI k 4 (fun _ => 0)), (q_11, hcI k 8 (fun _ => 0)), (q_12, hcI k 8 (fun _ => 0)), (q_13, hcI k 8 (fun _ => 0)), (q_14, hcI k 8 (fun _ => 0)), (q_15, hcI k 8 (fun _ => 0)), (q_16, hcI k 10 (fun _ => 0)), (q_17, hcI k 10 (fun _ => 0)), (q_18, hcI k 10 (fun _ => 0)), (q_19, hcI k 4 (fun _ => 0)), (q_20, hcI k 4 (fun _ => 0))] : va_W)) hP hD rfl
  refine lv_aload_n hx hb dX9_init_131 rfl (lv_at hl 0 rfl) ?_
  refine lv_iconst (v := 4) hx hb dX9_init_132 (by decide) ?_
  refine hc_newI hx hb (hts (.arrayClass .int) (by decide +kernel)) hG hA hP hD hS 4 (by decide) ⟨Nat.le_of_ble_eq_true rfl, Nat.le_of_ble_eq_true rfl⟩ dX9_init_133 (fun q_21 H hP hD hS => ?_)
  refine va_putF (D := D) (ci := 7) (v := .ref q_21) (C := RX9) (T := TX9) (N := 53) hx hb hts in9 tyX9 tyX9_ok nmX9 hown hG.1 hP hD hS 0 rfl rfl 13 (by decide) (hts (.fieldLink RX9 46 "ChairCaneModel" "newCane" "[I") (by decide +kernel)) (fun _ h9 => h9) rfl hin rfl (tyX9_ok 13 (by decide)) rfl rfl (Nat.le_of_ble_eq_true rfl) dX9_init_135 (fun H locs hP hD hS => ?_)
  obtain ⟨hP, hD⟩ := cv (w' := ([(h0, .inr (7, [.int 0, .ref q_1, .ref q_10, .ref q_11, .ref q_12, .ref q_13, .ref q_14, .ref q_15, .ref q_16, .ref q_17, .ref q_18, .ref q_19, .ref q_20, .ref q_21, .null, .null, .null, .null, .int 0, .int 0, .int 0, .int 0, .int 0, .int 0, .int 0, .int 0, .int 0, .int 0, .null, .null, .null, .null, .null, .null, .null, .null, .null, .null, .null, .null, .null, .int 0, .int 0, .int 0, .null, .null, .null, .null, .null, .null, .null, .int 0, .int 0])), (q_1, hcI k 8 (upd (upd (upd (upd (upd (upd (upd (upd (fun _ => 0) 0 0) 1 0) 2 0) 3 0) 4 0) 5 0) 6 0) 7 (-1))), (q_10, hcI k 4 (fun _ => 0)), (q_11, hcI k 8 (fun _ => 0)), (q_12, hcI k 8 (fun _ => 0)), (q_13, hcI k 8 (fun _ => 0)), (q_14, hcI k 8 (fun _ => 0)), (q_15, hcI k 8 (fun _ => 0)), (q_16, hcI k 10 (fun _ => 0)), (q_17, hcI k 10 (fun _ => 0)), (q_18, hcI k 10 (fun _ => 0)), (q_19, hcI k 4 (fun _ => 0)), (q_20, hcI k 4 (fun _ => 0)), (q_21, hcI k 4 (fun _ => 0))] : va_W)) hP hD rfl
  refine lv_aload_n hx hb dX9_init_138 rfl (lv_at hl 0 rfl) ?_
  refine lv_bipush (v := 8) hx hb dX9_init_139 (by decide) ?_
  refine hc_newI hx hb (hts (.arrayClass .int) (by decide +kernel)) hG hA hP hD hS 8 (by decide) ⟨Nat.le_of_ble_eq_true rfl, Nat.le_of_ble_eq_true rfl⟩ dX9_init_141 (fun q_22 H hP hD hS => ?_)
  refine va_putF (D := D) (ci := 7) (v := .ref q_22) (C := RX9) (T := TX9) (N := 53) hx hb hts in9 tyX9 tyX9_ok nmX9 hown hG.1 hP hD hS 0 rfl rfl 14 (by decide) (hts (.fieldLink RX9 49 "ChairCaneModel" "newHeight" "[I") (by decide +kernel)) (fun _ h9 => h9) rfl hin rfl (tyX9_ok 14 (by decide)) rfl rfl (Nat.le_of_ble_eq_true rfl) dX9_init_143 (fun H locs hP hD hS => ?_)
  obtain ⟨hP, hD⟩ := cv (w' := ([(h0, .inr (7, [.int 0, .ref q_1, .ref q_10, .ref q_11, .ref q_12, .ref q_13, .ref q_14, .ref q_15, .ref q_16, .ref q_17, .ref q_18, .ref q_19, .ref q_20, .ref q_21, .ref q_22, .null, .null, .null, .int 0, .int 0, .int 0, .int 0, .int 0, .int 0, .int 0, .int 0, .int 0, .int 0, .null, .null, .null, .null, .null, .null, .null, .null, .null, .null, .null, .null, .null, .int 0, .int 0, .int 0, .null, .null, .null, .null, .null, .null, .null, .int 0, .int 0])), (q_1, hcI k 8 (upd (upd (upd (upd (upd (upd (upd (upd (fun _ => 0) 0 0) 1 0) 2 0) 3 0) 4 0) 5 0) 6 0) 7 (-1))), (q_10, hcI k 4 (fun _ => 0)), (q_11, hcI k 8 (fun _ => 0)), (q_12, hcI k 8 (fun _ => 0)), (q_13, hcI k 8 (fun _ => 0)), (q_14, hcI k 8 (fun _ => 0)), (q_15, hcI k 8 (fun _ => 0)), (q_16, hcI k 10 (fun _ => 0)), (q_17, hcI k 10 (fun _ => 0)), (q_18, hcI k 10 (fun _ => 0)), (q_19, hcI k 4 (fun _ => 0)), (q_20, hcI k 4 (fun _ => 0)), (q_21, hcI k 4 (fun _ => 0)), (q_22, hcI k 8 (fun _ => 0))] : va_W)) hP hD rfl
  refine lv_aload_n hx hb dX9_init_146 rfl (lv_at hl 0 rfl) ?_
  refine lv_bipush (v := 8) hx hb dX9_init_147 (by decide) ?_
  refine hc_newI hx hb (hts (.arrayClass .int) (by decide +kernel)) hG hA hP hD hS 8 (by decide) ⟨Nat.le_of_ble_eq_true rfl, Nat.le_of_ble_eq_true rfl⟩ dX9_init_149 (fun q_23 H hP hD hS => ?_)
  refine va_putF (D := D) (ci := 7) (v := .ref q_23) (C := RX9) (T := TX9) (N := 53) hx hb hts in9 tyX9 tyX9_ok nmX9 hown hG.1 hP hD hS 0 rfl rfl 15 (by decide) (hts (.fieldLink RX9 52 "ChairCaneModel" "newStrand" "[I") (by decide +kernel)) (fun _ h9 => h9) rfl hin rfl (tyX9_ok 15 (by decide)) rfl rfl (Nat.le_of_ble_eq_true rfl) dX9_init_151 (fun H locs hP hD hS => ?_)
  obtain ⟨hP, hD⟩ := cv (w' := ([(h0, .inr (7, [.int 0, .ref q_1, .ref q_10, .ref q_11, .ref q_12, .ref q_13, .ref q_14, .ref q_15, .ref q_16, .ref q_17, .ref q_18, .ref q_19, .ref q_20, .ref q_21, .ref q_22, .ref q_23, .null, .null, .int 0, .int 0, .int 0, .int 0, .int 0, .int 0, .int 0, .int 0, .int 0, .int 0, .null, .null, .null, .null, .null, .null, .null, .null, .null, .null, .null, .null, .null, .int 0, .int 0, .int 0, .null, .null, .null, .null, .null, .null, .null, .int 0, .int 0])), (q_1, hcI k 8 (upd (upd (upd (upd (upd (upd (upd (upd (fun _ => 0) 0 0) 1 0) 2 0) 3 0) 4 0) 5 0) 6 0) 7 (-1))), (q_10, hcI k 4 (fun _ => 0)), (q_11, hcI k 8 (fun _ => 0)), (q_12, hcI k 8 (fun _ => 0)), (q_13, hcI k 8 (fun _ => 0)), (q_14, hcI k 8 (fun _ => 0)), (q_15, hcI k 8 (fun _ => 0)), (q_16, hcI k 10 (fun _ => 0)), (q_17, hcI k 10 (fun _ => 0)), (q_18, hcI k 10 (fun _ => 0)), (q_19, hcI k 4 (fun _ => 0)), (q_20, hcI k 4 (fun _ => 0)), (q_21, hcI k 4 (fun _ => 0)), (q_22, hcI k 8 (fun _ => 0)), (q_23, hcI k 8 (fun _ => 0))] : va_W)) hP hD rfl
  refine lv_aload_n hx hb dX9_init_154 rfl (lv_at hl 0 rfl) ?_
  refine lv_bipush (v := 8) hx hb dX9_init_155 (by decide) ?_
  refine hc_newI hx hb (hts (.arrayClass .int) (by decide +kernel)) hG hA hP hD hS 8 (by decide) ⟨Nat.le_of_ble_eq_true rfl, Nat.le_of_ble_eq_true rfl⟩ dX9_init_157 (fun q_24 H hP hD hS => ?_)
  refine va_putF (D := D) (ci := 7) (v := .ref q_24) (C := RX9) (T := TX9) (N := 53) hx hb hts in9 tyX9 tyX9_ok nmX9 hown hG.1 hP hD hS 0 rfl rfl 16 (by decide) (hts (.fieldLink RX9 55 "ChairCaneModel" "newChair" "[I") (by decide +kernel)) (fun _ h9 => h9) rfl hin rfl (tyX9_ok 16 (by decide)) rfl rfl (Nat.le_of_ble_eq_true rfl) dX9_init_159 (fun H locs hP hD hS => ?_)
  obtain ⟨hP, hD⟩ := cv (w' := ([(h0, .inr (7, [.int 0, .ref q_1, .ref q_10, .ref q_11, .ref q_12, .ref q_13, .ref q_14, .ref q_15, .ref q_16, .ref q_17, .ref q_18, .ref q_19, .ref q_20, .ref q_21, .ref q_22, .ref q_23, .ref q_24, .null, .int 0, .int 0, .int 0, .int 0, .int 0, .int 0, .int 0, .int 0, .int 0, .int 0, .null, .null, .null, .null, .null, .null, .null, .null, .null, .null, .null, .null, .null, .int 0, .int 0, .int 0, .null, .null, .null, .null, .null, .null, .null, .int 0, .int 0])), (q_1, hcI k 8 (upd (upd (upd (upd (upd (upd (upd (upd (fun _ => 0) 0 0) 1 0) 2 0) 3 0) 4 0) 5 0) 6 0) 7 (-1))), (q_10, hcI k 4 (fun _ => 0)), (q_11, hcI k 8 (fun _ => 0)), (q_12, hcI k 8 (fun _ => 0)), (q_13, hcI k 8 (fun _ => 0)), (q_14, hcI k 8 (fun _ => 0)), (q_15, hcI k 8 (fun _ => 0)), (q_16, hcI k 10 (fun _ => 0)), (q_17, hcI k 10 (fun _ => 0)), (q_18, hcI k 10 (fun _ => 0)), (q_19, hcI k 4 (fun _ => 0)), (q_20, hcI k 4 (fun _ => 0)), (q_21, hcI k 4 (fun _ => 0)), (q_22, hcI k 8 (fun _ => 0)), (q_23, hcI k 8 (fun _ => 0)), (q_24, hcI k 8 (fun _ => 0))] : va_W)) hP hD rfl
  refine lv_aload_n hx hb dX9_init_162 rfl (lv_at hl 0 rfl) ?_
  refine lv_bipush (v := 8) hx hb dX9_init_163 (by decide) ?_
  refine hc_newI hx hb (hts (.arrayClass .int) (by decide +kernel)) hG hA hP hD hS 8 (by decide) ⟨Nat.le_of_ble_eq_true rfl, Nat.le_of_ble_eq_true rfl⟩ dX9_init_165 (fun q_25 H hP hD hS => ?_)
  refine va_putF (D := D) (ci := 7) (v := .ref q_25) (C := RX9) (T := TX9) (N := 53) hx hb hts in9 tyX9 tyX9_ok nmX9 hown hG.1 hP hD hS 0 rfl rfl 17 (by decide) (hts (.fieldLink RX9 58 "ChairCaneModel" "newWeight" "[I") (by decide +kernel)) (fun _ h9 => h9) rfl hin rfl (tyX9_ok 17 (by decide)) rfl rfl (Nat.le_of_ble_eq_true rfl) dX9_init_167 (fun H locs hP hD hS => ?_)
  obtain ⟨hP, hD⟩ := cv (w' := ([(h0, .inr (7, [.int 0, .ref q_1, .ref q_10, .ref q_11, .ref q_12, .ref q_13, .ref q_14, .ref q_15, .ref q_16, .ref q_17, .ref q_18, .ref q_19, .ref q_20, .ref q_21, .ref q_22, .ref q_23, .ref q_24, .ref q_25, .int 0, .int 0, .int 0, .int 0, .int 0, .int 0, .int 0, .int 0, .int 0, .int 0, .null, .null, .null, .null, .null, .null, .null, .null, .null, .null, .null, .null, .null, .int 0, .int 0, .int 0, .null, .null, .null, .null, .null, .null, .null, .int 0, .int 0])), (q_1, hcI k 8 (upd (upd (upd (upd (upd (upd (upd (upd (fun _ => 0) 0 0) 1 0) 2 0) 3 0) 4 0) 5 0) 6 0) 7 (-1))), (q_10, hcI k 4 (fun _ => 0)), (q_11, hcI k 8 (fun _ => 0)), (q_12, hcI k 8 (fun _ => 0)), (q_13, hcI k 8 (fun _ => 0)), (q_14, hcI k 8 (fun _ => 0)), (q_15, hcI k 8 (fun _ => 0)), (q_16, hcI k 10 (fun _ => 0)), (q_17, hcI k 10 (fun _ => 0)), (q_18, hcI k 10 (fun _ => 0)), (q_19, hcI k 4 (fun _ => 0)), (q_20, hcI k 4 (fun _ => 0)), (q_21, hcI k 4 (fun _ => 0)), (q_22, hcI k 8 (fun _ => 0)), (q_23, hcI k 8 (fun _ => 0)), (q_24, hcI k 8 (fun _ => 0)), (q_25, hcI k 8 (fun _ => 0))] : va_W)) hP hD rfl
  refine lv_aload_n hx hb dX9_init_170 rfl (lv_at hl 0 rfl) ?_
  refine lv_bipush (v := 11) hx hb dX9_init_171 (by decide) ?_
  refine va_put (D := D) (ci := 7) (v := .int 11) (C := RX9) (T := TX9) (N := 53) hx hb hts in9 tyX9 tyX9_ok nmX9 hown hG.1 hP hD hS 0 rfl rfl 27 (by decide) (hts (.fieldLink RX9 61 "ChairCaneModel" "words" "I") (by decide +kernel)) (fun _ h9 => h9) rfl (tyX9_ok 27 (by decide)) rfl rfl (Nat.le_of_ble_eq_true rfl) dX9_init_173 (fun H locs hP hD hS => ?_)
  obtain ⟨hP, hD⟩ := cv (w' := ([(h0, .inr (7, [.int 0, .ref q_1, .ref q_10, .ref q_11, .ref q_12, .ref q_13, .ref q_14, .ref q_15, .ref q_16, .ref q_17, .ref q_18, .ref q_19, .ref q_20, .ref q_21, .ref q_22, .ref q_23, .ref q_24, .ref q_25, .int 0, .int 0, .int 0, .int 0, .int 0, .int 0, .int 0, .int 0, .int 0, .int 11, .null, .null, .null, .null, .null, .null, .null, .null, .null, .null, .null, .null, .null, .int 0, .int 0, .int 0, .null, .null, .null, .null, .null, .null, .null, .int 0, .int 0])), (q_1, hcI k 8 (upd (upd (upd (upd (upd (upd (upd (upd (fun _ => 0) 0 0) 1 0) 2 0) 3 0) 4 0) 5 0) 6 0) 7 (-1))), (q_10, hcI k 4 (fun _ => 0)), (q_11, hcI k 8 (fun _ => 0)), (q_12, hcI k 8 (fun _ => 0)), (q_13, hcI k 8 (fun _ => 0)), (q_14, hcI k 8 (fun _ => 0)), (q_15, hcI k 8 (fun _ => 0)), (q_16, hcI k 10 (fun _ => 0)), (q_17, hcI k 10 (fun _ => 0)), (q_18, hcI k 10 (fun _ => 0)), (q_19, hcI k 4 (fun _ => 0)), (q_20, hcI k 4 (fun _ => 0)), (q_21, hcI k 4 (fun _ => 0)), (q_22, hcI k 8 (fun _ => 0)), (q_23, hcI k 8 (fun _ => 0)), (q_24, hcI k 8 (fun _ => 0)), (q_25, hcI k 8 (fun _ => 0))] : va_W)) hP hD rfl
  refine lv_aload_n hx hb dX9_init_176 rfl (lv_at hl 0 rfl) ?_
  refine lv_sipush (v := 400) hx hb dX9_init_177 (by decide) ?_
  refine hc_newB hx hb (hts (.arrayClass .byte) (by decide +kernel)) hG hA hP hD hS 400 (by decide) ⟨Nat.le_of_ble_eq_true rfl, Nat.le_of_ble_eq_true rfl⟩ dX9_init_180 (fun q_26 H hP hD hS => ?_)
  refine va_putF (D := D) (ci := 7) (v := .ref q_26) (C := RX9) (T := TX9) (N := 53) hx hb hts in9 tyX9 tyX9_ok nmX9 hown hG.1 hP hD hS 0 rfl rfl 28 (by decide) (hts (.fieldLink RX9 65 "ChairCaneModel" "tape" "[B") (by decide +kernel)) (fun _ h9 => h9) rfl hin rfl (tyX9_ok 28 (by decide)) rfl rfl (Nat.le_of_ble_eq_true rfl) dX9_init_182 (fun H locs hP hD hS => ?_)
  obtain ⟨hP, hD⟩ := cv (w' := ([(h0, .inr (7, [.int 0, .ref q_1, .ref q_10, .ref q_11, .ref q_12, .ref q_13, .ref q_14, .ref q_15, .ref q_16, .ref q_17, .ref q_18, .ref q_19, .ref q_20, .ref q_21, .ref q_22, .ref q_23, .ref q_24, .ref q_25, .int 0, .int 0, .int 0, .int 0, .int 0, .int 0, .int 0, .int 0, .int 0, .int 11, .ref q_26, .null, .null, .null, .null, .null, .null, .null, .null, .null, .null, .null, .null, .int 0, .int 0, .int 0, .null, .null, .null, .null, .null, .null, .null, .int 0, .int 0])), (q_1, hcI k 8 (upd (upd (upd (upd (upd (upd (upd (upd (fun _ => 0) 0 0) 1 0) 2 0) 3 0) 4 0) 5 0) 6 0) 7 (-1))), (q_10, hcI k 4 (fun _ => 0)), (q_11, hcI k 8 (fun _ => 0)), (q_12, hcI k 8 (fun _ => 0)), (q_13, hcI k 8 (fun _ => 0)), (q_14, hcI k 8 (fun _ => 0)), (q_15, hcI k 8 (fun _ => 0)), (q_16, hcI k 10 (fun _ => 0)), (q_17, hcI k 10 (fun _ => 0)), (q_18, hcI k 10 (fun _ => 0)), (q_19, hcI k 4 (fun _ => 0)), (q_20, hcI k 4 (fun _ => 0)), (q_21, hcI k 4 (fun _ => 0)), (q_22, hcI k 8 (fun _ => 0)), (q_23, hcI k 8 (fun _ => 0)), (q_24, hcI k 8 (fun _ => 0)), (q_25, hcI k 8 (fun _ => 0)), (q_26, hcY k 400 (fun _ => 0))] : va_W)) hP hD rfl
  refine lv_aload_n hx hb dX9_init_185 rfl (lv_at hl 0 rfl) ?_
  refine lv_sipush (v := 1800) hx hb dX9_init_186 (by decide) ?_
  refine hc_newI hx hb (hts (.arrayClass .int) (by decide +kernel)) hG hA hP hD hS 1800 (by decide) ⟨Nat.le_of_ble_eq_true rfl, Nat.le_of_ble_eq_true rfl⟩ dX9_init_189 (fun q_27 H hP hD hS => ?_)
  refine va_putF (D := D) (ci := 7) (v := .ref q_27) (C := RX9) (T := TX9) (N := 53) hx hb hts in9 tyX9 tyX9_ok nmX9 hown hG.1 hP hD hS 0 rfl rfl 29 (by decide) (hts (.fieldLink RX9 69 "ChairCaneModel" "sort" "[I") (by decide +kernel)) (fun _ h9 => h9) rfl hin rfl (tyX9_ok 29 (by decide)) rfl rfl (Nat.le_of_ble_eq_true rfl) dX9_init_191 (fun H locs hP hD hS => ?_)
  obtain ⟨hP, hD⟩ := cv (w' := ([(h0, .inr (7, [.int 0, .ref q_1, .ref q_10, .ref q_11, .ref q_12, .ref q_13, .ref q_14, .ref q_15, .ref q_16, .ref q_17, .ref q_18, .ref q_19, .ref q_20, .ref q_21, .ref q_22, .ref q_23, .ref q_24, .ref q_25, .int 0, .int 0, .int 0, .int 0, .int 0, .int 0, .int 0, .int 0, .int 0, .int 11, .ref q_26, .ref q_27, .null, .null, .null, .null, .null, .null, .null, .null, .null, .null, .null, .int 0, .int 0, .int 0, .null, .null, .null, .null, .null, .null, .null, .int 0, .int 0])), (q_1, hcI k 8 (upd (upd (upd (upd (upd (upd (upd (upd (fun _ => 0) 0 0) 1 0) 2 0) 3 0) 4 0) 5 0) 6 0) 7 (-1))), (q_10, hcI k 4 (fun _ => 0)), (q_11, hcI k 8 (fun _ => 0)), (q_12, hcI k 8 (fun _ => 0)), (q_13, hcI k 8 (fun _ => 0)), (q_14, hcI k 8 (fun _ => 0)), (q_15, hcI k 8 (fun _ => 0)), (q_16, hcI k 10 (fun _ => 0)), (q_17, hcI k 10 (fun _ => 0)), (q_18, hcI k 10 (fun _ => 0)), (q_19, hcI k 4 (fun _ => 0)), (q_20, hcI k 4 (fun _ => 0)), (q_21, hcI k 4 (fun _ => 0)), (q_22, hcI k 8 (fun _ => 0)), (q_23, hcI k 8 (fun _ => 0)), (q_24, hcI k 8 (fun _ => 0)), (q_25, hcI k 8 (fun _ => 0)), (q_26, hcY k 400 (fun _ => 0)), (q_27, hcI k 1800 (fun _ => 0))] : va_W)) hP hD rfl
  refine lv_aload_n hx hb dX9_init_194 rfl (lv_at hl 0 rfl) ?_
  refine lv_sipush (v := 1800) hx hb dX9_init_195 (by decide) ?_
  refine hc_newI hx hb (hts (.arrayClass .int) (by decide +kernel)) hG hA hP hD hS 1800 (by decide) ⟨Nat.le_of_ble_eq_true rfl, Nat.le_of_ble_eq_true rfl⟩ dX9_init_198 (fun q_28 H hP hD hS => ?_)
  refine va_putF (D := D) (ci := 7) (v := .ref q_28) (C := RX9) (T := TX9) (N := 53) hx hb hts in9 tyX9 tyX9_ok nmX9 hown hG.1 hP hD hS 0 rfl rfl 30 (by decide) (hts (.fieldLink RX9 72 "ChairCaneModel" "number" "[I") (by decide +kernel)) (fun _ h9 => h9) rfl hin rfl (tyX9_ok 30 (by decide)) rfl rfl (Nat.le_of_ble_eq_true rfl) dX9_init_200 (fun H locs hP hD hS => ?_)
  obtain ⟨hP, hD⟩ := cv (w' := ([(h0, .inr (7, [.int 0, .ref q_1, .ref q_10, .ref q_11, .ref q_12, .ref q_13, .ref q_14, .ref q_15, .ref q_16, .ref q_17, .ref q_18, .ref q_19, .ref q_20, .ref q_21, .ref q_22, .ref q_23, .ref q_24, .ref q_25, .int 0, .int 0, .int 0, .int 0, .int 0, .int 0, .int 0, .int 0, .int 0, .int 11, .ref q_26, .ref q_27, .ref q_28, .null, .null, .null, .null, .null, .null, .null, .null, .null, .null, .int 0, .int 0, .int 0, .null, .null, .null, .null, .null, .null, .null, .int 0, .int 0])), (q_1, hcI k 8 (upd (upd (upd (upd (upd (upd (upd (upd (fun _ => 0) 0 0) 1 0) 2 0) 3 0) 4 0) 5 0) 6 0) 7 (-1))), (q_10, hcI k 4 (fun _ => 0)), (q_11, hcI k 8 (fun _ => 0)), (q_12, hcI k 8 (fun _ => 0)), (q_13, hcI k 8 (fun _ => 0)), (q_14, hcI k 8 (fun _ => 0)), (q_15, hcI k 8 (fun _ => 0)), (q_16, hcI k 10 (fun _ => 0)), (q_17, hcI k 10 (fun _ => 0)), (q_18, hcI k 10 (fun _ => 0)), (q_19, hcI k 4 (fun _ => 0)), (q_20, hcI k 4 (fun _ => 0)), (q_21, hcI k 4 (fun _ => 0)), (q_22, hcI k 8 (fun _ => 0)), (q_23, hcI k 8 (fun _ => 0)), (q_24, hcI k 8 (fun _ => 0)), (q_25, hcI k 8 (fun _ => 0)), (q_26, hcY k 400 (fun _ => 0)), (q_27, hcI k 1800 (fun _ => 0)), (q_28, hcI k 1800 (fun _ => 0))] : va_W)) hP hD rfl
  refine lv_aload_n hx hb dX9_init_203 rfl (lv_at hl 0 rfl) ?_
  refine lv_bipush (v := 6) hx hb dX9_init_204 (by decide) ?_
  refine hc_newI hx hb (hts (.arrayClass .int) (by decide +kernel)) hG hA hP hD hS 6 (by decide) ⟨Nat.le_of_ble_eq_true rfl, Nat.le_of_ble_eq_true rfl⟩ dX9_init_206 (fun q_29 H hP hD hS => ?_)
  refine va_putF (D := D) (ci := 7) (v := .ref q_29) (C := RX9) (T := TX9) (N := 53) hx hb hts in9 tyX9 tyX9_ok nmX9 hown hG.1 hP hD hS 0 rfl rfl 31 (by decide) (hts (.fieldLink RX9 75 "ChairCaneModel" "clauses" "[I") (by decide +kernel)) (fun _ h9 => h9) rfl hin rfl (tyX9_ok 31 (by decide)) rfl rfl (Nat.le_of_ble_eq_true rfl) dX9_init_208 (fun H locs hP hD hS => ?_)
  obtain ⟨hP, hD⟩ := cv (w' := ([(h0, .inr (7, [.int 0, .ref q_1, .ref q_10, .ref q_11, .ref q_12, .ref q_13, .ref q_14, .ref q_15, .ref q_16, .ref q_17, .ref q_18, .ref q_19, .ref q_20, .ref q_21, .ref q_22, .ref q_23, .ref q_24, .ref q_25, .int 0, .int 0, .int 0, .int 0, .int 0, .int 0, .int 0, .int 0, .int 0, .int 11, .ref q_26, .ref q_27, .ref q_28, .ref q_29, .null, .null, .null, .null, .null, .null, .null, .null, .null, .int 0, .int 0, .int 0, .null, .null, .null, .null, .null, .null, .null, .int 0, .int 0])), (q_1, hcI k 8 (upd (upd (upd (upd (upd (upd (upd (upd (fun _ => 0) 0 0) 1 0) 2 0) 3 0) 4 0) 5 0) 6 0) 7 (-1))), (q_10, hcI k 4 (fun _ => 0)), (q_11, hcI k 8 (fun _ => 0)), (q_12, hcI k 8 (fun _ => 0)), (q_13, hcI k 8 (fun _ => 0)), (q_14, hcI k 8 (fun _ => 0)), (q_15, hcI k 8 (fun _ => 0)), (q_16, hcI k 10 (fun _ => 0)), (q_17, hcI k 10 (fun _ => 0)), (q_18, hcI k 10 (fun _ => 0)), (q_19, hcI k 4 (fun _ => 0)), (q_20, hcI k 4 (fun _ => 0)), (q_21, hcI k 4 (fun _ => 0)), (q_22, hcI k 8 (fun _ => 0)), (q_23, hcI k 8 (fun _ => 0)), (q_24, hcI k 8 (fun _ => 0)), (q_25, hcI k 8 (fun _ => 0)), (q_26, hcY k 400 (fun _ => 0)), (q_27, hcI k 1800 (fun _ => 0)), (q_28, hcI k 1800 (fun _ => 0)), (q_29, hcI k 6 (fun _ => 0))] : va_W)) hP hD rfl
  refine lv_aload_n hx hb dX9_init_211 rfl (lv_at hl 0 rfl) ?_
  refine lv_bipush (v := 72) hx hb dX9_init_212 (by decide) ?_
  refine hc_newI hx hb (hts (.arrayClass .int) (by decide +kernel)) hG hA hP hD hS 72 (by decide) ⟨Nat.le_of_ble_eq_true rfl, Nat.le_of_ble_eq_true rfl⟩ dX9_init_214 (fun q_30 H hP hD hS => ?_)
  refine va_putF (D := D) (ci := 7) (v := .ref q_30) (C := RX9) (T := TX9) (N := 53) hx hb hts in9 tyX9 tyX9_ok nmX9 hown hG.1 hP hD hS 0 rfl rfl 32 (by decide) (hts (.fieldLink RX9 78 "ChairCaneModel" "sumAt" "[I") (by decide +kernel)) (fun _ h9 => h9) rfl hin rfl (tyX9_ok 32 (by decide)) rfl rfl (Nat.le_of_ble_eq_true rfl) dX9_init_216 (fun H locs hP hD hS => ?_)
  obtain ⟨hP, hD⟩ := cv (w' := ([(h0, .inr (7, [.int 0, .ref q_1, .ref q_10, .ref q_11, .ref q_12, .ref q_13, .ref q_14, .ref q_15, .ref q_16, .ref q_17, .ref q_18, .ref q_19, .ref q_20, .ref q_21, .ref q_22, .ref q_23, .ref q_24, .ref q_25, .int 0, .int 0, .int 0, .int 0, .int 0, .int 0, .int 0, .int 0, .int 0, .int 11, .ref q_26, .ref q_27, .ref q_28, .ref q_29, .ref q_30, .null, .null, .null, .null, .null, .null, .null, .null, .int 0, .int 0, .int 0, .null, .null, .null, .null, .null, .null, .null, .int 0, .int 0])), (q_1, hcI k 8 (upd (upd (upd (upd (upd (upd (upd (upd (fun _ => 0) 0 0) 1 0) 2 0) 3 0) 4 0) 5 0) 6 0) 7 (-1))), (q_10, hcI k 4 (fun _ => 0)), (q_11, hcI k 8 (fun _ => 0)), (q_12, hcI k 8 (fun _ => 0)), (q_13, hcI k 8 (fun _ => 0)), (q_14, hcI k 8 (fun _ => 0)), (q_15, hcI k 8 (fun _ => 0)), (q_16, hcI k 10 (fun _ => 0)), (q_17, hcI k 10 (fun _ => 0)), (q_18, hcI k 10 (fun _ => 0)), (q_19, hcI k 4 (fun _ => 0)), (q_20, hcI k 4 (fun _ => 0)), (q_21, hcI k 4 (fun _ => 0)), (q_22, hcI k 8 (fun _ => 0)), (q_23, hcI k 8 (fun _ => 0)), (q_24, hcI k 8 (fun _ => 0)), (q_25, hcI k 8 (fun _ => 0)), (q_26, hcY k 400 (fun _ => 0)), (q_27, hcI k 1800 (fun _ => 0)), (q_28, hcI k 1800 (fun _ => 0)), (q_29, hcI k 6 (fun _ => 0)), (q_30, hcI k 72 (fun _ => 0))] : va_W)) hP hD rfl
  refine lv_aload_n hx hb dX9_init_219 rfl (lv_at hl 0 rfl) ?_
  refine lv_bipush (v := 72) hx hb dX9_init_220 (by decide) ?_
  refine hc_newI hx hb (hts (.arrayClass .int) (by decide +kernel)) hG hA hP hD hS 72 (by decide) ⟨Nat.le_of_ble_eq_true rfl, Nat.le_of_ble_eq_true rfl⟩ dX9_init_222 (fun q_31 H hP hD hS => ?_)
  refine va_putF (D := D) (ci := 7) (v := .ref q_31) (C := RX9) (T := TX9) (N := 53) hx hb hts in9 tyX9 tyX9_ok nmX9 hown hG.1 hP hD hS 0 rfl rfl 33 (by decide) (hts (.fieldLink RX9 81 "ChairCaneModel" "testAt" "[I") (by decide +kernel)) (fun _ h9 => h9) rfl hin rfl (tyX9_ok 33 (by decide)) rfl rfl (Nat.le_of_ble_eq_true rfl) dX9_init_224 (fun H locs hP hD hS => ?_)
  obtain ⟨hP, hD⟩ := cv (w' := ([(h0, .inr (7, [.int 0, .ref q_1, .ref q_10, .ref q_11, .ref q_12, .ref q_13, .ref q_14, .ref q_15, .ref q_16, .ref q_17, .ref q_18, .ref q_19, .ref q_20, .ref q_21, .ref q_22, .ref q_23, .ref q_24, .ref q_25, .int 0, .int 0, .int 0, .int 0, .int 0, .int 0, .int 0, .int 0, .int 0, .int 11, .ref q_26, .ref q_27, .ref q_28, .ref q_29, .ref q_30, .ref q_31, .null, .null, .null, .null, .null, .null, .null, .int 0, .int 0, .int 0, .null, .null, .null, .null, .null, .null, .null, .int 0, .int 0])), (q_1, hcI k 8 (upd (upd (upd (upd (upd (upd (upd (upd (fun _ => 0) 0 0) 1 0) 2 0) 3 0) 4 0) 5 0) 6 0) 7 (-1))), (q_10, hcI k 4 (fun _ => 0)), (q_11, hcI k 8 (fun _ => 0)), (q_12, hcI k 8 (fun _ => 0)), (q_13, hcI k 8 (fun _ => 0)), (q_14, hcI k 8 (fun _ => 0)), (q_15, hcI k 8 (fun _ => 0)), (q_16, hcI k 10 (fun _ => 0)), (q_17, hcI k 10 (fun _ => 0)), (q_18, hcI k 10 (fun _ => 0)), (q_19, hcI k 4 (fun _ => 0)), (q_20, hcI k 4 (fun _ => 0)), (q_21, hcI k 4 (fun _ => 0)), (q_22, hcI k 8 (fun _ => 0)), (q_23, hcI k 8 (fun _ => 0)), (q_24, hcI k 8 (fun _ => 0)), (q_25, hcI k 8 (fun _ => 0)), (q_26, hcY k 400 (fun _ => 0)), (q_27, hcI k 1800 (fun _ => 0)), (q_28, hcI k 1800 (fun _ => 0)), (q_29, hcI k 6 (fun _ => 0)), (q_30, hcI k 72 (fun _ => 0)), (q_31, hcI k 72 (fun _ => 0))] : va_W)) hP hD rfl
  refine lv_aload_n hx hb dX9_init_227 rfl (lv_at hl 0 rfl) ?_
  refine lv_bipush (v := 72) hx hb dX9_init_228 (by decide) ?_
  refine hc_newI hx hb (hts (.arrayClass .int) (by decide +kernel)) hG hA hP hD hS 72 (by decide) ⟨Nat.le_of_ble_eq_true rfl, Nat.le_of_ble_eq_true rfl⟩ dX9_init_230 (fun q_32 H hP hD hS => ?_)
  refine va_putF (D := D) (ci := 7) (v := .ref q_32) (C := RX9) (T := TX9) (N := 53) hx hb hts in9 tyX9 tyX9_ok nmX9 hown hG.1 hP hD hS 0 rfl rfl 34 (by decide) (hts (.fieldLink RX9 84 "ChairCaneModel" "endAt" "[I") (by decide +kernel)) (fun _ h9 => h9) rfl hin rfl (tyX9_ok 34 (by decide)) rfl rfl (Nat.le_of_ble_eq_true rfl) dX9_init_232 (fun H locs hP hD hS => ?_)
  obtain ⟨hP, hD⟩ := cv (w' := ([(h0, .inr (7, [.int 0, .ref q_1, .ref q_10, .ref q_11, .ref q_12, .ref q_13, .ref q_14, .ref q_15, .ref q_16, .ref q_17, .ref q_18, .ref q_19, .ref q_20, .ref q_21, .ref q_22, .ref q_23, .ref q_24, .ref q_25, .int 0, .int 0, .int 0, .int 0, .int 0, .int 0, .int 0, .int 0, .int 0, .int 11, .ref q_26, .ref q_27, .ref q_28, .ref q_29, .ref q_30, .ref q_31, .ref q_32, .null, .null, .null, .null, .null, .null, .int 0, .int 0, .int 0, .null, .null, .null, .null, .null, .null, .null, .int 0, .int 0])), (q_1, hcI k 8 (upd (upd (upd (upd (upd (upd (upd (upd (fun _ => 0) 0 0) 1 0) 2 0) 3 0) 4 0) 5 0) 6 0) 7 (-1))), (q_10, hcI k 4 (fun _ => 0)), (q_11, hcI k 8 (fun _ => 0)), (q_12, hcI k 8 (fun _ => 0)), (q_13, hcI k 8 (fun _ => 0)), (q_14, hcI k 8 (fun _ => 0)), (q_15, hcI k 8 (fun _ => 0)), (q_16, hcI k 10 (fun _ => 0)), (q_17, hcI k 10 (fun _ => 0)), (q_18, hcI k 10 (fun _ => 0)), (q_19, hcI k 4 (fun _ => 0)), (q_20, hcI k 4 (fun _ => 0)), (q_21, hcI k 4 (fun _ => 0)), (q_22, hcI k 8 (fun _ => 0)), (q_23, hcI k 8 (fun _ => 0)), (q_24, hcI k 8 (fun _ => 0)), (q_25, hcI k 8 (fun _ => 0)), (q_26, hcY k 400 (fun _ => 0)), (q_27, hcI k 1800 (fun _ => 0)), (q_28, hcI k 1800 (fun _ => 0)), (q_29, hcI k 6 (fun _ => 0)), (q_30, hcI k 72 (fun _ => 0)), (q_31, hcI k 72 (fun _ => 0)), (q_32, hcI k 72 (fun _ => 0))] : va_W)) hP hD rfl
  refine lv_aload_n hx hb dX9_init_235 rfl (lv_at hl 0 rfl) ?_
  refine lv_sipush (v := 402) hx hb dX9_init_236 (by decide) ?_
  refine hc_newI hx hb (hts (.arrayClass .int) (by decide +kernel)) hG hA hP hD hS 402 (by decide) ⟨Nat.le_of_ble_eq_true rfl, Nat.le_of_ble_eq_true rfl⟩ dX9_init_239 (fun q_33 H hP hD hS => ?_)
  refine va_putF (D := D) (ci := 7) (v := .ref q_33) (C := RX9) (T := TX9) (N := 53) hx hb hts in9 tyX9 tyX9_ok nmX9 hown hG.1 hP hD hS 0 rfl rfl 35 (by decide) (hts (.fieldLink RX9 87 "ChairCaneModel" "open" "[I") (by decide +kernel)) (fun _ h9 => h9) rfl hin rfl (tyX9_ok 35 (by decide)) rfl rfl (Nat.le_of_ble_eq_true rfl) dX9_init_241 (fun H locs hP hD hS => ?_)
  obtain ⟨hP, hD⟩ := cv (w' := ([(h0, .inr (7, [.int 0, .ref q_1, .ref q_10, .ref q_11, .ref q_12, .ref q_13, .ref q_14, .ref q_15, .ref q_16, .ref q_17, .ref q_18, .ref q_19, .ref q_20, .ref q_21, .ref q_22, .ref q_23, .ref q_24, .ref q_25, .int 0, .int 0, .int 0, .int 0, .int 0, .int 0, .int 0, .int 0, .int 0, .int 11, .ref q_26, .ref q_27, .ref q_28, .ref q_29, .ref q_30, .ref q_31, .ref q_32, .ref q_33, .null, .null, .null, .null, .null, .int 0, .int 0, .int 0, .null, .null, .null, .null, .null, .null, .null, .int 0, .int 0])), (q_1, hcI k 8 (upd (upd (upd (upd (upd (upd (upd (upd (fun _ => 0) 0 0) 1 0) 2 0) 3 0) 4 0) 5 0) 6 0) 7 (-1))), (q_10, hcI k 4 (fun _ => 0)), (q_11, hcI k 8 (fun _ => 0)), (q_12, hcI k 8 (fun _ => 0)), (q_13, hcI k 8 (fun _ => 0)), (q_14, hcI k 8 (fun _ => 0)), (q_15, hcI k 8 (fun _ => 0)), (q_16, hcI k 10 (fun _ => 0)), (q_17, hcI k 10 (fun _ => 0)), (q_18, hcI k 10 (fun _ => 0)), (q_19, hcI k 4 (fun _ => 0)), (q_20, hcI k 4 (fun _ => 0)), (q_21, hcI k 4 (fun _ => 0)), (q_22, hcI k 8 (fun _ => 0)), (q_23, hcI k 8 (fun _ => 0)), (q_24, hcI k 8 (fun _ => 0)), (q_25, hcI k 8 (fun _ => 0)), (q_26, hcY k 400 (fun _ => 0)), (q_27, hcI k 1800 (fun _ => 0)), (q_28, hcI k 1800 (fun _ => 0)), (q_29, hcI k 6 (fun _ => 0)), (q_30, hcI k 72 (fun _ => 0)), (q_31, hcI k 72 (fun _ => 0)), (q_32, hcI k 72 (fun _ => 0)), (q_33, hcI k 402 (fun _ => 0))] : va_W)) hP hD rfl
  refine lv_aload_n hx hb dX9_init_244 rfl (lv_at hl 0 rfl) ?_
  refine lv_bipush (v := 11) hx hb dX9_init_245 (by decide) ?_
  refine hc_newJ hx hb (hts (.arrayClass .long) (by decide +kernel)) hG hA hP hD hS 11 (by decide) ⟨Nat.le_of_ble_eq_true rfl, Nat.le_of_ble_eq_true rfl⟩ dX9_init_247 (fun q_34 H hP hD hS => ?_)
  refine va_putF (D := D) (ci := 7) (v := .ref q_34) (C := RX9) (T := TX9) (N := 53) hx hb hts in9 tyX9 tyX9_ok nmX9 hown hG.1 hP hD hS 0 rfl rfl 36 (by decide) (hts (.fieldLink RX9 90 "ChairCaneModel" "asked" "[J") (by decide +kernel)) (fun _ h9 => h9) rfl hin rfl (tyX9_ok 36 (by decide)) rfl rfl (Nat.le_of_ble_eq_true rfl) dX9_init_249 (fun H locs hP hD hS => ?_)
  obtain ⟨hP, hD⟩ := cv (w' := ([(h0, .inr (7, [.int 0, .ref q_1, .ref q_10, .ref q_11, .ref q_12, .ref q_13, .ref q_14, .ref q_15, .ref q_16, .ref q_17, .ref q_18, .ref q_19, .ref q_20, .ref q_21, .ref q_22, .ref q_23, .ref q_24, .ref q_25, .int 0, .int 0, .int 0, .int 0, .int 0, .int 0, .int 0, .int 0, .int 0, .int 11, .ref q_26, .ref q_27, .ref q_28, .ref q_29, .ref q_30, .ref q_31, .ref q_32, .ref q_33, .ref q_34, .null, .null, .null, .null, .int 0, .int 0, .int 0, .null, .null, .null, .null, .null, .null, .null, .int 0, .int 0])), (q_1, hcI k 8 (upd (upd (upd (upd (upd (upd (upd (upd (fun _ => 0) 0 0) 1 0) 2 0) 3 0) 4 0) 5 0) 6 0) 7 (-1))), (q_10, hcI k 4 (fun _ => 0)), (q_11, hcI k 8 (fun _ => 0)), (q_12, hcI k 8 (fun _ => 0)), (q_13, hcI k 8 (fun _ => 0)), (q_14, hcI k 8 (fun _ => 0)), (q_15, hcI k 8 (fun _ => 0)), (q_16, hcI k 10 (fun _ => 0)), (q_17, hcI k 10 (fun _ => 0)), (q_18, hcI k 10 (fun _ => 0)), (q_19, hcI k 4 (fun _ => 0)), (q_20, hcI k 4 (fun _ => 0)), (q_21, hcI k 4 (fun _ => 0)), (q_22, hcI k 8 (fun _ => 0)), (q_23, hcI k 8 (fun _ => 0)), (q_24, hcI k 8 (fun _ => 0)), (q_25, hcI k 8 (fun _ => 0)), (q_26, hcY k 400 (fun _ => 0)), (q_27, hcI k 1800 (fun _ => 0)), (q_28, hcI k 1800 (fun _ => 0)), (q_29, hcI k 6 (fun _ => 0)), (q_30, hcI k 72 (fun _ => 0)), (q_31, hcI k 72 (fun _ => 0)), (q_32, hcI k 72 (fun _ => 0)), (q_33, hcI k 402 (fun _ => 0)), (q_34, hcJ k 11 (fun _ => 0))] : va_W)) hP hD rfl
  refine lv_aload_n hx hb dX9_init_252 rfl (lv_at hl 0 rfl) ?_
  refine lv_sipush (v := 300) hx hb dX9_init_253 (by decide) ?_
  refine hc_newJ hx hb (hts (.arrayClass .long) (by decide +kernel)) hG hA hP hD hS 300 (by decide) ⟨Nat.le_of_ble_eq_true rfl, Nat.le_of_ble_eq_true rfl⟩ dX9_init_256 (fun q_35 H hP hD hS => ?_)
  refine va_putF (D := D) (ci := 7) (v := .ref q_35) (C := RX9) (T := TX9) (N := 53) hx hb hts in9 tyX9 tyX9_ok nmX9 hown hG.1 hP hD hS 0 rfl rfl 37 (by decide) (hts (.fieldLink RX9 94 "ChairCaneModel" "stack" "[J") (by decide +kernel)) (fun _ h9 => h9) rfl hin rfl (tyX9_ok 37 (by decide)) rfl rfl (Nat.le_of_ble_eq_true rfl) dX9_init_258 (fun H locs hP hD hS => ?_)
  obtain ⟨hP, hD⟩ := cv (w' := ([(h0, .inr (7, [.int 0, .ref q_1, .ref q_10, .ref q_11, .ref q_12, .ref q_13, .ref q_14, .ref q_15, .ref q_16, .ref q_17, .ref q_18, .ref q_19, .ref q_20, .ref q_21, .ref q_22, .ref q_23, .ref q_24, .ref q_25, .int 0, .int 0, .int 0, .int 0, .int 0, .int 0, .int 0, .int 0, .int 0, .int 11, .ref q_26, .ref q_27, .ref q_28, .ref q_29, .ref q_30, .ref q_31, .ref q_32, .ref q_33, .ref q_34, .ref q_35, .null, .null, .null, .int 0, .int 0, .int 0, .null, .null, .null, .null, .null, .null, .null, .int 0, .int 0])), (q_1, hcI k 8 (upd (upd (upd (upd (upd (upd (upd (upd (fun _ => 0) 0 0) 1 0) 2 0) 3 0) 4 0) 5 0) 6 0) 7 (-1))), (q_10, hcI k 4 (fun _ => 0)), (q_11, hcI k 8 (fun _ => 0)), (q_12, hcI k 8 (fun _ => 0)), (q_13, hcI k 8 (fun _ => 0)), (q_14, hcI k 8 (fun _ => 0)), (q_15, hcI k 8 (fun _ => 0)), (q_16, hcI k 10 (fun _ => 0)), (q_17, hcI k 10 (fun _ => 0)), (q_18, hcI k 10 (fun _ => 0)), (q_19, hcI k 4 (fun _ => 0)), (q_20, hcI k 4 (fun _ => 0)), (q_21, hcI k 4 (fun _ => 0)), (q_22, hcI k 8 (fun _ => 0)), (q_23, hcI k 8 (fun _ => 0)), (q_24, hcI k 8 (fun _ => 0)), (q_25, hcI k 8 (fun _ => 0)), (q_26, hcY k 400 (fun _ => 0)), (q_27, hcI k 1800 (fun _ => 0)), (q_28, hcI k 1800 (fun _ => 0)), (q_29, hcI k 6 (fun _ => 0)), (q_30, hcI k 72 (fun _ => 0)), (q_31, hcI k 72 (fun _ => 0)), (q_32, hcI k 72 (fun _ => 0)), (q_33, hcI k 402 (fun _ => 0)), (q_34, hcJ k 11 (fun _ => 0)), (q_35, hcJ k 300 (fun _ => 0))] : va_W)) hP hD rfl
  refine lv_aload_n hx hb dX9_init_261 rfl (lv_at hl 0 rfl) ?_
  refine lv_bipush (v := 8) hx hb dX9_init_262 (by decide) ?_
  refine hc_newI hx hb (hts (.arrayClass .int) (by decide +kernel)) hG hA hP hD hS 8 (by decide) ⟨Nat.le_of_ble_eq_true rfl, Nat.le_of_ble_eq_true rfl⟩ dX9_init_264 (fun q_36 H hP hD hS => ?_)
  obtain ⟨hP, hD⟩ := cv (w' := ([(h0, .inr (7, [.int 0, .ref q_1, .ref q_10, .ref q_11, .ref q_12, .ref q_13, .ref q_14, .ref q_15, .ref q_16, .ref q_17, .ref q_18, .ref q_19, .ref q_20, .ref q_21, .ref q_22, .ref q_23, .ref q_24, .ref q_25, .int 0, .int 0, .int 0, .int 0, .int 0, .int 0, .int 0, .int 0, .int 0, .int 11, .ref q_26, .ref q_27, .ref q_28, .ref q_29, .ref q_30, .ref q_31, .ref q_32, .ref q_33, .ref q_34, .ref q_35, .null, .null, .null, .int 0, .int 0, .int 0, .null, .null, .null, .null, .null, .null, .null, .int 0, .int 0])), (q_1, hcI k 8 (upd (upd (upd (upd (upd (upd (upd (upd (fun _ => 0) 0 0) 1 0) 2 0) 3 0) 4 0) 5 0) 6 0) 7 (-1))), (q_10, hcI k 4 (fun _ => 0)), (q_11, hcI k 8 (fun _ => 0)), (q_12, hcI k 8 (fun _ => 0)), (q_13, hcI k 8 (fun _ => 0)), (q_14, hcI k 8 (fun _ => 0)), (q_15, hcI k 8 (fun _ => 0)), (q_16, hcI k 10 (fun _ => 0)), (q_17, hcI k 10 (fun _ => 0)), (q_18, hcI k 10 (fun _ => 0)), (q_19, hcI k 4 (fun _ => 0)), (q_20, hcI k 4 (fun _ => 0)), (q_21, hcI k 4 (fun _ => 0)), (q_22, hcI k 8 (fun _ => 0)), (q_23, hcI k 8 (fun _ => 0)), (q_24, hcI k 8 (fun _ => 0)), (q_25, hcI k 8 (fun _ => 0)), (q_26, hcY k 400 (fun _ => 0)), (q_27, hcI k 1800 (fun _ => 0)), (q_28, hcI k 1800 (fun _ => 0)), (q_29, hcI k 6 (fun _ => 0)), (q_30, hcI k 72 (fun _ => 0)), (q_31, hcI k 72 (fun _ => 0)), (q_32, hcI k 72 (fun _ => 0)), (q_33, hcI k 402 (fun _ => 0)), (q_34, hcJ k 11 (fun _ => 0)), (q_35, hcJ k 300 (fun _ => 0)), (q_36, hcI k 8 (fun _ => 0))] : va_W)) hP hD rfl
  refine lv_dup hx hb dX9_init_266 rfl ?_
  refine lv_iconst (v := 0) hx hb dX9_init_267 (by decide) ?_
  refine lv_iconst (v := (-1)) hx hb dX9_init_268 (by decide) ?_
  refine va_iast hx hb hG.1 hP hD hS 28 0 rfl rfl (by unfold vp_in; decide) dX9_init_269 (fun H locs hP hD hS => ?_)
  refine lv_dup hx hb dX9_init_270 rfl ?_
  refine lv_iconst (v := 1) hx hb dX9_init_271 (by decide) ?_
  refine lv_iconst (v := (-1)) hx hb dX9_init_272 (by decide) ?_
  refine va_iast hx hb hG.1 hP hD hS 28 0 rfl rfl (by unfold vp_in; decide) dX9_init_273 (fun H locs hP hD hS => ?_)
  refine lv_dup hx hb dX9_init_274 rfl ?_
  refine lv_iconst (v := 2) hx hb dX9_init_275 (by decide) ?_
  refine lv_iconst (v := (-1)) hx hb dX9_init_276 (by decide) ?_
  refine va_iast hx hb hG.1 hP hD hS 28 0 rfl rfl (by unfold vp_in; decide) dX9_init_277 (fun H locs hP hD hS => ?_)
  refine lv_dup hx hb dX9_init_278 rfl ?_
  refine lv_iconst (v := 3) hx hb dX9_init_279 (by decide) ?_
  refine lv_iconst (v := (-1)) hx hb dX9_init_280 (by decide) ?_
  refine va_iast hx hb hG.1 hP hD hS 28 0 rfl rfl (by unfold vp_in; decide) dX9_init_281 (fun H locs hP hD hS => ?_)
  obtain ⟨hP, hD⟩ := cv (w' := ([(h0, .inr (7, [.int 0, .ref q_1, .ref q_10, .ref q_11, .ref q_12, .ref q_13, .ref q_14, .ref q_15, .ref q_16, .ref q_17, .ref q_18, .ref q_19, .ref q_20, .ref q_21, .ref q_22, .ref q_23, .ref q_24, .ref q_25, .int 0, .int 0, .int 0, .int 0, .int 0, .int 0, .int 0, .int 0, .int 0, .int 11, .ref q_26, .ref q_27, .ref q_28, .ref q_29, .ref q_30, .ref q_31, .ref q_32, .ref q_33, .ref q_34, .ref q_35, .null, .null, .null, .int 0, .int 0, .int 0, .null, .null, .null, .null, .null, .null, .null, .int 0, .int 0])), (q_1, hcI k 8 (upd (upd (upd (upd (upd (upd (upd (upd (fun _ => 0) 0 0) 1 0) 2 0) 3 0) 4 0) 5 0) 6 0) 7 (-1))), (q_10, hcI k 4 (fun _ => 0)), (q_11, hcI k 8 (fun _ => 0)), (q_12, hcI k 8 (fun _ => 0)), (q_13, hcI k 8 (fun _ => 0)), (q_14, hcI k 8 (fun _ => 0)), (q_15, hcI k 8 (fun _ => 0)), (q_16, hcI k 10 (fun _ => 0)), (q_17, hcI k 10 (fun _ => 0)), (q_18, hcI k 10 (fun _ => 0)), (q_19, hcI k 4 (fun _ => 0)), (q_20, hcI k 4 (fun _ => 0)), (q_21, hcI k 4 (fun _ => 0)), (q_22, hcI k 8 (fun _ => 0)), (q_23, hcI k 8 (fun _ => 0)), (q_24, hcI k 8 (fun _ => 0)), (q_25, hcI k 8 (fun _ => 0)), (q_26, hcY k 400 (fun _ => 0)), (q_27, hcI k 1800 (fun _ => 0)), (q_28, hcI k 1800 (fun _ => 0)), (q_29, hcI k 6 (fun _ => 0)), (q_30, hcI k 72 (fun _ => 0)), (q_31, hcI k 72 (fun _ => 0)), (q_32, hcI k 72 (fun _ => 0)), (q_33, hcI k 402 (fun _ => 0)), (q_34, hcJ k 11 (fun _ => 0)), (q_35, hcJ k 300 (fun _ => 0)), (q_36, hcI k 8 (upd (upd (upd (upd (fun _ => 0) 0 (-1)) 1 (-1)) 2 (-1)) 3 (-1)))] : va_W)) hP hD rfl
  refine lv_dup hx hb dX9_init_282 rfl ?_
  refine lv_iconst (v := 4) hx hb dX9_init_283 (by decide) ?_
  refine lv_iconst (v := (-1)) hx hb dX9_init_284 (by decide) ?_
  refine va_iast hx hb hG.1 hP hD hS 28 0 rfl rfl (by unfold vp_in; decide) dX9_init_285 (fun H locs hP hD hS => ?_)
  refine lv_dup hx hb dX9_init_286 rfl ?_
  refine lv_iconst (v := 5) hx hb dX9_init_287 (by decide) ?_
  refine lv_iconst (v := (-1)) hx hb dX9_init_288 (by decide) ?_
  refine va_iast hx hb hG.1 hP hD hS 28 0 rfl rfl (by unfold vp_in; decide) dX9_init_289 (fun H locs hP hD hS => ?_)
  refine lv_dup hx hb dX9_init_290 rfl ?_
  refine lv_bipush (v := 6) hx hb dX9_init_291 (by decide) ?_
  refine lv_iconst (v := (-1)) hx hb dX9_init_293 (by decide) ?_
  refine va_iast hx hb hG.1 hP hD hS 28 0 rfl rfl (by unfold vp_in; decide) dX9_init_294 (fun H locs hP hD hS => ?_)
  refine lv_dup hx hb dX9_init_295 rfl ?_
  refine lv_bipush (v := 7) hx hb dX9_init_296 (by decide) ?_
  refine lv_iconst (v := (-1)) hx hb dX9_init_298 (by decide) ?_
  refine va_iast hx hb hG.1 hP hD hS 28 0 rfl rfl (by unfold vp_in; decide) dX9_init_299 (fun H locs hP hD hS => ?_)
  obtain ⟨hP, hD⟩ := cv (w' := ([(h0, .inr (7, [.int 0, .ref q_1, .ref q_10, .ref q_11, .ref q_12, .ref q_13, .ref q_14, .ref q_15, .ref q_16, .ref q_17, .ref q_18, .ref q_19, .ref q_20, .ref q_21, .ref q_22, .ref q_23, .ref q_24, .ref q_25, .int 0, .int 0, .int 0, .int 0, .int 0, .int 0, .int 0, .int 0, .int 0, .int 11, .ref q_26, .ref q_27, .ref q_28, .ref q_29, .ref q_30, .ref q_31, .ref q_32, .ref q_33, .ref q_34, .ref q_35, .null, .null, .null, .int 0, .int 0, .int 0, .null, .null, .null, .null, .null, .null, .null, .int 0, .int 0])), (q_1, hcI k 8 (upd (upd (upd (upd (upd (upd (upd (upd (fun _ => 0) 0 0) 1 0) 2 0) 3 0) 4 0) 5 0) 6 0) 7 (-1))), (q_10, hcI k 4 (fun _ => 0)), (q_11, hcI k 8 (fun _ => 0)), (q_12, hcI k 8 (fun _ => 0)), (q_13, hcI k 8 (fun _ => 0)), (q_14, hcI k 8 (fun _ => 0)), (q_15, hcI k 8 (fun _ => 0)), (q_16, hcI k 10 (fun _ => 0)), (q_17, hcI k 10 (fun _ => 0)), (q_18, hcI k 10 (fun _ => 0)), (q_19, hcI k 4 (fun _ => 0)), (q_20, hcI k 4 (fun _ => 0)), (q_21, hcI k 4 (fun _ => 0)), (q_22, hcI k 8 (fun _ => 0)), (q_23, hcI k 8 (fun _ => 0)), (q_24, hcI k 8 (fun _ => 0)), (q_25, hcI k 8 (fun _ => 0)), (q_26, hcY k 400 (fun _ => 0)), (q_27, hcI k 1800 (fun _ => 0)), (q_28, hcI k 1800 (fun _ => 0)), (q_29, hcI k 6 (fun _ => 0)), (q_30, hcI k 72 (fun _ => 0)), (q_31, hcI k 72 (fun _ => 0)), (q_32, hcI k 72 (fun _ => 0)), (q_33, hcI k 402 (fun _ => 0)), (q_34, hcJ k 11 (fun _ => 0)), (q_35, hcJ k 300 (fun _ => 0)), (q_36, hcI k 8 (upd (upd (upd (upd (upd (upd (upd (upd (fun _ => 0) 0 (-1)) 1 (-1)) 2 (-1)) 3 (-1)) 4 (-1)) 5 (-1)) 6 (-1)) 7 (-1)))] : va_W)) hP hD rfl
  refine va_putF (D := D) (ci := 7) (v := .ref q_36) (C := RX9) (T := TX9) (N := 53) hx hb hts in9 tyX9 tyX9_ok nmX9 hown hG.1 hP hD hS 0 rfl rfl 38 (by decide) (hts (.fieldLink RX9 97 "ChairCaneModel" "must" "[I") (by decide +kernel)) (fun _ h9 => h9) rfl hin rfl (tyX9_ok 38 (by decide)) rfl rfl (Nat.le_of_ble_eq_true rfl) dX9_init_300 (fun H locs hP hD hS => ?_)
  obtain ⟨hP, hD⟩ := cv (w' := ([(h0, .inr (7, [.int 0, .ref q_1, .ref q_10, .ref q_11, .ref q_12, .ref q_13, .ref q_14, .ref q_15, .ref q_16, .ref q_17, .ref q_18, .ref q_19, .ref q_20, .ref q_21, .ref q_22, .ref q_23, .ref q_24, .ref q_25, .int 0, .int 0, .int 0, .int 0, .int 0, .int 0, .int 0, .int 0, .int 0, .int 11, .ref q_26, .ref q_27, .ref q_28, .ref q_29, .ref q_30, .ref q_31, .ref q_32, .ref q_33, .ref q_34, .ref q_35, .ref q_36, .null, .null, .int 0, .int 0, .int 0, .null, .null, .null, .null, .null, .null, .null, .int 0, .int 0])), (q_1, hcI k 8 (upd (upd (upd (upd (upd (upd (upd (upd (fun _ => 0) 0 0) 1 0) 2 0) 3 0) 4 0) 5 0) 6 0) 7 (-1))), (q_10, hcI k 4 (fun _ => 0)), (q_11, hcI k 8 (fun _ => 0)), (q_12, hcI k 8 (fun _ => 0)), (q_13, hcI k 8 (fun _ => 0)), (q_14, hcI k 8 (fun _ => 0)), (q_15, hcI k 8 (fun _ => 0)), (q_16, hcI k 10 (fun _ => 0)), (q_17, hcI k 10 (fun _ => 0)), (q_18, hcI k 10 (fun _ => 0)), (q_19, hcI k 4 (fun _ => 0)), (q_20, hcI k 4 (fun _ => 0)), (q_21, hcI k 4 (fun _ => 0)), (q_22, hcI k 8 (fun _ => 0)), (q_23, hcI k 8 (fun _ => 0)), (q_24, hcI k 8 (fun _ => 0)), (q_25, hcI k 8 (fun _ => 0)), (q_26, hcY k 400 (fun _ => 0)), (q_27, hcI k 1800 (fun _ => 0)), (q_28, hcI k 1800 (fun _ => 0)), (q_29, hcI k 6 (fun _ => 0)), (q_30, hcI k 72 (fun _ => 0)), (q_31, hcI k 72 (fun _ => 0)), (q_32, hcI k 72 (fun _ => 0)), (q_33, hcI k 402 (fun _ => 0)), (q_34, hcJ k 11 (fun _ => 0)), (q_35, hcJ k 300 (fun _ => 0)), (q_36, hcI k 8 (upd (upd (upd (upd (upd (upd (upd (upd (fun _ => 0) 0 (-1)) 1 (-1)) 2 (-1)) 3 (-1)) 4 (-1)) 5 (-1)) 6 (-1)) 7 (-1)))] : va_W)) hP hD rfl
  refine lv_aload_n hx hb dX9_init_303 rfl (lv_at hl 0 rfl) ?_
  refine lv_sipush (v := 260) hx hb dX9_init_304 (by decide) ?_
  refine hc_newI hx hb (hts (.arrayClass .int) (by decide +kernel)) hG hA hP hD hS 260 (by decide) ⟨Nat.le_of_ble_eq_true rfl, Nat.le_of_ble_eq_true rfl⟩ dX9_init_307 (fun q_45 H hP hD hS => ?_)
  refine va_putF (D := D) (ci := 7) (v := .ref q_45) (C := RX9) (T := TX9) (N := 53) hx hb hts in9 tyX9 tyX9_ok nmX9 hown hG.1 hP hD hS 0 rfl rfl 39 (by decide) (hts (.fieldLink RX9 100 "ChairCaneModel" "past" "[I") (by decide +kernel)) (fun _ h9 => h9) rfl hin rfl (tyX9_ok 39 (by decide)) rfl rfl (Nat.le_of_ble_eq_true rfl) dX9_init_309 (fun H locs hP hD hS => ?_)
  obtain ⟨hP, hD⟩ := cv (w' := ([(h0, .inr (7, [.int 0, .ref q_1, .ref q_10, .ref q_11, .ref q_12, .ref q_13, .ref q_14, .ref q_15, .ref q_16, .ref q_17, .ref q_18, .ref q_19, .ref q_20, .ref q_21, .ref q_22, .ref q_23, .ref q_24, .ref q_25, .int 0, .int 0, .int 0, .int 0, .int 0, .int 0, .int 0, .int 0, .int 0, .int 11, .ref q_26, .ref q_27, .ref q_28, .ref q_29, .ref q_30, .ref q_31, .ref q_32, .ref q_33, .ref q_34, .ref q_35, .ref q_36, .ref q_45, .null, .int 0, .int 0, .int 0, .null, .null, .null, .null, .null, .null, .null, .int 0, .int 0])), (q_1, hcI k 8 (upd (upd (upd (upd (upd (upd (upd (upd (fun _ => 0) 0 0) 1 0) 2 0) 3 0) 4 0) 5 0) 6 0) 7 (-1))), (q_10, hcI k 4 (fun _ => 0)), (q_11, hcI k 8 (fun _ => 0)), (q_12, hcI k 8 (fun _ => 0)), (q_13, hcI k 8 (fun _ => 0)), (q_14, hcI k 8 (fun _ => 0)), (q_15, hcI k 8 (fun _ => 0)), (q_16, hcI k 10 (fun _ => 0)), (q_17, hcI k 10 (fun _ => 0)), (q_18, hcI k 10 (fun _ => 0)), (q_19, hcI k 4 (fun _ => 0)), (q_20, hcI k 4 (fun _ => 0)), (q_21, hcI k 4 (fun _ => 0)), (q_22, hcI k 8 (fun _ => 0)), (q_23, hcI k 8 (fun _ => 0)), (q_24, hcI k 8 (fun _ => 0)), (q_25, hcI k 8 (fun _ => 0)), (q_26, hcY k 400 (fun _ => 0)), (q_27, hcI k 1800 (fun _ => 0)), (q_28, hcI k 1800 (fun _ => 0)), (q_29, hcI k 6 (fun _ => 0)), (q_30, hcI k 72 (fun _ => 0)), (q_31, hcI k 72 (fun _ => 0)), (q_32, hcI k 72 (fun _ => 0)), (q_33, hcI k 402 (fun _ => 0)), (q_34, hcJ k 11 (fun _ => 0)), (q_35, hcJ k 300 (fun _ => 0)), (q_36, hcI k 8 (upd (upd (upd (upd (upd (upd (upd (upd (fun _ => 0) 0 (-1)) 1 (-1)) 2 (-1)) 3 (-1)) 4 (-1)) 5 (-1)) 6 (-1)) 7 (-1))), (q_45, hcI k 260 (fun _ => 0))] : va_W)) hP hD rfl
  refine lv_aload_n hx hb dX9_init_312 rfl (lv_at hl 0 rfl) ?_
  refine lv_iconst (v := 1) hx hb dX9_init_313 (by decide) ?_
  refine hc_newI hx hb (hts (.arrayClass .int) (by decide +kernel)) hG hA hP hD hS 1 (by decide) ⟨Nat.le_of_ble_eq_true rfl, Nat.le_of_ble_eq_true rfl⟩ dX9_init_314 (fun q_46 H hP hD hS => ?_)
  refine va_putF (D := D) (ci := 7) (v := .ref q_46) (C := RX9) (T := TX9) (N := 53) hx hb hts in9 tyX9 tyX9_ok nmX9 hown hG.1 hP hD hS 0 rfl rfl 40 (by decide) (hts (.fieldLink RX9 103 "ChairCaneModel" "pastOf" "[I") (by decide +kernel)) (fun _ h9 => h9) rfl hin rfl (tyX9_ok 40 (by decide)) rfl rfl (Nat.le_of_ble_eq_true rfl) dX9_init_316 (fun H locs hP hD hS => ?_)
  obtain ⟨hP, hD⟩ := cv (w' := ([(h0, .inr (7, [.int 0, .ref q_1, .ref q_10, .ref q_11, .ref q_12, .ref q_13, .ref q_14, .ref q_15, .ref q_16, .ref q_17, .ref q_18, .ref q_19, .ref q_20, .ref q_21, .ref q_22, .ref q_23, .ref q_24, .ref q_25, .int 0, .int 0, .int 0, .int 0, .int 0, .int 0, .int 0, .int 0, .int 0, .int 11, .ref q_26, .ref q_27, .ref q_28, .ref q_29, .ref q_30, .ref q_31, .ref q_32, .ref q_33, .ref q_34, .ref q_35, .ref q_36, .ref q_45, .ref q_46, .int 0, .int 0, .int 0, .null, .null, .null, .null, .null, .null, .null, .int 0, .int 0])), (q_1, hcI k 8 (upd (upd (upd (upd (upd (upd (upd (upd (fun _ => 0) 0 0) 1 0) 2 0) 3 0) 4 0) 5 0) 6 0) 7 (-1))), (q_10, hcI k 4 (fun _ => 0)), (q_11, hcI k 8 (fun _ => 0)), (q_12, hcI k 8 (fun _ => 0)), (q_13, hcI k 8 (fun _ => 0)), (q_14, hcI k 8 (fun _ => 0)), (q_15, hcI k 8 (fun _ => 0)), (q_16, hcI k 10 (fun _ => 0)), (q_17, hcI k 10 (fun _ => 0)), (q_18, hcI k 10 (fun _ => 0)), (q_19, hcI k 4 (fun _ => 0)), (q_20, hcI k 4 (fun _ => 0)), (q_21, hcI k 4 (fun _ => 0)), (q_22, hcI k 8 (fun _ => 0)), (q_23, hcI k 8 (fun _ => 0)), (q_24, hcI k 8 (fun _ => 0)), (q_25, hcI k 8 (fun _ => 0)), (q_26, hcY k 400 (fun _ => 0)), (q_27, hcI k 1800 (fun _ => 0)), (q_28, hcI k 1800 (fun _ => 0)), (q_29, hcI k 6 (fun _ => 0)), (q_30, hcI k 72 (fun _ => 0)), (q_31, hcI k 72 (fun _ => 0)), (q_32, hcI k 72 (fun _ => 0)), (q_33, hcI k 402 (fun _ => 0)), (q_34, hcJ k 11 (fun _ => 0)), (q_35, hcJ k 300 (fun _ => 0)), (q_36, hcI k 8 (upd (upd (upd (upd (upd (upd (upd (upd (fun _ => 0) 0 (-1)) 1 (-1)) 2 (-1)) 3 (-1)) 4 (-1)) 5 (-1)) 6 (-1)) 7 (-1))), (q_45, hcI k 260 (fun _ => 0)), (q_46, hcI k 1 (fun _ => 0))] : va_W)) hP hD rfl
  refine lv_aload_n hx hb dX9_init_319 rfl (lv_at hl 0 rfl) ?_
  refine lv_sipush (v := 256) hx hb dX9_init_320 (by decide) ?_
  refine hc_newZ hx hb (hts (.arrayClass .boolean) (by decide +kernel)) hG hA hP hD hS 256 (by decide) ⟨Nat.le_of_ble_eq_true rfl, Nat.le_of_ble_eq_true rfl⟩ dX9_init_323 (fun q_47 H hP hD hS => ?_)
  refine va_putF (D := D) (ci := 7) (v := .ref q_47) (C := RX9) (T := TX9) (N := 53) hx hb hts in9 tyX9 tyX9_ok nmX9 hown hG.1 hP hD hS 0 rfl rfl 44 (by decide) (hts (.fieldLink RX9 106 "ChairCaneModel" "canRise" "[Z") (by decide +kernel)) (fun _ h9 => h9) rfl hin rfl (tyX9_ok 44 (by decide)) rfl rfl (Nat.le_of_ble_eq_true rfl) dX9_init_325 (fun H locs hP hD hS => ?_)
  obtain ⟨hP, hD⟩ := cv (w' := ([(h0, .inr (7, [.int 0, .ref q_1, .ref q_10, .ref q_11, .ref q_12, .ref q_13, .ref q_14, .ref q_15, .ref q_16, .ref q_17, .ref q_18, .ref q_19, .ref q_20, .ref q_21, .ref q_22, .ref q_23, .ref q_24, .ref q_25, .int 0, .int 0, .int 0, .int 0, .int 0, .int 0, .int 0, .int 0, .int 0, .int 11, .ref q_26, .ref q_27, .ref q_28, .ref q_29, .ref q_30, .ref q_31, .ref q_32, .ref q_33, .ref q_34, .ref q_35, .ref q_36, .ref q_45, .ref q_46, .int 0, .int 0, .int 0, .ref q_47, .null, .null, .null, .null, .null, .null, .int 0, .int 0])), (q_1, hcI k 8 (upd (upd (upd (upd (upd (upd (upd (upd (fun _ => 0) 0 0) 1 0) 2 0) 3 0) 4 0) 5 0) 6 0) 7 (-1))), (q_10, hcI k 4 (fun _ => 0)), (q_11, hcI k 8 (fun _ => 0)), (q_12, hcI k 8 (fun _ => 0)), (q_13, hcI k 8 (fun _ => 0)), (q_14, hcI k 8 (fun _ => 0)), (q_15, hcI k 8 (fun _ => 0)), (q_16, hcI k 10 (fun _ => 0)), (q_17, hcI k 10 (fun _ => 0)), (q_18, hcI k 10 (fun _ => 0)), (q_19, hcI k 4 (fun _ => 0)), (q_20, hcI k 4 (fun _ => 0)), (q_21, hcI k 4 (fun _ => 0)), (q_22, hcI k 8 (fun _ => 0)), (q_23, hcI k 8 (fun _ => 0)), (q_24, hcI k 8 (fun _ => 0)), (q_25, hcI k 8 (fun _ => 0)), (q_26, hcY k 400 (fun _ => 0)), (q_27, hcI k 1800 (fun _ => 0)), (q_28, hcI k 1800 (fun _ => 0)), (q_29, hcI k 6 (fun _ => 0)), (q_30, hcI k 72 (fun _ => 0)), (q_31, hcI k 72 (fun _ => 0)), (q_32, hcI k 72 (fun _ => 0)), (q_33, hcI k 402 (fun _ => 0)), (q_34, hcJ k 11 (fun _ => 0)), (q_35, hcJ k 300 (fun _ => 0)), (q_36, hcI k 8 (upd (upd (upd (upd (upd (upd (upd (upd (fun _ => 0) 0 (-1)) 1 (-1)) 2 (-1)) 3 (-1)) 4 (-1)) 5 (-1)) 6 (-1)) 7 (-1))), (q_45, hcI k 260 (fun _ => 0)), (q_46, hcI k 1 (fun _ => 0)), (q_47, hcZ k 256 (fun _ => 0))] : va_W)) hP hD rfl
  refine lv_aload_n hx hb dX9_init_328 rfl (lv_at hl 0 rfl) ?_
  refine lv_iconst (v := 4) hx hb dX9_init_329 (by decide) ?_
  refine hc_newI hx hb (hts (.arrayClass .int) (by decide +kernel)) hG hA hP hD hS 4 (by decide) ⟨Nat.le_of_ble_eq_true rfl, Nat.le_of_ble_eq_true rfl⟩ dX9_init_330 (fun q_48 H hP hD hS => ?_)
  refine va_putF (D := D) (ci := 7) (v := .ref q_48) (C := RX9) (T := TX9) (N := 53) hx hb hts in9 tyX9 tyX9_ok nmX9 hown hG.1 hP hD hS 0 rfl rfl 45 (by decide) (hts (.fieldLink RX9 110 "ChairCaneModel" "firstHas" "[I") (by decide +kernel)) (fun _ h9 => h9) rfl hin rfl (tyX9_ok 45 (by decide)) rfl rfl (Nat.le_of_ble_eq_true rfl) dX9_init_332 (fun H locs hP hD hS => ?_)
  obtain ⟨hP, hD⟩ := cv (w' := ([(h0, .inr (7, [.int 0, .ref q_1, .ref q_10, .ref q_11, .ref q_12, .ref q_13, .ref q_14, .ref q_15, .ref q_16, .ref q_17, .ref q_18, .ref q_19, .ref q_20, .ref q_21, .ref q_22, .ref q_23, .ref q_24, .ref q_25, .int 0, .int 0, .int 0, .int 0, .int 0, .int 0, .int 0, .int 0, .int 0, .int 11, .ref q_26, .ref q_27, .ref q_28, .ref q_29, .ref q_30, .ref q_31, .ref q_32, .ref q_33, .ref q_34, .ref q_35, .ref q_36, .ref q_45, .ref q_46, .int 0, .int 0, .int 0, .ref q_47, .ref q_48, .null, .null, .null, .null, .null, .int 0, .int 0])), (q_1, hcI k 8 (upd (upd (upd (upd (upd (upd (upd (upd (fun _ => 0) 0 0) 1 0) 2 0) 3 0) 4 0) 5 0) 6 0) 7 (-1))), (q_10, hcI k 4 (fun _ => 0)), (q_11, hcI k 8 (fun _ => 0)), (q_12, hcI k 8 (fun _ => 0)), (q_13, hcI k 8 (fun _ => 0)), (q_14, hcI k 8 (fun _ => 0)), (q_15, hcI k 8 (fun _ => 0)), (q_16, hcI k 10 (fun _ => 0)), (q_17, hcI k 10 (fun _ => 0)), (q_18, hcI k 10 (fun _ => 0)), (q_19, hcI k 4 (fun _ => 0)), (q_20, hcI k 4 (fun _ => 0)), (q_21, hcI k 4 (fun _ => 0)), (q_22, hcI k 8 (fun _ => 0)), (q_23, hcI k 8 (fun _ => 0)), (q_24, hcI k 8 (fun _ => 0)), (q_25, hcI k 8 (fun _ => 0)), (q_26, hcY k 400 (fun _ => 0)), (q_27, hcI k 1800 (fun _ => 0)), (q_28, hcI k 1800 (fun _ => 0)), (q_29, hcI k 6 (fun _ => 0)), (q_30, hcI k 72 (fun _ => 0)), (q_31, hcI k 72 (fun _ => 0)), (q_32, hcI k 72 (fun _ => 0)), (q_33, hcI k 402 (fun _ => 0)), (q_34, hcJ k 11 (fun _ => 0)), (q_35, hcJ k 300 (fun _ => 0)), (q_36, hcI k 8 (upd (upd (upd (upd (upd (upd (upd (upd (fun _ => 0) 0 (-1)) 1 (-1)) 2 (-1)) 3 (-1)) 4 (-1)) 5 (-1)) 6 (-1)) 7 (-1))), (q_45, hcI k 260 (fun _ => 0)), (q_46, hcI k 1 (fun _ => 0)), (q_47, hcZ k 256 (fun _ => 0)), (q_48, hcI k 4 (fun _ => 0))] : va_W)) hP hD rfl
  refine lv_aload_n hx hb dX9_init_335 rfl (lv_at hl 0 rfl) ?_
  refine lv_iconst (v := 4) hx hb dX9_init_336 (by decide) ?_
  refine hc_newI hx hb (hts (.arrayClass .int) (by decide +kernel)) hG hA hP hD hS 4 (by decide) ⟨Nat.le_of_ble_eq_true rfl, Nat.le_of_ble_eq_true rfl⟩ dX9_init_337 (fun q_49 H hP hD hS => ?_)
  refine va_putF (D := D) (ci := 7) (v := .ref q_49) (C := RX9) (T := TX9) (N := 53) hx hb hts in9 tyX9 tyX9_ok nmX9 hown hG.1 hP hD hS 0 rfl rfl 46 (by decide) (hts (.fieldLink RX9 113 "ChairCaneModel" "secondHas" "[I") (by decide +kernel)) (fun _ h9 => h9) rfl hin rfl (tyX9_ok 46 (by decide)) rfl rfl (Nat.le_of_ble_eq_true rfl) dX9_init_339 (fun H locs hP hD hS => ?_)
  obtain ⟨hP, hD⟩ := cv (w' := ([(h0, .inr (7, [.int 0, .ref q_1, .ref q_10, .ref q_11, .ref q_12, .ref q_13, .ref q_14, .ref q_15, .ref q_16, .ref q_17, .ref q_18, .ref q_19, .ref q_20, .ref q_21, .ref q_22, .ref q_23, .ref q_24, .ref q_25, .int 0, .int 0, .int 0, .int 0, .int 0, .int 0, .int 0, .int 0, .int 0, .int 11, .ref q_26, .ref q_27, .ref q_28, .ref q_29, .ref q_30, .ref q_31, .ref q_32, .ref q_33, .ref q_34, .ref q_35, .ref q_36, .ref q_45, .ref q_46, .int 0, .int 0, .int 0, .ref q_47, .ref q_48, .ref q_49, .null, .null, .null, .null, .int 0, .int 0])), (q_1, hcI k 8 (upd (upd (upd (upd (upd (upd (upd (upd (fun _ => 0) 0 0) 1 0) 2 0) 3 0) 4 0) 5 0) 6 0) 7 (-1))), (q_10, hcI k 4 (fun _ => 0)), (q_11, hcI k 8 (fun _ => 0)), (q_12, hcI k 8 (fun _ => 0)), (q_13, hcI k 8 (fun _ => 0)), (q_14, hcI k 8 (fun _ => 0)), (q_15, hcI k 8 (fun _ => 0)), (q_16, hcI k 10 (fun _ => 0)), (q_17, hcI k 10 (fun _ => 0)), (q_18, hcI k 10 (fun _ => 0)), (q_19, hcI k 4 (fun _ => 0)), (q_20, hcI k 4 (fun _ => 0)), (q_21, hcI k 4 (fun _ => 0)), (q_22, hcI k 8 (fun _ => 0)), (q_23, hcI k 8 (fun _ => 0)), (q_24, hcI k 8 (fun _ => 0)), (q_25, hcI k 8 (fun _ => 0)), (q_26, hcY k 400 (fun _ => 0)), (q_27, hcI k 1800 (fun _ => 0)), (q_28, hcI k 1800 (fun _ => 0)), (q_29, hcI k 6 (fun _ => 0)), (q_30, hcI k 72 (fun _ => 0)), (q_31, hcI k 72 (fun _ => 0)), (q_32, hcI k 72 (fun _ => 0)), (q_33, hcI k 402 (fun _ => 0)), (q_34, hcJ k 11 (fun _ => 0)), (q_35, hcJ k 300 (fun _ => 0)), (q_36, hcI k 8 (upd (upd (upd (upd (upd (upd (upd (upd (fun _ => 0) 0 (-1)) 1 (-1)) 2 (-1)) 3 (-1)) 4 (-1)) 5 (-1)) 6 (-1)) 7 (-1))), (q_45, hcI k 260 (fun _ => 0)), (q_46, hcI k 1 (fun _ => 0)), (q_47, hcZ k 256 (fun _ => 0)), (q_48, hcI k 4 (fun _ => 0)), (q_49, hcI k 4 (fun _ => 0))] : va_W)) hP hD rfl
  refine lv_aload_n hx hb dX9_init_342 rfl (lv_at hl 0 rfl) ?_
  refine lv_sipush (v := 488) hx hb dX9_init_343 (by decide) ?_
  refine hc_newI hx hb (hts (.arrayClass .int) (by decide +kernel)) hG hA hP hD hS 488 (by decide) ⟨Nat.le_of_ble_eq_true rfl, Nat.le_of_ble_eq_true rfl⟩ dX9_init_346 (fun q_50 H hP hD hS => ?_)
  refine va_putF (D := D) (ci := 7) (v := .ref q_50) (C := RX9) (T := TX9) (N := 53) hx hb hts in9 tyX9 tyX9_ok nmX9 hown hG.1 hP hD hS 0 rfl rfl 47 (by decide) (hts (.fieldLink RX9 116 "ChairCaneModel" "lay" "[I") (by decide +kernel)) (fun _ h9 => h9) rfl hin rfl (tyX9_ok 47 (by decide)) rfl rfl (Nat.le_of_ble_eq_true rfl) dX9_init_348 (fun H locs hP hD hS => ?_)
  obtain ⟨hP, hD⟩ := cv (w' := ([(h0, .inr (7, [.int 0, .ref q_1, .ref q_10, .ref q_11, .ref q_12, .ref q_13, .ref q_14, .ref q_15, .ref q_16, .ref q_17, .ref q_18, .ref q_19, .ref q_20, .ref q_21, .ref q_22, .ref q_23, .ref q_24, .ref q_25, .int 0, .int 0, .int 0, .int 0, .int 0, .int 0, .int 0, .int 0, .int 0, .int 11, .ref q_26, .ref q_27, .ref q_28, .ref q_29, .ref q_30, .ref q_31, .ref q_32, .ref q_33, .ref q_34, .ref q_35, .ref q_36, .ref q_45, .ref q_46, .int 0, .int 0, .int 0, .ref q_47, .ref q_48, .ref q_49, .ref q_50, .null, .null, .null, .int 0, .int 0])), (q_1, hcI k 8 (upd (upd (upd (upd (upd (upd (upd (upd (fun _ => 0) 0 0) 1 0) 2 0) 3 0) 4 0) 5 0) 6 0) 7 (-1))), (q_10, hcI k 4 (fun _ => 0)), (q_11, hcI k 8 (fun _ => 0)), (q_12, hcI k 8 (fun _ => 0)), (q_13, hcI k 8 (fun _ => 0)), (q_14, hcI k 8 (fun _ => 0)), (q_15, hcI k 8 (fun _ => 0)), (q_16, hcI k 10 (fun _ => 0)), (q_17, hcI k 10 (fun _ => 0)), (q_18, hcI k 10 (fun _ => 0)), (q_19, hcI k 4 (fun _ => 0)), (q_20, hcI k 4 (fun _ => 0)), (q_21, hcI k 4 (fun _ => 0)), (q_22, hcI k 8 (fun _ => 0)), (q_23, hcI k 8 (fun _ => 0)), (q_24, hcI k 8 (fun _ => 0)), (q_25, hcI k 8 (fun _ => 0)), (q_26, hcY k 400 (fun _ => 0)), (q_27, hcI k 1800 (fun _ => 0)), (q_28, hcI k 1800 (fun _ => 0)), (q_29, hcI k 6 (fun _ => 0)), (q_30, hcI k 72 (fun _ => 0)), (q_31, hcI k 72 (fun _ => 0)), (q_32, hcI k 72 (fun _ => 0)), (q_33, hcI k 402 (fun _ => 0)), (q_34, hcJ k 11 (fun _ => 0)), (q_35, hcJ k 300 (fun _ => 0)), (q_36, hcI k 8 (upd (upd (upd (upd (upd (upd (upd (upd (fun _ => 0) 0 (-1)) 1 (-1)) 2 (-1)) 3 (-1)) 4 (-1)) 5 (-1)) 6 (-1)) 7 (-1))), (q_45, hcI k 260 (fun _ => 0)), (q_46, hcI k 1 (fun _ => 0)), (q_47, hcZ k 256 (fun _ => 0)), (q_48, hcI k 4 (fun _ => 0)), (q_49, hcI k 4 (fun _ => 0)), (q_50, hcI k 488 (fun _ => 0))] : va_W)) hP hD rfl
  refine lv_aload_n hx hb dX9_init_351 rfl (lv_at hl 0 rfl) ?_
  refine lv_bipush (v := 56) hx hb dX9_init_352 (by decide) ?_
  refine hc_newI hx hb (hts (.arrayClass .int) (by decide +kernel)) hG hA hP hD hS 56 (by decide) ⟨Nat.le_of_ble_eq_true rfl, Nat.le_of_ble_eq_true rfl⟩ dX9_init_354 (fun q_51 H hP hD hS => ?_)
  refine va_putF (D := D) (ci := 7) (v := .ref q_51) (C := RX9) (T := TX9) (N := 53) hx hb hts in9 tyX9 tyX9_ok nmX9 hown hG.1 hP hD hS 0 rfl rfl 48 (by decide) (hts (.fieldLink RX9 119 "ChairCaneModel" "shows" "[I") (by decide +kernel)) (fun _ h9 => h9) rfl hin rfl (tyX9_ok 48 (by decide)) rfl rfl (Nat.le_of_ble_eq_true rfl) dX9_init_356 (fun H locs hP hD hS => ?_)
  obtain ⟨hP, hD⟩ := cv (w' := ([(h0, .inr (7, [.int 0, .ref q_1, .ref q_10, .ref q_11, .ref q_12, .ref q_13, .ref q_14, .ref q_15, .ref q_16, .ref q_17, .ref q_18, .ref q_19, .ref q_20, .ref q_21, .ref q_22, .ref q_23, .ref q_24, .ref q_25, .int 0, .int 0, .int 0, .int 0, .int 0, .int 0, .int 0, .int 0, .int 0, .int 11, .ref q_26, .ref q_27, .ref q_28, .ref q_29, .ref q_30, .ref q_31, .ref q_32, .ref q_33, .ref q_34, .ref q_35, .ref q_36, .ref q_45, .ref q_46, .int 0, .int 0, .int 0, .ref q_47, .ref q_48, .ref q_49, .ref q_50, .ref q_51, .null, .null, .int 0, .int 0])), (q_1, hcI k 8 (upd (upd (upd (upd (upd (upd (upd (upd (fun _ => 0) 0 0) 1 0) 2 0) 3 0) 4 0) 5 0) 6 0) 7 (-1))), (q_10, hcI k 4 (fun _ => 0)), (q_11, hcI k 8 (fun _ => 0)), (q_12, hcI k 8 (fun _ => 0)), (q_13, hcI k 8 (fun _ => 0)), (q_14, hcI k 8 (fun _ => 0)), (q_15, hcI k 8 (fun _ => 0)), (q_16, hcI k 10 (fun _ => 0)), (q_17, hcI k 10 (fun _ => 0)), (q_18, hcI k 10 (fun _ => 0)), (q_19, hcI k 4 (fun _ => 0)), (q_20, hcI k 4 (fun _ => 0)), (q_21, hcI k 4 (fun _ => 0)), (q_22, hcI k 8 (fun _ => 0)), (q_23, hcI k 8 (fun _ => 0)), (q_24, hcI k 8 (fun _ => 0)), (q_25, hcI k 8 (fun _ => 0)), (q_26, hcY k 400 (fun _ => 0)), (q_27, hcI k 1800 (fun _ => 0)), (q_28, hcI k 1800 (fun _ => 0)), (q_29, hcI k 6 (fun _ => 0)), (q_30, hcI k 72 (fun _ => 0)), (q_31, hcI k 72 (fun _ => 0)), (q_32, hcI k 72 (fun _ => 0)), (q_33, hcI k 402 (fun _ => 0)), (q_34, hcJ k 11 (fun _ => 0)), (q_35, hcJ k 300 (fun _ => 0)), (q_36, hcI k 8 (upd (upd (upd (upd (upd (upd (upd (upd (fun _ => 0) 0 (-1)) 1 (-1)) 2 (-1)) 3 (-1)) 4 (-1)) 5 (-1)) 6 (-1)) 7 (-1))), (q_45, hcI k 260 (fun _ => 0)), (q_46, hcI k 1 (fun _ => 0)), (q_47, hcZ k 256 (fun _ => 0)), (q_48, hcI k 4 (fun _ => 0)), (q_49, hcI k 4 (fun _ => 0)), (q_50, hcI k 488 (fun _ => 0)), (q_51, hcI k 56 (fun _ => 0))] : va_W)) hP hD rfl
  refine lv_aload_n hx hb dX9_init_359 rfl (lv_at hl 0 rfl) ?_
  refine lv_sipush (v := 2000) hx hb dX9_init_360 (by decide) ?_
  refine hc_newI hx hb (hts (.arrayClass .int) (by decide +kernel)) hG hA hP hD hS 2000 (by decide) ⟨Nat.le_of_ble_eq_true rfl, Nat.le_of_ble_eq_true rfl⟩ dX9_init_363 (fun q_52 H hP hD hS => ?_)
  refine va_putF (D := D) (ci := 7) (v := .ref q_52) (C := RX9) (T := TX9) (N := 53) hx hb hts in9 tyX9 tyX9_ok nmX9 hown hG.1 hP hD hS 0 rfl rfl 49 (by decide) (hts (.fieldLink RX9 122 "ChairCaneModel" "images" "[I") (by decide +kernel)) (fun _ h9 => h9) rfl hin rfl (tyX9_ok 49 (by decide)) rfl rfl (Nat.le_of_ble_eq_true rfl) dX9_init_365 (fun H locs hP hD hS => ?_)
  obtain ⟨hP, hD⟩ := cv (w' := ([(h0, .inr (7, [.int 0, .ref q_1, .ref q_10, .ref q_11, .ref q_12, .ref q_13, .ref q_14, .ref q_15, .ref q_16, .ref q_17, .ref q_18, .ref q_19, .ref q_20, .ref q_21, .ref q_22, .ref q_23, .ref q_24, .ref q_25, .int 0, .int 0, .int 0, .int 0, .int 0, .int 0, .int 0, .int 0, .int 0, .int 11, .ref q_26, .ref q_27, .ref q_28, .ref q_29, .ref q_30, .ref q_31, .ref q_32, .ref q_33, .ref q_34, .ref q_35, .ref q_36, .ref q_45, .ref q_46, .int 0, .int 0, .int 0, .ref q_47, .ref q_48, .ref q_49, .ref q_50, .ref q_51, .ref q_52, .null, .int 0, .int 0])), (q_1, hcI k 8 (upd (upd (upd (upd (upd (upd (upd (upd (fun _ => 0) 0 0) 1 0) 2 0) 3 0) 4 0) 5 0) 6 0) 7 (-1))), (q_10, hcI k 4 (fun _ => 0)), (q_11, hcI k 8 (fun _ => 0)), (q_12, hcI k 8 (fun _ => 0)), (q_13, hcI k 8 (fun _ => 0)), (q_14, hcI k 8 (fun _ => 0)), (q_15, hcI k 8 (fun _ => 0)), (q_16, hcI k 10 (fun _ => 0)), (q_17, hcI k 10 (fun _ => 0)), (q_18, hcI k 10 (fun _ => 0)), (q_19, hcI k 4 (fun _ => 0)), (q_20, hcI k 4 (fun _ => 0)), (q_21, hcI k 4 (fun _ => 0)), (q_22, hcI k 8 (fun _ => 0)), (q_23, hcI k 8 (fun _ => 0)), (q_24, hcI k 8 (fun _ => 0)), (q_25, hcI k 8 (fun _ => 0)), (q_26, hcY k 400 (fun _ => 0)), (q_27, hcI k 1800 (fun _ => 0)), (q_28, hcI k 1800 (fun _ => 0)), (q_29, hcI k 6 (fun _ => 0)), (q_30, hcI k 72 (fun _ => 0)), (q_31, hcI k 72 (fun _ => 0)), (q_32, hcI k 72 (fun _ => 0)), (q_33, hcI k 402 (fun _ => 0)), (q_34, hcJ k 11 (fun _ => 0)), (q_35, hcJ k 300 (fun _ => 0)), (q_36, hcI k 8 (upd (upd (upd (upd (upd (upd (upd (upd (fun _ => 0) 0 (-1)) 1 (-1)) 2 (-1)) 3 (-1)) 4 (-1)) 5 (-1)) 6 (-1)) 7 (-1))), (q_45, hcI k 260 (fun _ => 0)), (q_46, hcI k 1 (fun _ => 0)), (q_47, hcZ k 256 (fun _ => 0)), (q_48, hcI k 4 (fun _ => 0)), (q_49, hcI k 4 (fun _ => 0)), (q_50, hcI k 488 (fun _ => 0)), (q_51, hcI k 56 (fun _ => 0)), (q_52, hcI k 2000 (fun _ => 0))] : va_W)) hP hD rfl
  refine lv_aload_n hx hb dX9_init_368 rfl (lv_at hl 0 rfl) ?_
  refine lv_iconst (v := 4) hx hb dX9_init_369 (by decide) ?_
  refine hc_newZ hx hb (hts (.arrayClass .boolean) (by decide +kernel)) hG hA hP hD hS 4 (by decide) ⟨Nat.le_of_ble_eq_true rfl, Nat.le_of_ble_eq_true rfl⟩ dX9_init_370 (fun q_53 H hP hD hS => ?_)
  refine va_putF (D := D) (ci := 7) (v := .ref q_53) (C := RX9) (T := TX9) (N := 53) hx hb hts in9 tyX9 tyX9_ok nmX9 hown hG.1 hP hD hS 0 rfl rfl 50 (by decide) (hts (.fieldLink RX9 125 "ChairCaneModel" "isMade" "[Z") (by decide +kernel)) (fun _ h9 => h9) rfl hin rfl (tyX9_ok 50 (by decide)) rfl rfl (Nat.le_of_ble_eq_true rfl) dX9_init_372 (fun H locs hP hD hS => ?_)
  obtain ⟨hP, hD⟩ := cv (w' := ([(h0, .inr (7, [.int 0, .ref q_1, .ref q_10, .ref q_11, .ref q_12, .ref q_13, .ref q_14, .ref q_15, .ref q_16, .ref q_17, .ref q_18, .ref q_19, .ref q_20, .ref q_21, .ref q_22, .ref q_23, .ref q_24, .ref q_25, .int 0, .int 0, .int 0, .int 0, .int 0, .int 0, .int 0, .int 0, .int 0, .int 11, .ref q_26, .ref q_27, .ref q_28, .ref q_29, .ref q_30, .ref q_31, .ref q_32, .ref q_33, .ref q_34, .ref q_35, .ref q_36, .ref q_45, .ref q_46, .int 0, .int 0, .int 0, .ref q_47, .ref q_48, .ref q_49, .ref q_50, .ref q_51, .ref q_52, .ref q_53, .int 0, .int 0])), (q_1, hcI k 8 (upd (upd (upd (upd (upd (upd (upd (upd (fun _ => 0) 0 0) 1 0) 2 0) 3 0) 4 0) 5 0) 6 0) 7 (-1))), (q_10, hcI k 4 (fun _ => 0)), (q_11, hcI k 8 (fun _ => 0)), (q_12, hcI k 8 (fun _ => 0)), (q_13, hcI k 8 (fun _ => 0)), (q_14, hcI k 8 (fun _ => 0)), (q_15, hcI k 8 (fun _ => 0)), (q_16, hcI k 10 (fun _ => 0)), (q_17, hcI k 10 (fun _ => 0)), (q_18, hcI k 10 (fun _ => 0)), (q_19, hcI k 4 (fun _ => 0)), (q_20, hcI k 4 (fun _ => 0)), (q_21, hcI k 4 (fun _ => 0)), (q_22, hcI k 8 (fun _ => 0)), (q_23, hcI k 8 (fun _ => 0)), (q_24, hcI k 8 (fun _ => 0)), (q_25, hcI k 8 (fun _ => 0)), (q_26, hcY k 400 (fun _ => 0)), (q_27, hcI k 1800 (fun _ => 0)), (q_28, hcI k 1800 (fun _ => 0)), (q_29, hcI k 6 (fun _ => 0)), (q_30, hcI k 72 (fun _ => 0)), (q_31, hcI k 72 (fun _ => 0)), (q_32, hcI k 72 (fun _ => 0)), (q_33, hcI k 402 (fun _ => 0)), (q_34, hcJ k 11 (fun _ => 0)), (q_35, hcJ k 300 (fun _ => 0)), (q_36, hcI k 8 (upd (upd (upd (upd (upd (upd (upd (upd (fun _ => 0) 0 (-1)) 1 (-1)) 2 (-1)) 3 (-1)) 4 (-1)) 5 (-1)) 6 (-1)) 7 (-1))), (q_45, hcI k 260 (fun _ => 0)), (q_46, hcI k 1 (fun _ => 0)), (q_47, hcZ k 256 (fun _ => 0)), (q_48, hcI k 4 (fun _ => 0)), (q_49, hcI k 4 (fun _ => 0)), (q_50, hcI k 488 (fun _ => 0)), (q_51, hcI k 56 (fun _ => 0)), (q_52, hcI k 2000 (fun _ => 0)), (q_53, hcZ k 4 (fun _ => 0))] : va_W)) hP hD rfl
  have hD := va_D.set (e := hcI k 8 (sc8 0 0 0 0 0 0 0 (-1))) hD (p := 1) rfl
  have hP := row_cong (g := (sc8 0 0 0 0 0 0 0 (-1))) hP 1 rfl (fun j hj => match j, hj with | 0, _ => rfl | 1, _ => rfl | 2, _ => rfl | 3, _ => rfl | 4, _ => rfl | 5, _ => rfl | 6, _ => rfl | 7, _ => rfl | n + 8, h => absurd h (by omega))
  obtain ⟨hP, hD⟩ := cv (w' := ([(h0, .inr (7, [.int 0, .ref q_1, .ref q_10, .ref q_11, .ref q_12, .ref q_13, .ref q_14, .ref q_15, .ref q_16, .ref q_17, .ref q_18, .ref q_19, .ref q_20, .ref q_21, .ref q_22, .ref q_23, .ref q_24, .ref q_25, .int 0, .int 0, .int 0, .int 0, .int 0, .int 0, .int 0, .int 0, .int 0, .int 11, .ref q_26, .ref q_27, .ref q_28, .ref q_29, .ref q_30, .ref q_31, .ref q_32, .ref q_33, .ref q_34, .ref q_35, .ref q_36, .ref q_45, .ref q_46, .int 0, .int 0, .int 0, .ref q_47, .ref q_48, .ref q_49, .ref q_50, .ref q_51, .ref q_52, .ref q_53, .int 0, .int 0])), (q_1, hcI k 8 (sc8 0 0 0 0 0 0 0 (-1))), (q_10, hcI k 4 (fun _ => 0)), (q_11, hcI k 8 (fun _ => 0)), (q_12, hcI k 8 (fun _ => 0)), (q_13, hcI k 8 (fun _ => 0)), (q_14, hcI k 8 (fun _ => 0)), (q_15, hcI k 8 (fun _ => 0)), (q_16, hcI k 10 (fun _ => 0)), (q_17, hcI k 10 (fun _ => 0)), (q_18, hcI k 10 (fun _ => 0)), (q_19, hcI k 4 (fun _ => 0)), (q_20, hcI k 4 (fun _ => 0)), (q_21, hcI k 4 (fun _ => 0)), (q_22, hcI k 8 (fun _ => 0)), (q_23, hcI k 8 (fun _ => 0)), (q_24, hcI k 8 (fun _ => 0)), (q_25, hcI k 8 (fun _ => 0)), (q_26, hcY k 400 (fun _ => 0)), (q_27, hcI k 1800 (fun _ => 0)), (q_28, hcI k 1800 (fun _ => 0)), (q_29, hcI k 6 (fun _ => 0)), (q_30, hcI k 72 (fun _ => 0)), (q_31, hcI k 72 (fun _ => 0)), (q_32, hcI k 72 (fun _ => 0)), (q_33, hcI k 402 (fun _ => 0)), (q_34, hcJ k 11 (fun _ => 0)), (q_35, hcJ k 300 (fun _ => 0)), (q_36, hcI k 8 (upd (upd (upd (upd (upd (upd (upd (upd (fun _ => 0) 0 (-1)) 1 (-1)) 2 (-1)) 3 (-1)) 4 (-1)) 5 (-1)) 6 (-1)) 7 (-1))), (q_45, hcI k 260 (fun _ => 0)), (q_46, hcI k 1 (fun _ => 0)), (q_47, hcZ k 256 (fun _ => 0)), (q_48, hcI k 4 (fun _ => 0)), (q_49, hcI k 4 (fun _ => 0)), (q_50, hcI k 488 (fun _ => 0)), (q_51, hcI k 56 (fun _ => 0)), (q_52, hcI k 2000 (fun _ => 0)), (q_53, hcZ k 4 (fun _ => 0))] : va_W)) hP hD rfl
  have hD := va_D.set (e := hcI k 4 (sc4 0 0 0 0)) hD (p := 12) rfl
  have hP := row_cong (g := (sc4 0 0 0 0)) hP 12 rfl (fun j hj => match j, hj with | 0, _ => rfl | 1, _ => rfl | 2, _ => rfl | 3, _ => rfl | n + 4, h => absurd h (by omega))
  obtain ⟨hP, hD⟩ := cv (w' := ([(h0, .inr (7, [.int 0, .ref q_1, .ref q_10, .ref q_11, .ref q_12, .ref q_13, .ref q_14, .ref q_15, .ref q_16, .ref q_17, .ref q_18, .ref q_19, .ref q_20, .ref q_21, .ref q_22, .ref q_23, .ref q_24, .ref q_25, .int 0, .int 0, .int 0, .int 0, .int 0, .int 0, .int 0, .int 0, .int 0, .int 11, .ref q_26, .ref q_27, .ref q_28, .ref q_29, .ref q_30, .ref q_31, .ref q_32, .ref q_33, .ref q_34, .ref q_35, .ref q_36, .ref q_45, .ref q_46, .int 0, .int 0, .int 0, .ref q_47, .ref q_48, .ref q_49, .ref q_50, .ref q_51, .ref q_52, .ref q_53, .int 0, .int 0])), (q_1, hcI k 8 (sc8 0 0 0 0 0 0 0 (-1))), (q_10, hcI k 4 (fun _ => 0)), (q_11, hcI k 8 (fun _ => 0)), (q_12, hcI k 8 (fun _ => 0)), (q_13, hcI k 8 (fun _ => 0)), (q_14, hcI k 8 (fun _ => 0)), (q_15, hcI k 8 (fun _ => 0)), (q_16, hcI k 10 (fun _ => 0)), (q_17, hcI k 10 (fun _ => 0)), (q_18, hcI k 10 (fun _ => 0)), (q_19, hcI k 4 (fun _ => 0)), (q_20, hcI k 4 (sc4 0 0 0 0)), (q_21, hcI k 4 (fun _ => 0)), (q_22, hcI k 8 (fun _ => 0)), (q_23, hcI k 8 (fun _ => 0)), (q_24, hcI k 8 (fun _ => 0)), (q_25, hcI k 8 (fun _ => 0)), (q_26, hcY k 400 (fun _ => 0)), (q_27, hcI k 1800 (fun _ => 0)), (q_28, hcI k 1800 (fun _ => 0)), (q_29, hcI k 6 (fun _ => 0)), (q_30, hcI k 72 (fun _ => 0)), (q_31, hcI k 72 (fun _ => 0)), (q_32, hcI k 72 (fun _ => 0)), (q_33, hcI k 402 (fun _ => 0)), (q_34, hcJ k 11 (fun _ => 0)), (q_35, hcJ k 300 (fun _ => 0)), (q_36, hcI k 8 (upd (upd (upd (upd (upd (upd (upd (upd (fun _ => 0) 0 (-1)) 1 (-1)) 2 (-1)) 3 (-1)) 4 (-1)) 5 (-1)) 6 (-1)) 7 (-1))), (q_45, hcI k 260 (fun _ => 0)), (q_46, hcI k 1 (fun _ => 0)), (q_47, hcZ k 256 (fun _ => 0)), (q_48, hcI k 4 (fun _ => 0)), (q_49, hcI k 4 (fun _ => 0)), (q_50, hcI k 488 (fun _ => 0)), (q_51, hcI k 56 (fun _ => 0)), (q_52, hcI k 2000 (fun _ => 0)), (q_53, hcZ k 4 (fun _ => 0))] : va_W)) hP hD rfl
  exact hc_endV hx hb hr hlocks (fun i => [h0, q_1, q_10, q_11, q_12, q_13, q_14, q_15, q_16, q_17, q_18, q_19, q_20, q_21, q_22, q_23, q_24, q_25, q_26, q_27, q_28, q_29, q_30, q_31, q_32, q_33, q_34, q_35, q_36, q_45, q_46, q_47, q_48, q_49, q_50, q_51, q_52, q_53].getD i 0) rfl (hP.sub [0, 2, 3, 4, 5, 6, 7, 8, 9, 10, 11, 13, 14, 15, 16, 17, 18, 19, 20, 21, 22, 23, 24, 25, 26, 27, 28, 29, 30, 31, 32, 33, 34, 35, 36, 37, 1, 12] rfl) (hD.sub [0, 2, 3, 4, 5, 6, 7, 8, 9, 10, 11, 13, 14, 15, 16, 17, 18, 19, 20, 21, 22, 23, 24, 25, 26, 27, 28, 29, 30, 31, 32, 33, 34, 35, 36, 37, 1, 12] (by decide +kernel) rfl) hS dX9_init_375
end
