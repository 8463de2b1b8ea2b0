/-! the law: what its start gives -/
noncomputable def R_law : String := "ChairCaneLaw"
noncomputable def lw_P (b : Addr) (xs : List Int32) (args : Array Value) (s : State) : Prop := args = #[.ref b] ∧ s.IntsAt b xs ∧ xs.length ≤ 3072 ∧ (Jvm.Cond.and given_1 narrow_1).before args s = true
noncomputable def lw_Q (_ : Array Value) (s : State) (o : Outcome) (t : State) : Prop := o = .returned (some (.int 1)) ∧ Framed s o t [] 600000 7302250
noncomputable def lw_Z (below : List Frame) (a : Array Value) (s : State) : State → Prop := fun t => ∃ o, t.status = .running ∧ Ended t below o ∧ lw_Q a s o t
/-- the law's own end, with 1 on the stack, nothing written that was there before, its room as the claim has it -/
theorem bf_l {a b : Cond} {args : Array Value} {s : State} (h : (Cond.and a b).before args s = true) : a.before args s = true := by
  rw [Cond.before_and, Bool.and_eq_true] at h
  exact h.1
theorem bf_r {a b : Cond} {args : Array Value} {s : State} (h : (Cond.and a b).before args s = true) : b.before args s = true := by
  rw [Cond.before_and, Bool.and_eq_true] at h
  exact h.2
theorem lw_ret {p : Program} {l : Launch} {e : Env} {s : State} {m : MethodId} {below : List Frame} {meth : Method} {c : Code} {b : Nat} (hx : p.tables.exec = Jvm.exec) (hb : c.code = code) (hr : meth.sig.returnType = ret) (hlocks : meth.locks = false) {pc : Nat} {H : Heap} {ls : Array Slot} (hdg : decode code pc = .ok (.ireturn, 1)) : W p l e room_1 s m #[Value.ref b] below meth c H [] 600000 7302250 (lw_Z below #[Value.ref b] s) (F0 m pc ls [.int 1]) := by
  intro T hT X
  obtain ⟨fs, hret, hrun, hended, hW, hframe⟩ := X.leave (v := some (.int 1)) (hlocks := hlocks) (fun h => by rw [hr] at h; cases h)
  have hmeth' : T.vm.method? m = some meth := X.method'
  refine ⟨T.setFrames fs, ?_, .returned (some (.int 1)), hrun, hended, rfl, ⟨_, rfl⟩, hW, hframe⟩
  jvm_step X.here [X.here.top, hx, hb, hdg, hmeth', hr, ret, narrow_b1]
  (try refine ⟨rfl, ?_⟩); (try refine ⟨rfl, ?_⟩)
  first | (intro acts; rw [hret _ acts rfl rfl rfl]) | rw [hret _ _ rfl rfl rfl]
  exact Steps.refl _
/-- what holds at the law's entry: the machine, the code, the tables' words (any of lw_tbl by 'hts w (by decide +kernel)'), the script of L ints xs at the cell b, what the Statement gives of the start (any of its parts by flat_of_before) -/
noncomputable def lw_At (p : Program) (s : State) (m : MethodId) (meth : Method) (c : Code) (b L : Nat) (xs : Nat → Int32) : Prop :=
  p.tables.exec = Jvm.exec ∧ c.code = code ∧ meth.sig.returnType = ret ∧ c.maxLocals = 4 ∧ s.vm.findClass R_law = some m.cls ∧ (∀ w ∈ lw_tbl, w.before #[Value.ref b] s = true) ∧ va_X b L xs s s.heap ∧ b < s.heap.size ∧ meth.locks = false ∧ (Jvm.Cond.and given_1 narrow_1).before #[Value.ref b] s = true

theorem hc_arr {args : Array Value} {s : State} {ty : FieldType} (h : (Cond.arrayClass ty).before args s = true) : ∃ cA : ClassId, ArrOfT s cA ty ∧ s.vm.findClass ("[" ++ ty.toString) = some cA := by
  obtain ⟨c, k, comp, h1, h2, h3⟩ := Cond.arrayClass_spec h
  exact ⟨c, fun n z => ⟨fun k h => (by cases h), k, h2, comp, h3⟩, h1⟩
theorem hc_arrO {args : Array Value} {s : State} {C : String} (h : (Cond.arrayOver (.object C)).before args s = true) : ∃ cA : ClassId, ArrOfT s cA (.object C) ∧ va_RA s cA (.object C) := by
  obtain ⟨comp, c, k, h1, -, h2, h3, h4⟩ := Cond.arrayOver_spec h
  exact ⟨c, fun n z => ⟨fun k h => (by cases h), k, h2, comp, h3⟩, ⟨k, comp, h2, h3, h1, h4⟩⟩
set_option maxHeartbeats 4000000 in
theorem law_GK {args : Array Value} {s : State} (hts : ∀ w ∈ lw_tbl, w.before args s = true) : ∃ (D : va_G) (k : Nat → ClassId), GK D k s := by
  obtain ⟨c0, iS0, hKn0⟩ := u_known (C := RX0) (T := TX0) (N := 5) (n := 5) hts inX0 (hts (.instantiable RX0 5) (List.mem_of_getElem? (i := 242) (by decide +kernel)))
  obtain ⟨c1, iS1, hKn1⟩ := u_known (C := RX2) (T := TX2) (N := 4) (n := 4) hts inX2 (hts (.instantiable RX2 4) (List.mem_of_getElem? (i := 265) (by decide +kernel)))
  obtain ⟨c2, iS2, hKn2⟩ := u_known (C := RX3) (T := TX3) (N := 17) (n := 17) hts inX3 (hts (.instantiable RX3 17) (List.mem_of_getElem? (i := 157) (by decide +kernel)))
  obtain ⟨c3, iS3, hKn3⟩ := u_known (C := RX4) (T := TX4) (N := 8) (n := 8) hts inX4 (hts (.instantiable RX4 8) (List.mem_of_getElem? (i := 308) (by decide +kernel)))
  obtain ⟨c4, iS4, hKn4⟩ := u_known (C := RX6) (T := TX6) (N := 5) (n := 5) hts inX6 (hts (.instantiable RX6 5) (List.mem_of_getElem? (i := 151) (by decide +kernel)))
  obtain ⟨c5, iS5, hKn5⟩ := u_known (C := RX7) (T := TX7) (N := 8) (n := 8) hts inX7 (hts (.instantiable RX7 8) (List.mem_of_getElem? (i := 114) (by decide +kernel)))
  obtain ⟨c6, iS6, hKn6⟩ := u_known (C := RX8) (T := TX8) (N := 12) (n := 12) hts inX8 (hts (.instantiable RX8 12) (List.mem_of_getElem? (i := 106) (by decide +kernel)))
  obtain ⟨c7, iS7, hKn7⟩ := u_known (C := RX9) (T := TX9) (N := 53) (n := 53) hts inX9 (hts (.instantiable RX9 53) (List.mem_of_getElem? (i := 948) (by decide +kernel)))
  obtain ⟨a0, aT0, aN0⟩ := hc_arr (ty := .int) (hts (.arrayClass .int) (List.mem_of_getElem? (i := 147) (by decide +kernel)))
  obtain ⟨a1, aT1, aN1⟩ := hc_arr (ty := .byte) (hts (.arrayClass .byte) (List.mem_of_getElem? (i := 146) (by decide +kernel)))
  obtain ⟨a2, aT2, aN2⟩ := hc_arr (ty := .boolean) (hts (.arrayClass .boolean) (List.mem_of_getElem? (i := 340) (by decide +kernel)))
  obtain ⟨a3, aT3, aN3⟩ := hc_arr (ty := .long) (hts (.arrayClass .long) (List.mem_of_getElem? (i := 341) (by decide +kernel)))
  have hO4 : (Cond.arrayOver (.object RX4)).before args s = true := hts _ (List.mem_of_getElem? (i := 149) (by decide +kernel))
  obtain ⟨a4, aT4, aN4⟩ := hc_arrO hO4
  have hO5 : (Cond.arrayOver (.object RX6)).before args s = true := hts _ (List.mem_of_getElem? (i := 305) (by decide +kernel))
  obtain ⟨a5, aT5, aN5⟩ := hc_arrO hO5
  refine ⟨(fun k => if k = 0 then c0 else if k = 1 then c1 else if k = 2 then c2 else if k = 3 then c3 else if k = 4 then c4 else if k = 5 then c5 else if k = 6 then c6 else c7, fun k => if k = 0 then iS0 else if k = 1 then iS1 else if k = 2 then iS2 else if k = 3 then iS3 else if k = 4 then iS4 else if k = 5 then iS5 else if k = 6 then iS6 else iS7), fun k => if k = 0 then a0 else if k = 1 then a1 else if k = 2 then a2 else if k = 3 then a3 else if k = 4 then a4 else a5, ⟨?_, ?_⟩, va_AO.of hO4, va_AO.of hO5, ⟨va_Nw.of rfl (hts (.methodLinkNest RX8 9 yX7_init RX8) (List.mem_of_getElem? (i := 115) (by decide +kernel))), va_Nw.of rfl (hts (.methodLinkNest RX8 28 yX6_init RX8) (List.mem_of_getElem? (i := 152) (by decide +kernel))), va_Nw.of rfl (hts (.methodLinkNest RX6 11 yX3_init RX8) (List.mem_of_getElem? (i := 158) (by decide +kernel))), va_Nw.of rfl (hts (.methodLinkNest RX6 20 yX0_init RX8) (List.mem_of_getElem? (i := 243) (by decide +kernel))), va_Nw.of rfl (hts (.methodLinkNest RX6 27 yX2_init RX8) (List.mem_of_getElem? (i := 266) (by decide +kernel))), va_Nw.of rfl (hts (.methodLinkNest RX8 43 yX3_init RX8) (List.mem_of_getElem? (i := 307) (by decide +kernel))), va_Nw.of rfl (hts (.methodLinkNest RX8 64 yX4_init RX8) (List.mem_of_getElem? (i := 309) (by decide +kernel)))⟩⟩
  · intro k q hq
    match k, hq with
    | 0, hq => cases hq; exact hKn0
    | 1, hq => cases hq; exact hKn1
    | 2, hq => cases hq; exact hKn2
    | 3, hq => cases hq; exact hKn3
    | 4, hq => cases hq; exact hKn4
    | 5, hq => cases hq; exact hKn5
    | 6, hq => cases hq; exact hKn6
    | 7, hq => cases hq; exact hKn7
    | k + 8, hq => simp [vwCl] at hq
  · intro k q hq
    match k, hq with
    | 0, hq => cases hq; exact ⟨aT0, aN0⟩
    | 1, hq => cases hq; exact ⟨aT1, aN1⟩
    | 2, hq => cases hq; exact ⟨aT2, aN2⟩
    | 3, hq => cases hq; exact ⟨aT3, aN3⟩
    | 4, hq => cases hq; exact ⟨aT4, aN4⟩
    | 5, hq => cases hq; exact ⟨aT5, aN5⟩
    | k + 6, hq => simp [tysA] at hq
theorem str_of {args : Array Value} {s : State} {A : Nat → Prop} (own : String) (ix n : Nat) (bt : List Int32) (hn : n < 2 ^ 31) (hex : (Cond.exactly (.string own ix) "java/lang/String").before args s = true) (hco : (Cond.eq (.field (.string own ix) "java/lang/String" "coder" "B") (.int 0)).before args s = true) (har : (Cond.arrayOf (.field (.string own ix) "java/lang/String" "value" "[B") .byte).before args s = true) (hle : (Cond.eq (.length (.field (.string own ix) "java/lang/String" "value" "[B")) (.int (Int32.ofNat n))).before args s = true) (hel : ∀ j : Nat, j < n → (Cond.eq (.elem (.field (.string own ix) "java/lang/String" "value" "[B") (.int (Int32.ofNat j))) (.int (bt.getD j 0))).before args s = true) (hA : ∀ a : Nat, a < s.heap.size → ¬ A a) : ∃ a t : Nat, strF A a t n (fun j => bt.getD j 0) s s.heap ∧ (Term.string own ix).eval args s none [] s = some (.ref a) := by
  obtain ⟨aK, aV, h, hev⟩ := vk_Sof (N := 1) (tm := fun _ => .string own ix) (len := [n]) (byt := [bt]) (A := A) (fun i hi => (by have e : i = 0 := Nat.lt_one_iff.mp hi; subst e; exact hn)) (fun i _ => hex) (fun i _ => hco) (fun i _ => har) (fun i hi => (by have e : i = 0 := Nat.lt_one_iff.mp hi; subst e; exact hle)) (fun i hi j hj => (by have e : i = 0 := Nat.lt_one_iff.mp hi; subst e; exact hel j hj)) (fun i j hi hj hij => absurd ((Nat.lt_one_iff.mp hi).trans (Nat.lt_one_iff.mp hj).symm) hij) hA
  have h0 := h.1 0 (by decide)
  exact ⟨aK 0, aV 0, ⟨h0.1, h0.2.1, h0.2.2.1, h0.2.2.2⟩, hev 0 (by decide)⟩
theorem law_stat {b : Nat} {s : State} (hts : ∀ w ∈ lw_tbl, w.before #[Value.ref b] s = true) (hgv : (Jvm.Cond.and given_1 narrow_1).before #[Value.ref b] s = true) : cmpF (fun q : Nat => s.heap.size ≤ q) s s.heap ∧ fmtF (fun q : Nat => s.heap.size ≤ q) s s.heap := by
  have hs := flat_of_before _ hgv
  have hA : ∀ a : Nat, a < s.heap.size → ¬ (fun q : Nat => s.heap.size ≤ q) a := fun a h => Nat.not_le.mpr h
  exact ⟨va_Zof (hts (.laysStatic "java/lang/String" "COMPACT_STRINGS" "Z") (List.mem_of_getElem? (i := 452) (by decide +kernel))) (hts (.initialized "java/lang/String") (List.mem_of_getElem? (i := 96) (by decide +kernel))) (va_eqi (show Jvm.Cond.before (Cond.eq (.static "java/lang/String" "COMPACT_STRINGS" "Z") (.int 1)) #[Value.ref b] s = true from bf_l (bf_r (bf_l (bf_l (bf_l (bf_l (bf_l (bf_l (bf_r hgv)))))))))) hA, va_Zqof (hts (.laysStatic "jdk/internal/util/Preconditions" "SIOOBE_FORMATTER" "Ljava/util/function/BiFunction;") (List.mem_of_getElem? (i := 468) (by decide +kernel))) (hts (.initialized "jdk/internal/util/Preconditions") (List.mem_of_getElem? (i := 98) (by decide +kernel))) (show Jvm.Cond.before (Cond.isRef (.static "jdk/internal/util/Preconditions" "SIOOBE_FORMATTER" "Ljava/util/function/BiFunction;")) #[Value.ref b] s = true from bf_l (bf_r (bf_r (bf_l (bf_l (bf_l (bf_l (bf_l (bf_l (bf_r hgv)))))))))) hA⟩
set_option maxHeartbeats 4000000 in
set_option maxRecDepth 20000 in
theorem law_tX_0 {b : Nat} {s : State} (hgv : (Jvm.Cond.and given_1 narrow_1).before #[Value.ref b] s = true) : ∃ d t : Nat, strF (fun q : Nat => s.heap.size ≤ q) d t 6 (fun j => ([115, 105, 116, 116, 101, 114] : List Int32).getD j 0) s s.heap ∧ (Term.string "ChairCane$Tape" 97).eval #[Value.ref b] s none [] s = some (.ref d) := by
  have hs := flat_of_before _ hgv
  have hA : ∀ a : Nat, a < s.heap.size → ¬ (fun q : Nat => s.heap.size ≤ q) a := fun a h => Nat.not_le.mpr h
  exact str_of (A := fun q : Nat => s.heap.size ≤ q) "ChairCane$Tape" 97 6 [115, 105, 116, 116, 101, 114] (by decide) (show Jvm.Cond.before (Cond.exactly (.string "ChairCane$Tape" 97) "java/lang/String") #[Value.ref b] s = true from bf_r (bf_l (bf_l (bf_l (bf_r (bf_l (bf_l (bf_l (bf_r hgv))))))))) (show Jvm.Cond.before (Cond.eq (.field (.string "ChairCane$Tape" 97) "java/lang/String" "coder" "B") (.int 0)) #[Value.ref b] s = true from bf_l (bf_r (bf_l (bf_l (bf_r (bf_l (bf_l (bf_l (bf_r hgv))))))))) (show Jvm.Cond.before (Cond.arrayOf (.field (.string "ChairCane$Tape" 97) "java/lang/String" "value" "[B") .byte) #[Value.ref b] s = true from bf_l (bf_r (bf_r (bf_l (bf_l (bf_r (bf_l (bf_l (bf_l (bf_r hgv)))))))))) (show Jvm.Cond.before (Cond.eq (.length (.field (.string "ChairCane$Tape" 97) "java/lang/String" "value" "[B")) (.int 6)) #[Value.ref b] s = true from bf_r (bf_r (bf_r (bf_l (bf_l (bf_r (bf_l (bf_l (bf_l (bf_r hgv)))))))))) (by
      intro j hj
      match j, hj with
      | 0, _ => exact show Jvm.Cond.before (Cond.eq (.elem (.field (.string "ChairCane$Tape" 97) "java/lang/String" "value" "[B") (.int 0)) (.int 115)) #[Value.ref b] s = true from bf_l (bf_l (bf_r (bf_l (bf_r (bf_l (bf_l (bf_l (bf_r hgv))))))))
      | 1, _ => exact show Jvm.Cond.before (Cond.eq (.elem (.field (.string "ChairCane$Tape" 97) "java/lang/String" "value" "[B") (.int 1)) (.int 105)) #[Value.ref b] s = true from bf_l (bf_r (bf_l (bf_r (bf_l (bf_r (bf_l (bf_l (bf_l (bf_r hgv)))))))))
      | 2, _ => exact show Jvm.Cond.before (Cond.eq (.elem (.field (.string "ChairCane$Tape" 97) "java/lang/String" "value" "[B") (.int 2)) (.int 116)) #[Value.ref b] s = true from bf_r (bf_r (bf_l (bf_r (bf_l (bf_r (bf_l (bf_l (bf_l (bf_r hgv)))))))))
      | 3, _ => exact show Jvm.Cond.before (Cond.eq (.elem (.field (.string "ChairCane$Tape" 97) "java/lang/String" "value" "[B") (.int 3)) (.int 116)) #[Value.ref b] s = true from bf_l (bf_r (bf_r (bf_l (bf_r (bf_l (bf_l (bf_l (bf_r hgv))))))))
      | 4, _ => exact show Jvm.Cond.before (Cond.eq (.elem (.field (.string "ChairCane$Tape" 97) "java/lang/String" "value" "[B") (.int 4)) (.int 101)) #[Value.ref b] s = true from bf_l (bf_r (bf_r (bf_r (bf_l (bf_r (bf_l (bf_l (bf_l (bf_r hgv)))))))))
      | 5, _ => exact show Jvm.Cond.before (Cond.eq (.elem (.field (.string "ChairCane$Tape" 97) "java/lang/String" "value" "[B") (.int 5)) (.int 114)) #[Value.ref b] s = true from bf_r (bf_r (bf_r (bf_r (bf_l (bf_r (bf_l (bf_l (bf_l (bf_r hgv)))))))))
      | j + 6, h => exact absurd h (by omega)) hA
set_option maxHeartbeats 4000000 in
set_option maxRecDepth 20000 in
theorem law_tX_1 {b : Nat} {s : State} (hgv : (Jvm.Cond.and given_1 narrow_1).before #[Value.ref b] s = true) : ∃ d t : Nat, strF (fun q : Nat => s.heap.size ≤ q) d t 5 (fun j => ([99, 104, 97, 105, 114] : List Int32).getD j 0) s s.heap ∧ (Term.string "ChairCane$Tape" 99).eval #[Value.ref b] s none [] s = some (.ref d) := by
  have hs := flat_of_before _ hgv
  have hA : ∀ a : Nat, a < s.heap.size → ¬ (fun q : Nat => s.heap.size ≤ q) a := fun a h => Nat.not_le.mpr h
  exact str_of (A := fun q : Nat => s.heap.size ≤ q) "ChairCane$Tape" 99 5 [99, 104, 97, 105, 114] (by decide) (show Jvm.Cond.before (Cond.exactly (.string "ChairCane$Tape" 99) "java/lang/String") #[Value.ref b] s = true from bf_l (bf_l (bf_l (bf_r (bf_r (bf_l (bf_l (bf_l (bf_r hgv))))))))) (show Jvm.Cond.before (Cond.eq (.field (.string "ChairCane$Tape" 99) "java/lang/String" "coder" "B") (.int 0)) #[Value.ref b] s = true from bf_r (bf_l (bf_l (bf_r (bf_r (bf_l (bf_l (bf_l (bf_r hgv))))))))) (show Jvm.Cond.before (Cond.arrayOf (.field (.string "ChairCane$Tape" 99) "java/lang/String" "value" "[B") .byte) #[Value.ref b] s = true from bf_l (bf_r (bf_l (bf_r (bf_r (bf_l (bf_l (bf_l (bf_r hgv))))))))) (show Jvm.Cond.before (Cond.eq (.length (.field (.string "ChairCane$Tape" 99) "java/lang/String" "value" "[B")) (.int 5)) #[Value.ref b] s = true from bf_l (bf_r (bf_r (bf_l (bf_r (bf_r (bf_l (bf_l (bf_l (bf_r hgv)))))))))) (by
      intro j hj
      match j, hj with
      | 0, _ => exact show Jvm.Cond.before (Cond.eq (.elem (.field (.string "ChairCane$Tape" 99) "java/lang/String" "value" "[B") (.int 0)) (.int 99)) #[Value.ref b] s = true from bf_r (bf_r (bf_r (bf_l (bf_r (bf_r (bf_l (bf_l (bf_l (bf_r hgv)))))))))
      | 1, _ => exact show Jvm.Cond.before (Cond.eq (.elem (.field (.string "ChairCane$Tape" 99) "java/lang/String" "value" "[B") (.int 1)) (.int 104)) #[Value.ref b] s = true from bf_l (bf_l (bf_r (bf_r (bf_r (bf_l (bf_l (bf_l (bf_r hgv))))))))
      | 2, _ => exact show Jvm.Cond.before (Cond.eq (.elem (.field (.string "ChairCane$Tape" 99) "java/lang/String" "value" "[B") (.int 2)) (.int 97)) #[Value.ref b] s = true from bf_l (bf_r (bf_l (bf_r (bf_r (bf_r (bf_l (bf_l (bf_l (bf_r hgv)))))))))
      | 3, _ => exact show Jvm.Cond.before (Cond.eq (.elem (.field (.string "ChairCane$Tape" 99) "java/lang/String" "value" "[B") (.int 3)) (.int 105)) #[Value.ref b] s = true from bf_r (bf_r (bf_l (bf_r (bf_r (bf_r (bf_l (bf_l (bf_l (bf_r hgv)))))))))
      | 4, _ => exact show Jvm.Cond.before (Cond.eq (.elem (.field (.string "ChairCane$Tape" 99) "java/lang/String" "value" "[B") (.int 4)) (.int 114)) #[Value.ref b] s = true from bf_l (bf_r (bf_r (bf_r (bf_r (bf_l (bf_l (bf_l (bf_r hgv))))))))
      | j + 5, h => exact absurd h (by omega)) hA
set_option maxHeartbeats 4000000 in
set_option maxRecDepth 20000 in
theorem law_tX_2 {b : Nat} {s : State} (hgv : (Jvm.Cond.and given_1 narrow_1).before #[Value.ref b] s = true) : ∃ d t : Nat, strF (fun q : Nat => s.heap.size ≤ q) d t 6 (fun j => ([119, 101, 105, 103, 104, 116] : List Int32).getD j 0) s s.heap ∧ (Term.string "ChairCane$Tape" 101).eval #[Value.ref b] s none [] s = some (.ref d) := by
  have hs := flat_of_before _ hgv
  have hA : ∀ a : Nat, a < s.heap.size → ¬ (fun q : Nat => s.heap.size ≤ q) a := fun a h => Nat.not_le.mpr h
  exact str_of (A := fun q : Nat => s.heap.size ≤ q) "ChairCane$Tape" 101 6 [119, 101, 105, 103, 104, 116] (by decide) (show Jvm.Cond.before (Cond.exactly (.string "ChairCane$Tape" 101) "java/lang/String") #[Value.ref b] s = true from bf_l (bf_r (bf_r (bf_r (bf_r (bf_r (bf_l (bf_l (bf_l (bf_r hgv)))))))))) (show Jvm.Cond.before (Cond.eq (.field (.string "ChairCane$Tape" 101) "java/lang/String" "coder" "B") (.int 0)) #[Value.ref b] s = true from bf_r (bf_r (bf_r (bf_r (bf_r (bf_r (bf_l (bf_l (bf_l (bf_r hgv)))))))))) (show Jvm.Cond.before (Cond.arrayOf (.field (.string "ChairCane$Tape" 101) "java/lang/String" "value" "[B") .byte) #[Value.ref b] s = true from bf_l (bf_l (bf_l (bf_l (bf_l (bf_r (bf_l (bf_l (bf_r hgv))))))))) (show Jvm.Cond.before (Cond.eq (.length (.field (.string "ChairCane$Tape" 101) "java/lang/String" "value" "[B")) (.int 6)) #[Value.ref b] s = true from bf_r (bf_l (bf_l (bf_l (bf_l (bf_r (bf_l (bf_l (bf_r hgv))))))))) (by
      intro j hj
      match j, hj with
      | 0, _ => exact show Jvm.Cond.before (Cond.eq (.elem (.field (.string "ChairCane$Tape" 101) "java/lang/String" "value" "[B") (.int 0)) (.int 119)) #[Value.ref b] s = true from bf_l (bf_r (bf_l (bf_l (bf_l (bf_r (bf_l (bf_l (bf_r hgv))))))))
      | 1, _ => exact show Jvm.Cond.before (Cond.eq (.elem (.field (.string "ChairCane$Tape" 101) "java/lang/String" "value" "[B") (.int 1)) (.int 101)) #[Value.ref b] s = true from bf_l (bf_r (bf_r (bf_l (bf_l (bf_l (bf_r (bf_l (bf_l (bf_r hgv)))))))))
      | 2, _ => exact show Jvm.Cond.before (Cond.eq (.elem (.field (.string "ChairCane$Tape" 101) "java/lang/String" "value" "[B") (.int 2)) (.int 105)) #[Value.ref b] s = true from bf_r (bf_r (bf_r (bf_l (bf_l (bf_l (bf_r (bf_l (bf_l (bf_r hgv)))))))))
      | 3, _ => exact show Jvm.Cond.before (Cond.eq (.elem (.field (.string "ChairCane$Tape" 101) "java/lang/String" "value" "[B") (.int 3)) (.int 103)) #[Value.ref b] s = true from bf_l (bf_l (bf_r (bf_l (bf_l (bf_r (bf_l (bf_l (bf_r hgv))))))))
      | 4, _ => exact show Jvm.Cond.before (Cond.eq (.elem (.field (.string "ChairCane$Tape" 101) "java/lang/String" "value" "[B") (.int 4)) (.int 104)) #[Value.ref b] s = true from bf_l (bf_r (bf_l (bf_r (bf_l (bf_l (bf_r (bf_l (bf_l (bf_r hgv)))))))))
      | 5, _ => exact show Jvm.Cond.before (Cond.eq (.elem (.field (.string "ChairCane$Tape" 101) "java/lang/String" "value" "[B") (.int 5)) (.int 116)) #[Value.ref b] s = true from bf_r (bf_r (bf_l (bf_r (bf_l (bf_l (bf_r (bf_l (bf_l (bf_r hgv)))))))))
      | j + 6, h => exact absurd h (by omega)) hA
set_option maxHeartbeats 4000000 in
set_option maxRecDepth 20000 in
theorem law_tX_3 {b : Nat} {s : State} (hgv : (Jvm.Cond.and given_1 narrow_1).before #[Value.ref b] s = true) : ∃ d t : Nat, strF (fun q : Nat => s.heap.size ≤ q) d t 6 (fun j => ([104, 101, 105, 103, 104, 116] : List Int32).getD j 0) s s.heap ∧ (Term.string "ChairCane$Tape" 103).eval #[Value.ref b] s none [] s = some (.ref d) := by
  have hs := flat_of_before _ hgv
  have hA : ∀ a : Nat, a < s.heap.size → ¬ (fun q : Nat => s.heap.size ≤ q) a := fun a h => Nat.not_le.mpr h
  exact str_of (A := fun q : Nat => s.heap.size ≤ q) "ChairCane$Tape" 103 6 [104, 101, 105, 103, 104, 116] (by decide) (show Jvm.Cond.before (Cond.exactly (.string "ChairCane$Tape" 103) "java/lang/String") #[Value.ref b] s = true from bf_l (bf_r (bf_r (bf_l (bf_l (bf_r (bf_l (bf_l (bf_r hgv))))))))) (show Jvm.Cond.before (Cond.eq (.field (.string "ChairCane$Tape" 103) "java/lang/String" "coder" "B") (.int 0)) #[Value.ref b] s = true from bf_l (bf_r (bf_r (bf_r (bf_l (bf_l (bf_r (bf_l (bf_l (bf_r hgv)))))))))) (show Jvm.Cond.before (Cond.arrayOf (.field (.string "ChairCane$Tape" 103) "java/lang/String" "value" "[B") .byte) #[Value.ref b] s = true from bf_r (bf_r (bf_r (bf_r (bf_l (bf_l (bf_r (bf_l (bf_l (bf_r hgv)))))))))) (show Jvm.Cond.before (Cond.eq (.length (.field (.string "ChairCane$Tape" 103) "java/lang/String" "value" "[B")) (.int 6)) #[Value.ref b] s = true from bf_l (bf_l (bf_l (bf_r (bf_l (bf_r (bf_l (bf_l (bf_r hgv))))))))) (by
      intro j hj
      match j, hj with
      | 0, _ => exact show Jvm.Cond.before (Cond.eq (.elem (.field (.string "ChairCane$Tape" 103) "java/lang/String" "value" "[B") (.int 0)) (.int 104)) #[Value.ref b] s = true from bf_r (bf_l (bf_l (bf_r (bf_l (bf_r (bf_l (bf_l (bf_r hgv))))))))
      | 1, _ => exact show Jvm.Cond.before (Cond.eq (.elem (.field (.string "ChairCane$Tape" 103) "java/lang/String" "value" "[B") (.int 1)) (.int 101)) #[Value.ref b] s = true from bf_l (bf_r (bf_l (bf_r (bf_l (bf_r (bf_l (bf_l (bf_r hgv))))))))
      | 2, _ => exact show Jvm.Cond.before (Cond.eq (.elem (.field (.string "ChairCane$Tape" 103) "java/lang/String" "value" "[B") (.int 2)) (.int 105)) #[Value.ref b] s = true from bf_l (bf_r (bf_r (bf_l (bf_r (bf_l (bf_r (bf_l (bf_l (bf_r hgv)))))))))
      | 3, _ => exact show Jvm.Cond.before (Cond.eq (.elem (.field (.string "ChairCane$Tape" 103) "java/lang/String" "value" "[B") (.int 3)) (.int 103)) #[Value.ref b] s = true from bf_r (bf_r (bf_r (bf_l (bf_r (bf_l (bf_r (bf_l (bf_l (bf_r hgv)))))))))
      | 4, _ => exact show Jvm.Cond.before (Cond.eq (.elem (.field (.string "ChairCane$Tape" 103) "java/lang/String" "value" "[B") (.int 4)) (.int 104)) #[Value.ref b] s = true from bf_l (bf_l (bf_r (bf_r (bf_l (bf_r (bf_l (bf_l (bf_r hgv))))))))
      | 5, _ => exact show Jvm.Cond.before (Cond.eq (.elem (.field (.string "ChairCane$Tape" 103) "java/lang/String" "value" "[B") (.int 5)) (.int 116)) #[Value.ref b] s = true from bf_l (bf_r (bf_l (bf_r (bf_r (bf_l (bf_r (bf_l (bf_l (bf_r hgv)))))))))
      | j + 6, h => exact absurd h (by omega)) hA
set_option maxHeartbeats 4000000 in
set_option maxRecDepth 20000 in
theorem law_tX_4 {b : Nat} {s : State} (hgv : (Jvm.Cond.and given_1 narrow_1).before #[Value.ref b] s = true) : ∃ d t : Nat, strF (fun q : Nat => s.heap.size ≤ q) d t 4 (fun j => ([99, 97, 110, 101] : List Int32).getD j 0) s s.heap ∧ (Term.string "ChairCane$Tape" 105).eval #[Value.ref b] s none [] s = some (.ref d) := by
  have hs := flat_of_before _ hgv
  have hA : ∀ a : Nat, a < s.heap.size → ¬ (fun q : Nat => s.heap.size ≤ q) a := fun a h => Nat.not_le.mpr h
  exact str_of (A := fun q : Nat => s.heap.size ≤ q) "ChairCane$Tape" 105 4 [99, 97, 110, 101] (by decide) (show Jvm.Cond.before (Cond.exactly (.string "ChairCane$Tape" 105) "java/lang/String") #[Value.ref b] s = true from bf_r (bf_r (bf_l (bf_r (bf_r (bf_l (bf_r (bf_l (bf_l (bf_r hgv)))))))))) (show Jvm.Cond.before (Cond.eq (.field (.string "ChairCane$Tape" 105) "java/lang/String" "coder" "B") (.int 0)) #[Value.ref b] s = true from bf_l (bf_r (bf_r (bf_r (bf_l (bf_r (bf_l (bf_l (bf_r hgv))))))))) (show Jvm.Cond.before (Cond.arrayOf (.field (.string "ChairCane$Tape" 105) "java/lang/String" "value" "[B") .byte) #[Value.ref b] s = true from bf_l (bf_r (bf_r (bf_r (bf_r (bf_l (bf_r (bf_l (bf_l (bf_r hgv)))))))))) (show Jvm.Cond.before (Cond.eq (.length (.field (.string "ChairCane$Tape" 105) "java/lang/String" "value" "[B")) (.int 4)) #[Value.ref b] s = true from bf_r (bf_r (bf_r (bf_r (bf_r (bf_l (bf_r (bf_l (bf_l (bf_r hgv)))))))))) (by
      intro j hj
      match j, hj with
      | 0, _ => exact show Jvm.Cond.before (Cond.eq (.elem (.field (.string "ChairCane$Tape" 105) "java/lang/String" "value" "[B") (.int 0)) (.int 99)) #[Value.ref b] s = true from bf_l (bf_l (bf_l (bf_l (bf_r (bf_r (bf_l (bf_l (bf_r hgv))))))))
      | 1, _ => exact show Jvm.Cond.before (Cond.eq (.elem (.field (.string "ChairCane$Tape" 105) "java/lang/String" "value" "[B") (.int 1)) (.int 97)) #[Value.ref b] s = true from bf_r (bf_l (bf_l (bf_l (bf_r (bf_r (bf_l (bf_l (bf_r hgv))))))))
      | 2, _ => exact show Jvm.Cond.before (Cond.eq (.elem (.field (.string "ChairCane$Tape" 105) "java/lang/String" "value" "[B") (.int 2)) (.int 110)) #[Value.ref b] s = true from bf_l (bf_r (bf_l (bf_l (bf_r (bf_r (bf_l (bf_l (bf_r hgv))))))))
      | 3, _ => exact show Jvm.Cond.before (Cond.eq (.elem (.field (.string "ChairCane$Tape" 105) "java/lang/String" "value" "[B") (.int 3)) (.int 101)) #[Value.ref b] s = true from bf_l (bf_r (bf_r (bf_l (bf_l (bf_r (bf_r (bf_l (bf_l (bf_r hgv)))))))))
      | j + 4, h => exact absurd h (by omega)) hA
set_option maxHeartbeats 4000000 in
set_option maxRecDepth 20000 in
theorem law_tX_5 {b : Nat} {s : State} (hgv : (Jvm.Cond.and given_1 narrow_1).before #[Value.ref b] s = true) : ∃ d t : Nat, strF (fun q : Nat => s.heap.size ≤ q) d t 4 (fun j => ([115, 105, 116, 115] : List Int32).getD j 0) s s.heap ∧ (Term.string "ChairCane$Tape" 107).eval #[Value.ref b] s none [] s = some (.ref d) := by
  have hs := flat_of_before _ hgv
  have hA : ∀ a : Nat, a < s.heap.size → ¬ (fun q : Nat => s.heap.size ≤ q) a := fun a h => Nat.not_le.mpr h
  exact str_of (A := fun q : Nat => s.heap.size ≤ q) "ChairCane$Tape" 107 4 [115, 105, 116, 115] (by decide) (show Jvm.Cond.before (Cond.exactly (.string "ChairCane$Tape" 107) "java/lang/String") #[Value.ref b] s = true from bf_r (bf_r (bf_r (bf_l (bf_l (bf_r (bf_r (bf_l (bf_l (bf_r hgv)))))))))) (show Jvm.Cond.before (Cond.eq (.field (.string "ChairCane$Tape" 107) "java/lang/String" "coder" "B") (.int 0)) #[Value.ref b] s = true from bf_l (bf_l (bf_r (bf_l (bf_r (bf_r (bf_l (bf_l (bf_r hgv))))))))) (show Jvm.Cond.before (Cond.arrayOf (.field (.string "ChairCane$Tape" 107) "java/lang/String" "value" "[B") .byte) #[Value.ref b] s = true from bf_l (bf_r (bf_l (bf_r (bf_l (bf_r (bf_r (bf_l (bf_l (bf_r hgv)))))))))) (show Jvm.Cond.before (Cond.eq (.length (.field (.string "ChairCane$Tape" 107) "java/lang/String" "value" "[B")) (.int 4)) #[Value.ref b] s = true from bf_r (bf_r (bf_l (bf_r (bf_l (bf_r (bf_r (bf_l (bf_l (bf_r hgv)))))))))) (by
      intro j hj
      match j, hj with
      | 0, _ => exact show Jvm.Cond.before (Cond.eq (.elem (.field (.string "ChairCane$Tape" 107) "java/lang/String" "value" "[B") (.int 0)) (.int 115)) #[Value.ref b] s = true from bf_l (bf_r (bf_r (bf_l (bf_r (bf_r (bf_l (bf_l (bf_r hgv))))))))
      | 1, _ => exact show Jvm.Cond.before (Cond.eq (.elem (.field (.string "ChairCane$Tape" 107) "java/lang/String" "value" "[B") (.int 1)) (.int 105)) #[Value.ref b] s = true from bf_l (bf_r (bf_r (bf_r (bf_l (bf_r (bf_r (bf_l (bf_l (bf_r hgv)))))))))
      | 2, _ => exact show Jvm.Cond.before (Cond.eq (.elem (.field (.string "ChairCane$Tape" 107) "java/lang/String" "value" "[B") (.int 2)) (.int 116)) #[Value.ref b] s = true from bf_r (bf_r (bf_r (bf_r (bf_l (bf_r (bf_r (bf_l (bf_l (bf_r hgv)))))))))
      | 3, _ => exact show Jvm.Cond.before (Cond.eq (.elem (.field (.string "ChairCane$Tape" 107) "java/lang/String" "value" "[B") (.int 3)) (.int 115)) #[Value.ref b] s = true from bf_l (bf_l (bf_l (bf_r (bf_r (bf_r (bf_l (bf_l (bf_r hgv))))))))
      | j + 4, h => exact absurd h (by omega)) hA
set_option maxHeartbeats 4000000 in
set_option maxRecDepth 20000 in
theorem law_tX_6 {b : Nat} {s : State} (hgv : (Jvm.Cond.and given_1 narrow_1).before #[Value.ref b] s = true) : ∃ d t : Nat, strF (fun q : Nat => s.heap.size ≤ q) d t 4 (fun j => ([103, 105, 118, 101] : List Int32).getD j 0) s s.heap ∧ (Term.string "ChairCane$Tape" 109).eval #[Value.ref b] s none [] s = some (.ref d) := by
  have hs := flat_of_before _ hgv
  have hA : ∀ a : Nat, a < s.heap.size → ¬ (fun q : Nat => s.heap.size ≤ q) a := fun a h => Nat.not_le.mpr h
  exact str_of (A := fun q : Nat => s.heap.size ≤ q) "ChairCane$Tape" 109 4 [103, 105, 118, 101] (by decide) (show Jvm.Cond.before (Cond.exactly (.string "ChairCane$Tape" 109) "java/lang/String") #[Value.ref b] s = true from bf_r (bf_l (bf_l (bf_r (bf_r (bf_r (bf_l (bf_l (bf_r hgv))))))))) (show Jvm.Cond.before (Cond.eq (.field (.string "ChairCane$Tape" 109) "java/lang/String" "coder" "B") (.int 0)) #[Value.ref b] s = true from bf_l (bf_r (bf_l (bf_r (bf_r (bf_r (bf_l (bf_l (bf_r hgv))))))))) (show Jvm.Cond.before (Cond.arrayOf (.field (.string "ChairCane$Tape" 109) "java/lang/String" "value" "[B") .byte) #[Value.ref b] s = true from bf_l (bf_r (bf_r (bf_l (bf_r (bf_r (bf_r (bf_l (bf_l (bf_r hgv)))))))))) (show Jvm.Cond.before (Cond.eq (.length (.field (.string "ChairCane$Tape" 109) "java/lang/String" "value" "[B")) (.int 4)) #[Value.ref b] s = true from bf_r (bf_r (bf_r (bf_l (bf_r (bf_r (bf_r (bf_l (bf_l (bf_r hgv)))))))))) (by
      intro j hj
      match j, hj with
      | 0, _ => exact show Jvm.Cond.before (Cond.eq (.elem (.field (.string "ChairCane$Tape" 109) "java/lang/String" "value" "[B") (.int 0)) (.int 103)) #[Value.ref b] s = true from bf_l (bf_l (bf_r (bf_r (bf_r (bf_r (bf_l (bf_l (bf_r hgv))))))))
      | 1, _ => exact show Jvm.Cond.before (Cond.eq (.elem (.field (.string "ChairCane$Tape" 109) "java/lang/String" "value" "[B") (.int 1)) (.int 105)) #[Value.ref b] s = true from bf_l (bf_r (bf_l (bf_r (bf_r (bf_r (bf_r (bf_l (bf_l (bf_r hgv)))))))))
      | 2, _ => exact show Jvm.Cond.before (Cond.eq (.elem (.field (.string "ChairCane$Tape" 109) "java/lang/String" "value" "[B") (.int 2)) (.int 118)) #[Value.ref b] s = true from bf_r (bf_r (bf_l (bf_r (bf_r (bf_r (bf_r (bf_l (bf_l (bf_r hgv)))))))))
      | 3, _ => exact show Jvm.Cond.before (Cond.eq (.elem (.field (.string "ChairCane$Tape" 109) "java/lang/String" "value" "[B") (.int 3)) (.int 101)) #[Value.ref b] s = true from bf_l (bf_r (bf_r (bf_r (bf_r (bf_r (bf_l (bf_l (bf_r hgv))))))))
      | j + 4, h => exact absurd h (by omega)) hA
set_option maxHeartbeats 4000000 in
set_option maxRecDepth 20000 in
theorem law_tX_7 {b : Nat} {s : State} (hgv : (Jvm.Cond.and given_1 narrow_1).before #[Value.ref b] s = true) : ∃ d t : Nat, strF (fun q : Nat => s.heap.size ≤ q) d t 6 (fun j => ([111, 116, 104, 101, 114, 115] : List Int32).getD j 0) s s.heap ∧ (Term.string "ChairCane$Tape" 111).eval #[Value.ref b] s none [] s = some (.ref d) := by
  have hs := flat_of_before _ hgv
  have hA : ∀ a : Nat, a < s.heap.size → ¬ (fun q : Nat => s.heap.size ≤ q) a := fun a h => Nat.not_le.mpr h
  exact str_of (A := fun q : Nat => s.heap.size ≤ q) "ChairCane$Tape" 111 6 [111, 116, 104, 101, 114, 115] (by decide) (show Jvm.Cond.before (Cond.exactly (.string "ChairCane$Tape" 111) "java/lang/String") #[Value.ref b] s = true from bf_l (bf_r (bf_r (bf_r (bf_r (bf_r (bf_r (bf_l (bf_l (bf_r hgv)))))))))) (show Jvm.Cond.before (Cond.eq (.field (.string "ChairCane$Tape" 111) "java/lang/String" "coder" "B") (.int 0)) #[Value.ref b] s = true from bf_r (bf_r (bf_r (bf_r (bf_r (bf_r (bf_r (bf_l (bf_l (bf_r hgv)))))))))) (show Jvm.Cond.before (Cond.arrayOf (.field (.string "ChairCane$Tape" 111) "java/lang/String" "value" "[B") .byte) #[Value.ref b] s = true from bf_l (bf_l (bf_l (bf_l (bf_l (bf_l (bf_r (bf_l (bf_r hgv))))))))) (show Jvm.Cond.before (Cond.eq (.length (.field (.string "ChairCane$Tape" 111) "java/lang/String" "value" "[B")) (.int 6)) #[Value.ref b] s = true from bf_r (bf_l (bf_l (bf_l (bf_l (bf_l (bf_r (bf_l (bf_r hgv))))))))) (by
      intro j hj
      match j, hj with
      | 0, _ => exact show Jvm.Cond.before (Cond.eq (.elem (.field (.string "ChairCane$Tape" 111) "java/lang/String" "value" "[B") (.int 0)) (.int 111)) #[Value.ref b] s = true from bf_l (bf_r (bf_l (bf_l (bf_l (bf_l (bf_r (bf_l (bf_r hgv))))))))
      | 1, _ => exact show Jvm.Cond.before (Cond.eq (.elem (.field (.string "ChairCane$Tape" 111) "java/lang/String" "value" "[B") (.int 1)) (.int 116)) #[Value.ref b] s = true from bf_l (bf_r (bf_r (bf_l (bf_l (bf_l (bf_l (bf_r (bf_l (bf_r hgv)))))))))
      | 2, _ => exact show Jvm.Cond.before (Cond.eq (.elem (.field (.string "ChairCane$Tape" 111) "java/lang/String" "value" "[B") (.int 2)) (.int 104)) #[Value.ref b] s = true from bf_r (bf_r (bf_r (bf_l (bf_l (bf_l (bf_l (bf_r (bf_l (bf_r hgv)))))))))
      | 3, _ => exact show Jvm.Cond.before (Cond.eq (.elem (.field (.string "ChairCane$Tape" 111) "java/lang/String" "value" "[B") (.int 3)) (.int 101)) #[Value.ref b] s = true from bf_l (bf_l (bf_r (bf_l (bf_l (bf_l (bf_r (bf_l (bf_r hgv))))))))
      | 4, _ => exact show Jvm.Cond.before (Cond.eq (.elem (.field (.string "ChairCane$Tape" 111) "java/lang/String" "value" "[B") (.int 4)) (.int 114)) #[Value.ref b] s = true from bf_l (bf_r (bf_l (bf_r (bf_l (bf_l (bf_l (bf_r (bf_l (bf_r hgv)))))))))
      | 5, _ => exact show Jvm.Cond.before (Cond.eq (.elem (.field (.string "ChairCane$Tape" 111) "java/lang/String" "value" "[B") (.int 5)) (.int 115)) #[Value.ref b] s = true from bf_r (bf_r (bf_l (bf_r (bf_l (bf_l (bf_l (bf_r (bf_l (bf_r hgv)))))))))
      | j + 6, h => exact absurd h (by omega)) hA
set_option maxHeartbeats 4000000 in
set_option maxRecDepth 20000 in
theorem law_tX_8 {b : Nat} {s : State} (hgv : (Jvm.Cond.and given_1 narrow_1).before #[Value.ref b] s = true) : ∃ d t : Nat, strF (fun q : Nat => s.heap.size ≤ q) d t 5 (fun j => ([112, 114, 101, 115, 115] : List Int32).getD j 0) s s.heap ∧ (Term.string "ChairCane$Tape" 113).eval #[Value.ref b] s none [] s = some (.ref d) := by
  have hs := flat_of_before _ hgv
  have hA : ∀ a : Nat, a < s.heap.size → ¬ (fun q : Nat => s.heap.size ≤ q) a := fun a h => Nat.not_le.mpr h
  exact str_of (A := fun q : Nat => s.heap.size ≤ q) "ChairCane$Tape" 113 5 [112, 114, 101, 115, 115] (by decide) (show Jvm.Cond.before (Cond.exactly (.string "ChairCane$Tape" 113) "java/lang/String") #[Value.ref b] s = true from bf_l (bf_r (bf_r (bf_l (bf_l (bf_l (bf_r (bf_l (bf_r hgv))))))))) (show Jvm.Cond.before (Cond.eq (.field (.string "ChairCane$Tape" 113) "java/lang/String" "coder" "B") (.int 0)) #[Value.ref b] s = true from bf_l (bf_r (bf_r (bf_r (bf_l (bf_l (bf_l (bf_r (bf_l (bf_r hgv)))))))))) (show Jvm.Cond.before (Cond.arrayOf (.field (.string "ChairCane$Tape" 113) "java/lang/String" "value" "[B") .byte) #[Value.ref b] s = true from bf_r (bf_r (bf_r (bf_r (bf_l (bf_l (bf_l (bf_r (bf_l (bf_r hgv)))))))))) (show Jvm.Cond.before (Cond.eq (.length (.field (.string "ChairCane$Tape" 113) "java/lang/String" "value" "[B")) (.int 5)) #[Value.ref b] s = true from bf_l (bf_l (bf_l (bf_r (bf_l (bf_l (bf_r (bf_l (bf_r hgv))))))))) (by
      intro j hj
      match j, hj with
      | 0, _ => exact show Jvm.Cond.before (Cond.eq (.elem (.field (.string "ChairCane$Tape" 113) "java/lang/String" "value" "[B") (.int 0)) (.int 112)) #[Value.ref b] s = true from bf_r (bf_l (bf_l (bf_r (bf_l (bf_l (bf_r (bf_l (bf_r hgv))))))))
      | 1, _ => exact show Jvm.Cond.before (Cond.eq (.elem (.field (.string "ChairCane$Tape" 113) "java/lang/String" "value" "[B") (.int 1)) (.int 114)) #[Value.ref b] s = true from bf_l (bf_r (bf_l (bf_r (bf_l (bf_l (bf_r (bf_l (bf_r hgv))))))))
      | 2, _ => exact show Jvm.Cond.before (Cond.eq (.elem (.field (.string "ChairCane$Tape" 113) "java/lang/String" "value" "[B") (.int 2)) (.int 101)) #[Value.ref b] s = true from bf_l (bf_r (bf_r (bf_l (bf_r (bf_l (bf_l (bf_r (bf_l (bf_r hgv)))))))))
      | 3, _ => exact show Jvm.Cond.before (Cond.eq (.elem (.field (.string "ChairCane$Tape" 113) "java/lang/String" "value" "[B") (.int 3)) (.int 115)) #[Value.ref b] s = true from bf_r (bf_r (bf_r (bf_l (bf_r (bf_l (bf_l (bf_r (bf_l (bf_r hgv)))))))))
      | 4, _ => exact show Jvm.Cond.before (Cond.eq (.elem (.field (.string "ChairCane$Tape" 113) "java/lang/String" "value" "[B") (.int 4)) (.int 115)) #[Value.ref b] s = true from bf_l (bf_l (bf_r (bf_r (bf_l (bf_l (bf_r (bf_l (bf_r hgv))))))))
      | j + 5, h => exact absurd h (by omega)) hA
set_option maxHeartbeats 4000000 in
set_option maxRecDepth 20000 in
theorem law_tX_9 {b : Nat} {s : State} (hgv : (Jvm.Cond.and given_1 narrow_1).before #[Value.ref b] s = true) : ∃ d t : Nat, strF (fun q : Nat => s.heap.size ≤ q) d t 7 (fun j => ([100, 114, 111, 112, 112, 101, 100] : List Int32).getD j 0) s s.heap ∧ (Term.string "ChairCane$Tape" 115).eval #[Value.ref b] s none [] s = some (.ref d) := by
  have hs := flat_of_before _ hgv
  have hA : ∀ a : Nat, a < s.heap.size → ¬ (fun q : Nat => s.heap.size ≤ q) a := fun a h => Nat.not_le.mpr h
  exact str_of (A := fun q : Nat => s.heap.size ≤ q) "ChairCane$Tape" 115 7 [100, 114, 111, 112, 112, 101, 100] (by decide) (show Jvm.Cond.before (Cond.exactly (.string "ChairCane$Tape" 115) "java/lang/String") #[Value.ref b] s = true from bf_l (bf_r (bf_l (bf_r (bf_r (bf_l (bf_l (bf_r (bf_l (bf_r hgv)))))))))) (show Jvm.Cond.before (Cond.eq (.field (.string "ChairCane$Tape" 115) "java/lang/String" "coder" "B") (.int 0)) #[Value.ref b] s = true from bf_r (bf_r (bf_l (bf_r (bf_r (bf_l (bf_l (bf_r (bf_l (bf_r hgv)))))))))) (show Jvm.Cond.before (Cond.arrayOf (.field (.string "ChairCane$Tape" 115) "java/lang/String" "value" "[B") .byte) #[Value.ref b] s = true from bf_l (bf_r (bf_r (bf_r (bf_l (bf_l (bf_r (bf_l (bf_r hgv))))))))) (show Jvm.Cond.before (Cond.eq (.length (.field (.string "ChairCane$Tape" 115) "java/lang/String" "value" "[B")) (.int 7)) #[Value.ref b] s = true from bf_l (bf_r (bf_r (bf_r (bf_r (bf_l (bf_l (bf_r (bf_l (bf_r hgv)))))))))) (by
      intro j hj
      match j, hj with
      | 0, _ => exact show Jvm.Cond.before (Cond.eq (.elem (.field (.string "ChairCane$Tape" 115) "java/lang/String" "value" "[B") (.int 0)) (.int 100)) #[Value.ref b] s = true from bf_r (bf_r (bf_r (bf_r (bf_r (bf_l (bf_l (bf_r (bf_l (bf_r hgv)))))))))
      | 1, _ => exact show Jvm.Cond.before (Cond.eq (.elem (.field (.string "ChairCane$Tape" 115) "java/lang/String" "value" "[B") (.int 1)) (.int 114)) #[Value.ref b] s = true from bf_l (bf_l (bf_l (bf_l (bf_r (bf_l (bf_r (bf_l (bf_r hgv))))))))
      | 2, _ => exact show Jvm.Cond.before (Cond.eq (.elem (.field (.string "ChairCane$Tape" 115) "java/lang/String" "value" "[B") (.int 2)) (.int 111)) #[Value.ref b] s = true from bf_r (bf_l (bf_l (bf_l (bf_r (bf_l (bf_r (bf_l (bf_r hgv))))))))
      | 3, _ => exact show Jvm.Cond.before (Cond.eq (.elem (.field (.string "ChairCane$Tape" 115) "java/lang/String" "value" "[B") (.int 3)) (.int 112)) #[Value.ref b] s = true from bf_l (bf_r (bf_l (bf_l (bf_r (bf_l (bf_r (bf_l (bf_r hgv))))))))
      | 4, _ => exact show Jvm.Cond.before (Cond.eq (.elem (.field (.string "ChairCane$Tape" 115) "java/lang/String" "value" "[B") (.int 4)) (.int 112)) #[Value.ref b] s = true from bf_l (bf_r (bf_r (bf_l (bf_l (bf_r (bf_l (bf_r (bf_l (bf_r hgv)))))))))
      | 5, _ => exact show Jvm.Cond.before (Cond.eq (.elem (.field (.string "ChairCane$Tape" 115) "java/lang/String" "value" "[B") (.int 5)) (.int 101)) #[Value.ref b] s = true from bf_r (bf_r (bf_r (bf_l (bf_l (bf_r (bf_l (bf_r (bf_l (bf_r hgv)))))))))
      | 6, _ => exact show Jvm.Cond.before (Cond.eq (.elem (.field (.string "ChairCane$Tape" 115) "java/lang/String" "value" "[B") (.int 6)) (.int 100)) #[Value.ref b] s = true from bf_l (bf_l (bf_r (bf_l (bf_r (bf_l (bf_r (bf_l (bf_r hgv))))))))
      | j + 7, h => exact absurd h (by omega)) hA
set_option maxHeartbeats 4000000 in
set_option maxRecDepth 20000 in
theorem law_tX_10 {b : Nat} {s : State} (hgv : (Jvm.Cond.and given_1 narrow_1).before #[Value.ref b] s = true) : ∃ d t : Nat, strF (fun q : Nat => s.heap.size ≤ q) d t 6 (fun j => ([109, 105, 110, 117, 116, 101] : List Int32).getD j 0) s s.heap ∧ (Term.string "ChairCane$Tape" 117).eval #[Value.ref b] s none [] s = some (.ref d) := by
  have hs := flat_of_before _ hgv
  have hA : ∀ a : Nat, a < s.heap.size → ¬ (fun q : Nat => s.heap.size ≤ q) a := fun a h => Nat.not_le.mpr h
  exact str_of (A := fun q : Nat => s.heap.size ≤ q) "ChairCane$Tape" 117 6 [109, 105, 110, 117, 116, 101] (by decide) (show Jvm.Cond.before (Cond.exactly (.string "ChairCane$Tape" 117) "java/lang/String") #[Value.ref b] s = true from bf_l (bf_r (bf_l (bf_r (bf_l (bf_r (bf_l (bf_r (bf_l (bf_r hgv)))))))))) (show Jvm.Cond.before (Cond.eq (.field (.string "ChairCane$Tape" 117) "java/lang/String" "coder" "B") (.int 0)) #[Value.ref b] s = true from bf_r (bf_r (bf_l (bf_r (bf_l (bf_r (bf_l (bf_r (bf_l (bf_r hgv)))))))))) (show Jvm.Cond.before (Cond.arrayOf (.field (.string "ChairCane$Tape" 117) "java/lang/String" "value" "[B") .byte) #[Value.ref b] s = true from bf_l (bf_r (bf_r (bf_l (bf_r (bf_l (bf_r (bf_l (bf_r hgv))))))))) (show Jvm.Cond.before (Cond.eq (.length (.field (.string "ChairCane$Tape" 117) "java/lang/String" "value" "[B")) (.int 6)) #[Value.ref b] s = true from bf_l (bf_r (bf_r (bf_r (bf_l (bf_r (bf_l (bf_r (bf_l (bf_r hgv)))))))))) (by
      intro j hj
      match j, hj with
      | 0, _ => exact show Jvm.Cond.before (Cond.eq (.elem (.field (.string "ChairCane$Tape" 117) "java/lang/String" "value" "[B") (.int 0)) (.int 109)) #[Value.ref b] s = true from bf_r (bf_r (bf_r (bf_r (bf_l (bf_r (bf_l (bf_r (bf_l (bf_r hgv)))))))))
      | 1, _ => exact show Jvm.Cond.before (Cond.eq (.elem (.field (.string "ChairCane$Tape" 117) "java/lang/String" "value" "[B") (.int 1)) (.int 105)) #[Value.ref b] s = true from bf_l (bf_l (bf_l (bf_r (bf_r (bf_l (bf_r (bf_l (bf_r hgv))))))))
      | 2, _ => exact show Jvm.Cond.before (Cond.eq (.elem (.field (.string "ChairCane$Tape" 117) "java/lang/String" "value" "[B") (.int 2)) (.int 110)) #[Value.ref b] s = true from bf_r (bf_l (bf_l (bf_r (bf_r (bf_l (bf_r (bf_l (bf_r hgv))))))))
      | 3, _ => exact show Jvm.Cond.before (Cond.eq (.elem (.field (.string "ChairCane$Tape" 117) "java/lang/String" "value" "[B") (.int 3)) (.int 117)) #[Value.ref b] s = true from bf_l (bf_r (bf_l (bf_r (bf_r (bf_l (bf_r (bf_l (bf_r hgv))))))))
      | 4, _ => exact show Jvm.Cond.before (Cond.eq (.elem (.field (.string "ChairCane$Tape" 117) "java/lang/String" "value" "[B") (.int 4)) (.int 116)) #[Value.ref b] s = true from bf_l (bf_r (bf_r (bf_l (bf_r (bf_r (bf_l (bf_r (bf_l (bf_r hgv)))))))))
      | 5, _ => exact show Jvm.Cond.before (Cond.eq (.elem (.field (.string "ChairCane$Tape" 117) "java/lang/String" "value" "[B") (.int 5)) (.int 101)) #[Value.ref b] s = true from bf_r (bf_r (bf_r (bf_l (bf_r (bf_r (bf_l (bf_r (bf_l (bf_r hgv)))))))))
      | j + 6, h => exact absurd h (by omega)) hA
set_option maxHeartbeats 4000000 in
set_option maxRecDepth 20000 in
theorem law_tX_11 {b : Nat} {s : State} (hgv : (Jvm.Cond.and given_1 narrow_1).before #[Value.ref b] s = true) : ∃ d t : Nat, strF (fun q : Nat => s.heap.size ≤ q) d t 4 (fun j => ([104, 97, 108, 108] : List Int32).getD j 0) s s.heap ∧ (Term.string "ChairCane$Tape" 119).eval #[Value.ref b] s none [] s = some (.ref d) := by
  have hs := flat_of_before _ hgv
  have hA : ∀ a : Nat, a < s.heap.size → ¬ (fun q : Nat => s.heap.size ≤ q) a := fun a h => Nat.not_le.mpr h
  exact str_of (A := fun q : Nat => s.heap.size ≤ q) "ChairCane$Tape" 119 4 [104, 97, 108, 108] (by decide) (show Jvm.Cond.before (Cond.exactly (.string "ChairCane$Tape" 119) "java/lang/String") #[Value.ref b] s = true from bf_l (bf_l (bf_r (bf_r (bf_r (bf_l (bf_r (bf_l (bf_r hgv))))))))) (show Jvm.Cond.before (Cond.eq (.field (.string "ChairCane$Tape" 119) "java/lang/String" "coder" "B") (.int 0)) #[Value.ref b] s = true from bf_l (bf_r (bf_l (bf_r (bf_r (bf_r (bf_l (bf_r (bf_l (bf_r hgv)))))))))) (show Jvm.Cond.before (Cond.arrayOf (.field (.string "ChairCane$Tape" 119) "java/lang/String" "value" "[B") .byte) #[Value.ref b] s = true from bf_r (bf_r (bf_l (bf_r (bf_r (bf_r (bf_l (bf_r (bf_l (bf_r hgv)))))))))) (show Jvm.Cond.before (Cond.eq (.length (.field (.string "ChairCane$Tape" 119) "java/lang/String" "value" "[B")) (.int 4)) #[Value.ref b] s = true from bf_l (bf_r (bf_r (bf_r (bf_r (bf_l (bf_r (bf_l (bf_r hgv))))))))) (by
      intro j hj
      match j, hj with
      | 0, _ => exact show Jvm.Cond.before (Cond.eq (.elem (.field (.string "ChairCane$Tape" 119) "java/lang/String" "value" "[B") (.int 0)) (.int 104)) #[Value.ref b] s = true from bf_l (bf_r (bf_r (bf_r (bf_r (bf_r (bf_l (bf_r (bf_l (bf_r hgv)))))))))
      | 1, _ => exact show Jvm.Cond.before (Cond.eq (.elem (.field (.string "ChairCane$Tape" 119) "java/lang/String" "value" "[B") (.int 1)) (.int 97)) #[Value.ref b] s = true from bf_r (bf_r (bf_r (bf_r (bf_r (bf_r (bf_l (bf_r (bf_l (bf_r hgv)))))))))
      | 2, _ => exact show Jvm.Cond.before (Cond.eq (.elem (.field (.string "ChairCane$Tape" 119) "java/lang/String" "value" "[B") (.int 2)) (.int 108)) #[Value.ref b] s = true from bf_l (bf_l (bf_l (bf_l (bf_l (bf_r (bf_r (bf_l (bf_r hgv))))))))
      | 3, _ => exact show Jvm.Cond.before (Cond.eq (.elem (.field (.string "ChairCane$Tape" 119) "java/lang/String" "value" "[B") (.int 3)) (.int 108)) #[Value.ref b] s = true from bf_r (bf_l (bf_l (bf_l (bf_l (bf_r (bf_r (bf_l (bf_r hgv))))))))
      | j + 4, h => exact absurd h (by omega)) hA
set_option maxHeartbeats 4000000 in
set_option maxRecDepth 20000 in
theorem law_tX_12 {b : Nat} {s : State} (hgv : (Jvm.Cond.and given_1 narrow_1).before #[Value.ref b] s = true) : ∃ d t : Nat, strF (fun q : Nat => s.heap.size ≤ q) d t 6 (fun j => ([115, 116, 114, 97, 110, 100] : List Int32).getD j 0) s s.heap ∧ (Term.string "ChairCane$Tape" 121).eval #[Value.ref b] s none [] s = some (.ref d) := by
  have hs := flat_of_before _ hgv
  have hA : ∀ a : Nat, a < s.heap.size → ¬ (fun q : Nat => s.heap.size ≤ q) a := fun a h => Nat.not_le.mpr h
  exact str_of (A := fun q : Nat => s.heap.size ≤ q) "ChairCane$Tape" 121 6 [115, 116, 114, 97, 110, 100] (by decide) (show Jvm.Cond.before (Cond.exactly (.string "ChairCane$Tape" 121) "java/lang/String") #[Value.ref b] s = true from bf_l (bf_r (bf_l (bf_l (bf_l (bf_r (bf_r (bf_l (bf_r hgv))))))))) (show Jvm.Cond.before (Cond.eq (.field (.string "ChairCane$Tape" 121) "java/lang/String" "coder" "B") (.int 0)) #[Value.ref b] s = true from bf_l (bf_r (bf_r (bf_l (bf_l (bf_l (bf_r (bf_r (bf_l (bf_r hgv)))))))))) (show Jvm.Cond.before (Cond.arrayOf (.field (.string "ChairCane$Tape" 121) "java/lang/String" "value" "[B") .byte) #[Value.ref b] s = true from bf_r (bf_r (bf_r (bf_l (bf_l (bf_l (bf_r (bf_r (bf_l (bf_r hgv)))))))))) (show Jvm.Cond.before (Cond.eq (.length (.field (.string "ChairCane$Tape" 121) "java/lang/String" "value" "[B")) (.int 6)) #[Value.ref b] s = true from bf_l (bf_l (bf_r (bf_l (bf_l (bf_r (bf_r (bf_l (bf_r hgv))))))))) (by
      intro j hj
      match j, hj with
      | 0, _ => exact show Jvm.Cond.before (Cond.eq (.elem (.field (.string "ChairCane$Tape" 121) "java/lang/String" "value" "[B") (.int 0)) (.int 115)) #[Value.ref b] s = true from bf_l (bf_r (bf_l (bf_r (bf_l (bf_l (bf_r (bf_r (bf_l (bf_r hgv)))))))))
      | 1, _ => exact show Jvm.Cond.before (Cond.eq (.elem (.field (.string "ChairCane$Tape" 121) "java/lang/String" "value" "[B") (.int 1)) (.int 116)) #[Value.ref b] s = true from bf_r (bf_r (bf_l (bf_r (bf_l (bf_l (bf_r (bf_r (bf_l (bf_r hgv)))))))))
      | 2, _ => exact show Jvm.Cond.before (Cond.eq (.elem (.field (.string "ChairCane$Tape" 121) "java/lang/String" "value" "[B") (.int 2)) (.int 114)) #[Value.ref b] s = true from bf_l (bf_r (bf_r (bf_l (bf_l (bf_r (bf_r (bf_l (bf_r hgv))))))))
      | 3, _ => exact show Jvm.Cond.before (Cond.eq (.elem (.field (.string "ChairCane$Tape" 121) "java/lang/String" "value" "[B") (.int 3)) (.int 97)) #[Value.ref b] s = true from bf_l (bf_r (bf_r (bf_r (bf_l (bf_l (bf_r (bf_r (bf_l (bf_r hgv)))))))))
      | 4, _ => exact show Jvm.Cond.before (Cond.eq (.elem (.field (.string "ChairCane$Tape" 121) "java/lang/String" "value" "[B") (.int 4)) (.int 110)) #[Value.ref b] s = true from bf_r (bf_r (bf_r (bf_r (bf_l (bf_l (bf_r (bf_r (bf_l (bf_r hgv)))))))))
      | 5, _ => exact show Jvm.Cond.before (Cond.eq (.elem (.field (.string "ChairCane$Tape" 121) "java/lang/String" "value" "[B") (.int 5)) (.int 100)) #[Value.ref b] s = true from bf_l (bf_l (bf_l (bf_r (bf_l (bf_r (bf_r (bf_l (bf_r hgv))))))))
      | j + 6, h => exact absurd h (by omega)) hA
set_option maxHeartbeats 4000000 in
set_option maxRecDepth 20000 in
theorem law_tX_13 {b : Nat} {s : State} (hgv : (Jvm.Cond.and given_1 narrow_1).before #[Value.ref b] s = true) : ∃ d t : Nat, strF (fun q : Nat => s.heap.size ≤ q) d t 3 (fun j => ([115, 105, 116] : List Int32).getD j 0) s s.heap ∧ (Term.string "ChairCane$Tape" 123).eval #[Value.ref b] s none [] s = some (.ref d) := by
  have hs := flat_of_before _ hgv
  have hA : ∀ a : Nat, a < s.heap.size → ¬ (fun q : Nat => s.heap.size ≤ q) a := fun a h => Nat.not_le.mpr h
  exact str_of (A := fun q : Nat => s.heap.size ≤ q) "ChairCane$Tape" 123 3 [115, 105, 116] (by decide) (show Jvm.Cond.before (Cond.exactly (.string "ChairCane$Tape" 123) "java/lang/String") #[Value.ref b] s = true from bf_r (bf_l (bf_l (bf_r (bf_l (bf_r (bf_r (bf_l (bf_r hgv))))))))) (show Jvm.Cond.before (Cond.eq (.field (.string "ChairCane$Tape" 123) "java/lang/String" "coder" "B") (.int 0)) #[Value.ref b] s = true from bf_l (bf_r (bf_l (bf_r (bf_l (bf_r (bf_r (bf_l (bf_r hgv))))))))) (show Jvm.Cond.before (Cond.arrayOf (.field (.string "ChairCane$Tape" 123) "java/lang/String" "value" "[B") .byte) #[Value.ref b] s = true from bf_l (bf_r (bf_r (bf_l (bf_r (bf_l (bf_r (bf_r (bf_l (bf_r hgv)))))))))) (show Jvm.Cond.before (Cond.eq (.length (.field (.string "ChairCane$Tape" 123) "java/lang/String" "value" "[B")) (.int 3)) #[Value.ref b] s = true from bf_r (bf_r (bf_r (bf_l (bf_r (bf_l (bf_r (bf_r (bf_l (bf_r hgv)))))))))) (by
      intro j hj
      match j, hj with
      | 0, _ => exact show Jvm.Cond.before (Cond.eq (.elem (.field (.string "ChairCane$Tape" 123) "java/lang/String" "value" "[B") (.int 0)) (.int 115)) #[Value.ref b] s = true from bf_l (bf_l (bf_r (bf_r (bf_l (bf_r (bf_r (bf_l (bf_r hgv))))))))
      | 1, _ => exact show Jvm.Cond.before (Cond.eq (.elem (.field (.string "ChairCane$Tape" 123) "java/lang/String" "value" "[B") (.int 1)) (.int 105)) #[Value.ref b] s = true from bf_l (bf_r (bf_l (bf_r (bf_r (bf_l (bf_r (bf_r (bf_l (bf_r hgv)))))))))
      | 2, _ => exact show Jvm.Cond.before (Cond.eq (.elem (.field (.string "ChairCane$Tape" 123) "java/lang/String" "value" "[B") (.int 2)) (.int 116)) #[Value.ref b] s = true from bf_r (bf_r (bf_l (bf_r (bf_r (bf_l (bf_r (bf_r (bf_l (bf_r hgv)))))))))
      | j + 3, h => exact absurd h (by omega)) hA
set_option maxHeartbeats 4000000 in
set_option maxRecDepth 20000 in
theorem law_tX_14 {b : Nat} {s : State} (hgv : (Jvm.Cond.and given_1 narrow_1).before #[Value.ref b] s = true) : ∃ d t : Nat, strF (fun q : Nat => s.heap.size ≤ q) d t 2 (fun j => ([105, 102] : List Int32).getD j 0) s s.heap ∧ (Term.string "ChairCane$Tape" 125).eval #[Value.ref b] s none [] s = some (.ref d) := by
  have hs := flat_of_before _ hgv
  have hA : ∀ a : Nat, a < s.heap.size → ¬ (fun q : Nat => s.heap.size ≤ q) a := fun a h => Nat.not_le.mpr h
  exact str_of (A := fun q : Nat => s.heap.size ≤ q) "ChairCane$Tape" 125 2 [105, 102] (by decide) (show Jvm.Cond.before (Cond.exactly (.string "ChairCane$Tape" 125) "java/lang/String") #[Value.ref b] s = true from bf_l (bf_r (bf_r (bf_r (bf_l (bf_r (bf_r (bf_l (bf_r hgv))))))))) (show Jvm.Cond.before (Cond.eq (.field (.string "ChairCane$Tape" 125) "java/lang/String" "coder" "B") (.int 0)) #[Value.ref b] s = true from bf_l (bf_r (bf_r (bf_r (bf_r (bf_l (bf_r (bf_r (bf_l (bf_r hgv)))))))))) (show Jvm.Cond.before (Cond.arrayOf (.field (.string "ChairCane$Tape" 125) "java/lang/String" "value" "[B") .byte) #[Value.ref b] s = true from bf_r (bf_r (bf_r (bf_r (bf_r (bf_l (bf_r (bf_r (bf_l (bf_r hgv)))))))))) (show Jvm.Cond.before (Cond.eq (.length (.field (.string "ChairCane$Tape" 125) "java/lang/String" "value" "[B")) (.int 2)) #[Value.ref b] s = true from bf_l (bf_l (bf_l (bf_l (bf_r (bf_r (bf_r (bf_l (bf_r hgv))))))))) (by
      intro j hj
      match j, hj with
      | 0, _ => exact show Jvm.Cond.before (Cond.eq (.elem (.field (.string "ChairCane$Tape" 125) "java/lang/String" "value" "[B") (.int 0)) (.int 105)) #[Value.ref b] s = true from bf_r (bf_l (bf_l (bf_l (bf_r (bf_r (bf_r (bf_l (bf_r hgv))))))))
      | 1, _ => exact show Jvm.Cond.before (Cond.eq (.elem (.field (.string "ChairCane$Tape" 125) "java/lang/String" "value" "[B") (.int 1)) (.int 102)) #[Value.ref b] s = true from bf_l (bf_r (bf_l (bf_l (bf_r (bf_r (bf_r (bf_l (bf_r hgv))))))))
      | j + 2, h => exact absurd h (by omega)) hA
set_option maxHeartbeats 4000000 in
set_option maxRecDepth 20000 in
theorem law_tX_15 {b : Nat} {s : State} (hgv : (Jvm.Cond.and given_1 narrow_1).before #[Value.ref b] s = true) : ∃ d t : Nat, strF (fun q : Nat => s.heap.size ≤ q) d t 2 (fun j => ([111, 114] : List Int32).getD j 0) s s.heap ∧ (Term.string "ChairCane$Tape" 127).eval #[Value.ref b] s none [] s = some (.ref d) := by
  have hs := flat_of_before _ hgv
  have hA : ∀ a : Nat, a < s.heap.size → ¬ (fun q : Nat => s.heap.size ≤ q) a := fun a h => Nat.not_le.mpr h
  exact str_of (A := fun q : Nat => s.heap.size ≤ q) "ChairCane$Tape" 127 2 [111, 114] (by decide) (show Jvm.Cond.before (Cond.exactly (.string "ChairCane$Tape" 127) "java/lang/String") #[Value.ref b] s = true from bf_l (bf_r (bf_r (bf_l (bf_l (bf_r (bf_r (bf_r (bf_l (bf_r hgv)))))))))) (show Jvm.Cond.before (Cond.eq (.field (.string "ChairCane$Tape" 127) "java/lang/String" "coder" "B") (.int 0)) #[Value.ref b] s = true from bf_r (bf_r (bf_r (bf_l (bf_l (bf_r (bf_r (bf_r (bf_l (bf_r hgv)))))))))) (show Jvm.Cond.before (Cond.arrayOf (.field (.string "ChairCane$Tape" 127) "java/lang/String" "value" "[B") .byte) #[Value.ref b] s = true from bf_l (bf_l (bf_r (bf_l (bf_r (bf_r (bf_r (bf_l (bf_r hgv))))))))) (show Jvm.Cond.before (Cond.eq (.length (.field (.string "ChairCane$Tape" 127) "java/lang/String" "value" "[B")) (.int 2)) #[Value.ref b] s = true from bf_l (bf_r (bf_l (bf_r (bf_l (bf_r (bf_r (bf_r (bf_l (bf_r hgv)))))))))) (by
      intro j hj
      match j, hj with
      | 0, _ => exact show Jvm.Cond.before (Cond.eq (.elem (.field (.string "ChairCane$Tape" 127) "java/lang/String" "value" "[B") (.int 0)) (.int 111)) #[Value.ref b] s = true from bf_r (bf_r (bf_l (bf_r (bf_l (bf_r (bf_r (bf_r (bf_l (bf_r hgv)))))))))
      | 1, _ => exact show Jvm.Cond.before (Cond.eq (.elem (.field (.string "ChairCane$Tape" 127) "java/lang/String" "value" "[B") (.int 1)) (.int 114)) #[Value.ref b] s = true from bf_l (bf_r (bf_r (bf_l (bf_r (bf_r (bf_r (bf_l (bf_r hgv))))))))
      | j + 2, h => exact absurd h (by omega)) hA
set_option maxHeartbeats 4000000 in
set_option maxRecDepth 20000 in
theorem law_tX_16 {b : Nat} {s : State} (hgv : (Jvm.Cond.and given_1 narrow_1).before #[Value.ref b] s = true) : ∃ d t : Nat, strF (fun q : Nat => s.heap.size ≤ q) d t 3 (fun j => ([97, 110, 100] : List Int32).getD j 0) s s.heap ∧ (Term.string "ChairCane$Tape" 129).eval #[Value.ref b] s none [] s = some (.ref d) := by
  have hs := flat_of_before _ hgv
  have hA : ∀ a : Nat, a < s.heap.size → ¬ (fun q : Nat => s.heap.size ≤ q) a := fun a h => Nat.not_le.mpr h
  exact str_of (A := fun q : Nat => s.heap.size ≤ q) "ChairCane$Tape" 129 3 [97, 110, 100] (by decide) (show Jvm.Cond.before (Cond.exactly (.string "ChairCane$Tape" 129) "java/lang/String") #[Value.ref b] s = true from bf_l (bf_r (bf_r (bf_r (bf_l (bf_r (bf_r (bf_r (bf_l (bf_r hgv)))))))))) (show Jvm.Cond.before (Cond.eq (.field (.string "ChairCane$Tape" 129) "java/lang/String" "coder" "B") (.int 0)) #[Value.ref b] s = true from bf_r (bf_r (bf_r (bf_r (bf_l (bf_r (bf_r (bf_r (bf_l (bf_r hgv)))))))))) (show Jvm.Cond.before (Cond.arrayOf (.field (.string "ChairCane$Tape" 129) "java/lang/String" "value" "[B") .byte) #[Value.ref b] s = true from bf_l (bf_l (bf_l (bf_r (bf_r (bf_r (bf_r (bf_l (bf_r hgv))))))))) (show Jvm.Cond.before (Cond.eq (.length (.field (.string "ChairCane$Tape" 129) "java/lang/String" "value" "[B")) (.int 3)) #[Value.ref b] s = true from bf_r (bf_l (bf_l (bf_r (bf_r (bf_r (bf_r (bf_l (bf_r hgv))))))))) (by
      intro j hj
      match j, hj with
      | 0, _ => exact show Jvm.Cond.before (Cond.eq (.elem (.field (.string "ChairCane$Tape" 129) "java/lang/String" "value" "[B") (.int 0)) (.int 97)) #[Value.ref b] s = true from bf_l (bf_r (bf_l (bf_r (bf_r (bf_r (bf_r (bf_l (bf_r hgv))))))))
      | 1, _ => exact show Jvm.Cond.before (Cond.eq (.elem (.field (.string "ChairCane$Tape" 129) "java/lang/String" "value" "[B") (.int 1)) (.int 110)) #[Value.ref b] s = true from bf_l (bf_r (bf_r (bf_l (bf_r (bf_r (bf_r (bf_r (bf_l (bf_r hgv)))))))))
      | 2, _ => exact show Jvm.Cond.before (Cond.eq (.elem (.field (.string "ChairCane$Tape" 129) "java/lang/String" "value" "[B") (.int 2)) (.int 100)) #[Value.ref b] s = true from bf_r (bf_r (bf_r (bf_l (bf_r (bf_r (bf_r (bf_r (bf_l (bf_r hgv)))))))))
      | j + 3, h => exact absurd h (by omega)) hA
set_option maxHeartbeats 4000000 in
set_option maxRecDepth 20000 in
theorem law_tX_17 {b : Nat} {s : State} (hgv : (Jvm.Cond.and given_1 narrow_1).before #[Value.ref b] s = true) : ∃ d t : Nat, strF (fun q : Nat => s.heap.size ≤ q) d t 3 (fun j => ([110, 111, 116] : List Int32).getD j 0) s s.heap ∧ (Term.string "ChairCane$Tape" 131).eval #[Value.ref b] s none [] s = some (.ref d) := by
  have hs := flat_of_before _ hgv
  have hA : ∀ a : Nat, a < s.heap.size → ¬ (fun q : Nat => s.heap.size ≤ q) a := fun a h => Nat.not_le.mpr h
  exact str_of (A := fun q : Nat => s.heap.size ≤ q) "ChairCane$Tape" 131 3 [110, 111, 116] (by decide) (show Jvm.Cond.before (Cond.exactly (.string "ChairCane$Tape" 131) "java/lang/String") #[Value.ref b] s = true from bf_l (bf_l (bf_r (bf_r (bf_r (bf_r (bf_r (bf_l (bf_r hgv))))))))) (show Jvm.Cond.before (Cond.eq (.field (.string "ChairCane$Tape" 131) "java/lang/String" "coder" "B") (.int 0)) #[Value.ref b] s = true from bf_l (bf_r (bf_l (bf_r (bf_r (bf_r (bf_r (bf_r (bf_l (bf_r hgv)))))))))) (show Jvm.Cond.before (Cond.arrayOf (.field (.string "ChairCane$Tape" 131) "java/lang/String" "value" "[B") .byte) #[Value.ref b] s = true from bf_r (bf_r (bf_l (bf_r (bf_r (bf_r (bf_r (bf_r (bf_l (bf_r hgv)))))))))) (show Jvm.Cond.before (Cond.eq (.length (.field (.string "ChairCane$Tape" 131) "java/lang/String" "value" "[B")) (.int 3)) #[Value.ref b] s = true from bf_l (bf_r (bf_r (bf_r (bf_r (bf_r (bf_r (bf_l (bf_r hgv))))))))) (by
      intro j hj
      match j, hj with
      | 0, _ => exact show Jvm.Cond.before (Cond.eq (.elem (.field (.string "ChairCane$Tape" 131) "java/lang/String" "value" "[B") (.int 0)) (.int 110)) #[Value.ref b] s = true from bf_l (bf_r (bf_r (bf_r (bf_r (bf_r (bf_r (bf_r (bf_l (bf_r hgv)))))))))
      | 1, _ => exact show Jvm.Cond.before (Cond.eq (.elem (.field (.string "ChairCane$Tape" 131) "java/lang/String" "value" "[B") (.int 1)) (.int 111)) #[Value.ref b] s = true from bf_r (bf_r (bf_r (bf_r (bf_r (bf_r (bf_r (bf_r (bf_l (bf_r hgv)))))))))
      | 2, _ => exact show Jvm.Cond.before (Cond.eq (.elem (.field (.string "ChairCane$Tape" 131) "java/lang/String" "value" "[B") (.int 2)) (.int 116)) #[Value.ref b] s = true from bf_l (bf_l (bf_l (bf_l (bf_l (bf_l (bf_l (bf_r (bf_r hgv))))))))
      | j + 3, h => exact absurd h (by omega)) hA
set_option maxHeartbeats 4000000 in
set_option maxRecDepth 20000 in
theorem law_tX_18 {b : Nat} {s : State} (hgv : (Jvm.Cond.and given_1 narrow_1).before #[Value.ref b] s = true) : ∃ d t : Nat, strF (fun q : Nat => s.heap.size ≤ q) d t 0 (fun j => ([] : List Int32).getD j 0) s s.heap ∧ (Term.string "ChairCane$Tape" 133).eval #[Value.ref b] s none [] s = some (.ref d) := by
  have hs := flat_of_before _ hgv
  have hA : ∀ a : Nat, a < s.heap.size → ¬ (fun q : Nat => s.heap.size ≤ q) a := fun a h => Nat.not_le.mpr h
  exact str_of (A := fun q : Nat => s.heap.size ≤ q) "ChairCane$Tape" 133 0 [] (by decide) (show Jvm.Cond.before (Cond.exactly (.string "ChairCane$Tape" 133) "java/lang/String") #[Value.ref b] s = true from bf_r (bf_l (bf_l (bf_l (bf_l (bf_l (bf_l (bf_r (bf_r hgv))))))))) (show Jvm.Cond.before (Cond.eq (.field (.string "ChairCane$Tape" 133) "java/lang/String" "coder" "B") (.int 0)) #[Value.ref b] s = true from bf_l (bf_r (bf_l (bf_l (bf_l (bf_l (bf_l (bf_r (bf_r hgv))))))))) (show Jvm.Cond.before (Cond.arrayOf (.field (.string "ChairCane$Tape" 133) "java/lang/String" "value" "[B") .byte) #[Value.ref b] s = true from bf_l (bf_r (bf_r (bf_l (bf_l (bf_l (bf_l (bf_l (bf_r (bf_r hgv)))))))))) (show Jvm.Cond.before (Cond.eq (.length (.field (.string "ChairCane$Tape" 133) "java/lang/String" "value" "[B")) (.int 0)) #[Value.ref b] s = true from bf_r (bf_r (bf_r (bf_l (bf_l (bf_l (bf_l (bf_l (bf_r (bf_r hgv)))))))))) (by
      intro j hj
      match j, hj with

      | j + 0, h => exact absurd h (by omega)) hA
set_option maxHeartbeats 4000000 in
set_option maxRecDepth 20000 in
theorem law_tX {b : Nat} {s : State} (hts : ∀ w ∈ lw_tbl, w.before #[Value.ref b] s = true) (hgv : (Jvm.Cond.and given_1 narrow_1).before #[Value.ref b] s = true) : ∃ ad tv : Nat → Nat, EX ad tv (fun q : Nat => s.heap.size ≤ q) s := by
  have hA : ∀ a : Nat, a < s.heap.size → ¬ (fun q : Nat => s.heap.size ≤ q) a := fun a h => Nat.not_le.mpr h
  obtain ⟨d0, t0, hF0, hv0⟩ := law_tX_0 hgv
  obtain ⟨d1, t1, hF1, hv1⟩ := law_tX_1 hgv
  obtain ⟨d2, t2, hF2, hv2⟩ := law_tX_2 hgv
  obtain ⟨d3, t3, hF3, hv3⟩ := law_tX_3 hgv
  obtain ⟨d4, t4, hF4, hv4⟩ := law_tX_4 hgv
  obtain ⟨d5, t5, hF5, hv5⟩ := law_tX_5 hgv
  obtain ⟨d6, t6, hF6, hv6⟩ := law_tX_6 hgv
  obtain ⟨d7, t7, hF7, hv7⟩ := law_tX_7 hgv
  obtain ⟨d8, t8, hF8, hv8⟩ := law_tX_8 hgv
  obtain ⟨d9, t9, hF9, hv9⟩ := law_tX_9 hgv
  obtain ⟨d10, t10, hF10, hv10⟩ := law_tX_10 hgv
  obtain ⟨d11, t11, hF11, hv11⟩ := law_tX_11 hgv
  obtain ⟨d12, t12, hF12, hv12⟩ := law_tX_12 hgv
  obtain ⟨d13, t13, hF13, hv13⟩ := law_tX_13 hgv
  obtain ⟨d14, t14, hF14, hv14⟩ := law_tX_14 hgv
  obtain ⟨d15, t15, hF15, hv15⟩ := law_tX_15 hgv
  obtain ⟨d16, t16, hF16, hv16⟩ := law_tX_16 hgv
  obtain ⟨d17, t17, hF17, hv17⟩ := law_tX_17 hgv
  obtain ⟨d18, t18, hF18, hv18⟩ := law_tX_18 hgv
  obtain ⟨hZ, hM⟩ := law_stat hts hgv
  exact ⟨fun i => [d0, d1, d2, d3, d4, d5, d6, d7, d8, d9, d10, d11, d12, d13, d14, d15, d16, d17, d18].getD i 0, fun i => [t0, t1, t2, t3, t4, t5, t6, t7, t8, t9, t10, t11, t12, t13, t14, t15, t16, t17, t18].getD i 0, hZ, hM, (fun i hi => match i, hi with | 0, _ => hF0 | 1, _ => hF1 | 2, _ => hF2 | 3, _ => hF3 | 4, _ => hF4 | 5, _ => hF5 | 6, _ => hF6 | 7, _ => hF7 | 8, _ => hF8 | 9, _ => hF9 | 10, _ => hF10 | 11, _ => hF11 | 12, _ => hF12 | 13, _ => hF13 | 14, _ => hF14 | 15, _ => hF15 | 16, _ => hF16 | 17, _ => hF17 | 18, _ => hF18 | n + 19, h => absurd h (by omega)), vk_R.of (hts (.stringRef "ChairCane$Tape" 97 "sitter") (List.mem_of_getElem? (i := 420) (by decide +kernel))) hv0, vk_R.of (hts (.stringRef "ChairCane$Tape" 99 "chair") (List.mem_of_getElem? (i := 421) (by decide +kernel))) hv1, vk_R.of (hts (.stringRef "ChairCane$Tape" 101 "weight") (List.mem_of_getElem? (i := 422) (by decide +kernel))) hv2, vk_R.of (hts (.stringRef "ChairCane$Tape" 103 "height") (List.mem_of_getElem? (i := 423) (by decide +kernel))) hv3, vk_R.of (hts (.stringRef "ChairCane$Tape" 105 "cane") (List.mem_of_getElem? (i := 424) (by decide +kernel))) hv4, vk_R.of (hts (.stringRef "ChairCane$Tape" 107 "sits") (List.mem_of_getElem? (i := 425) (by decide +kernel))) hv5, vk_R.of (hts (.stringRef "ChairCane$Tape" 109 "give") (List.mem_of_getElem? (i := 426) (by decide +kernel))) hv6, vk_R.of (hts (.stringRef "ChairCane$Tape" 111 "others") (List.mem_of_getElem? (i := 427) (by decide +kernel))) hv7, vk_R.of (hts (.stringRef "ChairCane$Tape" 113 "press") (List.mem_of_getElem? (i := 428) (by decide +kernel))) hv8, vk_R.of (hts (.stringRef "ChairCane$Tape" 115 "dropped") (List.mem_of_getElem? (i := 429) (by decide +kernel))) hv9, vk_R.of (hts (.stringRef "ChairCane$Tape" 117 "minute") (List.mem_of_getElem? (i := 430) (by decide +kernel))) hv10, vk_R.of (hts (.stringRef "ChairCane$Tape" 119 "hall") (List.mem_of_getElem? (i := 431) (by decide +kernel))) hv11, vk_R.of (hts (.stringRef "ChairCane$Tape" 121 "strand") (List.mem_of_getElem? (i := 432) (by decide +kernel))) hv12, vk_R.of (hts (.stringRef "ChairCane$Tape" 123 "sit") (List.mem_of_getElem? (i := 433) (by decide +kernel))) hv13, vk_R.of (hts (.stringRef "ChairCane$Tape" 125 "if") (List.mem_of_getElem? (i := 434) (by decide +kernel))) hv14, vk_R.of (hts (.stringRef "ChairCane$Tape" 127 "or") (List.mem_of_getElem? (i := 435) (by decide +kernel))) hv15, vk_R.of (hts (.stringRef "ChairCane$Tape" 129 "and") (List.mem_of_getElem? (i := 436) (by decide +kernel))) hv16, vk_R.of (hts (.stringRef "ChairCane$Tape" 131 "not") (List.mem_of_getElem? (i := 437) (by decide +kernel))) hv17, vk_R.of (hts (.stringRef "ChairCane$Tape" 133 "") (List.mem_of_getElem? (i := 438) (by decide +kernel))) hv18⟩
set_option maxHeartbeats 4000000 in
set_option maxRecDepth 20000 in
theorem law_tY_0 {b : Nat} {s : State} (hgv : (Jvm.Cond.and given_1 narrow_1).before #[Value.ref b] s = true) : ∃ d t : Nat, strF (fun q : Nat => s.heap.size ≤ q) d t 6 (fun j => ([115, 105, 116, 116, 101, 114] : List Int32).getD j 0) s s.heap ∧ (Term.string "ChairCaneModel" 142).eval #[Value.ref b] s none [] s = some (.ref d) := by
  have hs := flat_of_before _ hgv
  have hA : ∀ a : Nat, a < s.heap.size → ¬ (fun q : Nat => s.heap.size ≤ q) a := fun a h => Nat.not_le.mpr h
  exact str_of (A := fun q : Nat => s.heap.size ≤ q) "ChairCaneModel" 142 6 [115, 105, 116, 116, 101, 114] (by decide) (show Jvm.Cond.before (Cond.exactly (.string "ChairCaneModel" 142) "java/lang/String") #[Value.ref b] s = true from bf_l (bf_r (bf_l (bf_r (bf_r (bf_l (bf_l (bf_r (bf_r hgv))))))))) (show Jvm.Cond.before (Cond.eq (.field (.string "ChairCaneModel" 142) "java/lang/String" "coder" "B") (.int 0)) #[Value.ref b] s = true from bf_l (bf_r (bf_r (bf_l (bf_r (bf_r (bf_l (bf_l (bf_r (bf_r hgv)))))))))) (show Jvm.Cond.before (Cond.arrayOf (.field (.string "ChairCaneModel" 142) "java/lang/String" "value" "[B") .byte) #[Value.ref b] s = true from bf_r (bf_r (bf_r (bf_l (bf_r (bf_r (bf_l (bf_l (bf_r (bf_r hgv)))))))))) (show Jvm.Cond.before (Cond.eq (.length (.field (.string "ChairCaneModel" 142) "java/lang/String" "value" "[B")) (.int 6)) #[Value.ref b] s = true from bf_l (bf_l (bf_r (bf_r (bf_r (bf_l (bf_l (bf_r (bf_r hgv))))))))) (by
      intro j hj
      match j, hj with
      | 0, _ => exact show Jvm.Cond.before (Cond.eq (.elem (.field (.string "ChairCaneModel" 142) "java/lang/String" "value" "[B") (.int 0)) (.int 115)) #[Value.ref b] s = true from bf_l (bf_r (bf_l (bf_r (bf_r (bf_r (bf_l (bf_l (bf_r (bf_r hgv)))))))))
      | 1, _ => exact show Jvm.Cond.before (Cond.eq (.elem (.field (.string "ChairCaneModel" 142) "java/lang/String" "value" "[B") (.int 1)) (.int 105)) #[Value.ref b] s = true from bf_r (bf_r (bf_l (bf_r (bf_r (bf_r (bf_l (bf_l (bf_r (bf_r hgv)))))))))
      | 2, _ => exact show Jvm.Cond.before (Cond.eq (.elem (.field (.string "ChairCaneModel" 142) "java/lang/String" "value" "[B") (.int 2)) (.int 116)) #[Value.ref b] s = true from bf_l (bf_r (bf_r (bf_r (bf_r (bf_l (bf_l (bf_r (bf_r hgv))))))))
      | 3, _ => exact show Jvm.Cond.before (Cond.eq (.elem (.field (.string "ChairCaneModel" 142) "java/lang/String" "value" "[B") (.int 3)) (.int 116)) #[Value.ref b] s = true from bf_l (bf_r (bf_r (bf_r (bf_r (bf_r (bf_l (bf_l (bf_r (bf_r hgv)))))))))
      | 4, _ => exact show Jvm.Cond.before (Cond.eq (.elem (.field (.string "ChairCaneModel" 142) "java/lang/String" "value" "[B") (.int 4)) (.int 101)) #[Value.ref b] s = true from bf_r (bf_r (bf_r (bf_r (bf_r (bf_r (bf_l (bf_l (bf_r (bf_r hgv)))))))))
      | 5, _ => exact show Jvm.Cond.before (Cond.eq (.elem (.field (.string "ChairCaneModel" 142) "java/lang/String" "value" "[B") (.int 5)) (.int 114)) #[Value.ref b] s = true from bf_l (bf_l (bf_l (bf_l (bf_l (bf_r (bf_l (bf_r (bf_r hgv))))))))
      | j + 6, h => exact absurd h (by omega)) hA
set_option maxHeartbeats 4000000 in
set_option maxRecDepth 20000 in
theorem law_tY_1 {b : Nat} {s : State} (hgv : (Jvm.Cond.and given_1 narrow_1).before #[Value.ref b] s = true) : ∃ d t : Nat, strF (fun q : Nat => s.heap.size ≤ q) d t 5 (fun j => ([99, 104, 97, 105, 114] : List Int32).getD j 0) s s.heap ∧ (Term.string "ChairCaneModel" 144).eval #[Value.ref b] s none [] s = some (.ref d) := by
  have hs := flat_of_before _ hgv
  have hA : ∀ a : Nat, a < s.heap.size → ¬ (fun q : Nat => s.heap.size ≤ q) a := fun a h => Nat.not_le.mpr h
  exact str_of (A := fun q : Nat => s.heap.size ≤ q) "ChairCaneModel" 144 5 [99, 104, 97, 105, 114] (by decide) (show Jvm.Cond.before (Cond.exactly (.string "ChairCaneModel" 144) "java/lang/String") #[Value.ref b] s = true from bf_l (bf_r (bf_r (bf_l (bf_l (bf_r (bf_l (bf_l (bf_r (bf_r hgv)))))))))) (show Jvm.Cond.before (Cond.eq (.field (.string "ChairCaneModel" 144) "java/lang/String" "coder" "B") (.int 0)) #[Value.ref b] s = true from bf_r (bf_r (bf_r (bf_l (bf_l (bf_r (bf_l (bf_l (bf_r (bf_r hgv)))))))))) (show Jvm.Cond.before (Cond.arrayOf (.field (.string "ChairCaneModel" 144) "java/lang/String" "value" "[B") .byte) #[Value.ref b] s = true from bf_l (bf_l (bf_r (bf_l (bf_r (bf_l (bf_l (bf_r (bf_r hgv))))))))) (show Jvm.Cond.before (Cond.eq (.length (.field (.string "ChairCaneModel" 144) "java/lang/String" "value" "[B")) (.int 5)) #[Value.ref b] s = true from bf_l (bf_r (bf_l (bf_r (bf_l (bf_r (bf_l (bf_l (bf_r (bf_r hgv)))))))))) (by
      intro j hj
      match j, hj with
      | 0, _ => exact show Jvm.Cond.before (Cond.eq (.elem (.field (.string "ChairCaneModel" 144) "java/lang/String" "value" "[B") (.int 0)) (.int 99)) #[Value.ref b] s = true from bf_r (bf_r (bf_l (bf_r (bf_l (bf_r (bf_l (bf_l (bf_r (bf_r hgv)))))))))
      | 1, _ => exact show Jvm.Cond.before (Cond.eq (.elem (.field (.string "ChairCaneModel" 144) "java/lang/String" "value" "[B") (.int 1)) (.int 104)) #[Value.ref b] s = true from bf_l (bf_r (bf_r (bf_l (bf_r (bf_l (bf_l (bf_r (bf_r hgv))))))))
      | 2, _ => exact show Jvm.Cond.before (Cond.eq (.elem (.field (.string "ChairCaneModel" 144) "java/lang/String" "value" "[B") (.int 2)) (.int 97)) #[Value.ref b] s = true from bf_l (bf_r (bf_r (bf_r (bf_l (bf_r (bf_l (bf_l (bf_r (bf_r hgv)))))))))
      | 3, _ => exact show Jvm.Cond.before (Cond.eq (.elem (.field (.string "ChairCaneModel" 144) "java/lang/String" "value" "[B") (.int 3)) (.int 105)) #[Value.ref b] s = true from bf_r (bf_r (bf_r (bf_r (bf_l (bf_r (bf_l (bf_l (bf_r (bf_r hgv)))))))))
      | 4, _ => exact show Jvm.Cond.before (Cond.eq (.elem (.field (.string "ChairCaneModel" 144) "java/lang/String" "value" "[B") (.int 4)) (.int 114)) #[Value.ref b] s = true from bf_l (bf_l (bf_l (bf_r (bf_r (bf_l (bf_l (bf_r (bf_r hgv))))))))
      | j + 5, h => exact absurd h (by omega)) hA
set_option maxHeartbeats 4000000 in
set_option maxRecDepth 20000 in
theorem law_tY_2 {b : Nat} {s : State} (hgv : (Jvm.Cond.and given_1 narrow_1).before #[Value.ref b] s = true) : ∃ d t : Nat, strF (fun q : Nat => s.heap.size ≤ q) d t 6 (fun j => ([119, 101, 105, 103, 104, 116] : List Int32).getD j 0) s s.heap ∧ (Term.string "ChairCaneModel" 146).eval #[Value.ref b] s none [] s = some (.ref d) := by
  have hs := flat_of_before _ hgv
  have hA : ∀ a : Nat, a < s.heap.size → ¬ (fun q : Nat => s.heap.size ≤ q) a := fun a h => Nat.not_le.mpr h
  exact str_of (A := fun q : Nat => s.heap.size ≤ q) "ChairCaneModel" 146 6 [119, 101, 105, 103, 104, 116] (by decide) (show Jvm.Cond.before (Cond.exactly (.string "ChairCaneModel" 146) "java/lang/String") #[Value.ref b] s = true from bf_r (bf_r (bf_r (bf_r (bf_l (bf_l (bf_r (bf_l (bf_r (bf_r hgv)))))))))) (show Jvm.Cond.before (Cond.eq (.field (.string "ChairCaneModel" 146) "java/lang/String" "coder" "B") (.int 0)) #[Value.ref b] s = true from bf_l (bf_l (bf_l (bf_r (bf_l (bf_r (bf_l (bf_r (bf_r hgv))))))))) (show Jvm.Cond.before (Cond.arrayOf (.field (.string "ChairCaneModel" 146) "java/lang/String" "value" "[B") .byte) #[Value.ref b] s = true from bf_r (bf_l (bf_l (bf_r (bf_l (bf_r (bf_l (bf_r (bf_r hgv))))))))) (show Jvm.Cond.before (Cond.eq (.length (.field (.string "ChairCaneModel" 146) "java/lang/String" "value" "[B")) (.int 6)) #[Value.ref b] s = true from bf_l (bf_r (bf_l (bf_r (bf_l (bf_r (bf_l (bf_r (bf_r hgv))))))))) (by
      intro j hj
      match j, hj with
      | 0, _ => exact show Jvm.Cond.before (Cond.eq (.elem (.field (.string "ChairCaneModel" 146) "java/lang/String" "value" "[B") (.int 0)) (.int 119)) #[Value.ref b] s = true from bf_l (bf_r (bf_r (bf_l (bf_r (bf_l (bf_r (bf_l (bf_r (bf_r hgv)))))))))
      | 1, _ => exact show Jvm.Cond.before (Cond.eq (.elem (.field (.string "ChairCaneModel" 146) "java/lang/String" "value" "[B") (.int 1)) (.int 101)) #[Value.ref b] s = true from bf_r (bf_r (bf_r (bf_l (bf_r (bf_l (bf_r (bf_l (bf_r (bf_r hgv)))))))))
      | 2, _ => exact show Jvm.Cond.before (Cond.eq (.elem (.field (.string "ChairCaneModel" 146) "java/lang/String" "value" "[B") (.int 2)) (.int 105)) #[Value.ref b] s = true from bf_l (bf_l (bf_r (bf_r (bf_l (bf_r (bf_l (bf_r (bf_r hgv))))))))
      | 3, _ => exact show Jvm.Cond.before (Cond.eq (.elem (.field (.string "ChairCaneModel" 146) "java/lang/String" "value" "[B") (.int 3)) (.int 103)) #[Value.ref b] s = true from bf_l (bf_r (bf_l (bf_r (bf_r (bf_l (bf_r (bf_l (bf_r (bf_r hgv)))))))))
      | 4, _ => exact show Jvm.Cond.before (Cond.eq (.elem (.field (.string "ChairCaneModel" 146) "java/lang/String" "value" "[B") (.int 4)) (.int 104)) #[Value.ref b] s = true from bf_r (bf_r (bf_l (bf_r (bf_r (bf_l (bf_r (bf_l (bf_r (bf_r hgv)))))))))
      | 5, _ => exact show Jvm.Cond.before (Cond.eq (.elem (.field (.string "ChairCaneModel" 146) "java/lang/String" "value" "[B") (.int 5)) (.int 116)) #[Value.ref b] s = true from bf_l (bf_r (bf_r (bf_r (bf_l (bf_r (bf_l (bf_r (bf_r hgv))))))))
      | j + 6, h => exact absurd h (by omega)) hA
set_option maxHeartbeats 4000000 in
set_option maxRecDepth 20000 in
theorem law_tY_3 {b : Nat} {s : State} (hgv : (Jvm.Cond.and given_1 narrow_1).before #[Value.ref b] s = true) : ∃ d t : Nat, strF (fun q : Nat => s.heap.size ≤ q) d t 6 (fun j => ([104, 101, 105, 103, 104, 116] : List Int32).getD j 0) s s.heap ∧ (Term.string "ChairCaneModel" 147).eval #[Value.ref b] s none [] s = some (.ref d) := by
  have hs := flat_of_before _ hgv
  have hA : ∀ a : Nat, a < s.heap.size → ¬ (fun q : Nat => s.heap.size ≤ q) a := fun a h => Nat.not_le.mpr h
  exact str_of (A := fun q : Nat => s.heap.size ≤ q) "ChairCaneModel" 147 6 [104, 101, 105, 103, 104, 116] (by decide) (show Jvm.Cond.before (Cond.exactly (.string "ChairCaneModel" 147) "java/lang/String") #[Value.ref b] s = true from bf_r (bf_r (bf_r (bf_r (bf_r (bf_l (bf_r (bf_l (bf_r (bf_r hgv)))))))))) (show Jvm.Cond.before (Cond.eq (.field (.string "ChairCaneModel" 147) "java/lang/String" "coder" "B") (.int 0)) #[Value.ref b] s = true from bf_l (bf_l (bf_l (bf_l (bf_r (bf_r (bf_l (bf_r (bf_r hgv))))))))) (show Jvm.Cond.before (Cond.arrayOf (.field (.string "ChairCaneModel" 147) "java/lang/String" "value" "[B") .byte) #[Value.ref b] s = true from bf_r (bf_l (bf_l (bf_l (bf_r (bf_r (bf_l (bf_r (bf_r hgv))))))))) (show Jvm.Cond.before (Cond.eq (.length (.field (.string "ChairCaneModel" 147) "java/lang/String" "value" "[B")) (.int 6)) #[Value.ref b] s = true from bf_l (bf_r (bf_l (bf_l (bf_r (bf_r (bf_l (bf_r (bf_r hgv))))))))) (by
      intro j hj
      match j, hj with
      | 0, _ => exact show Jvm.Cond.before (Cond.eq (.elem (.field (.string "ChairCaneModel" 147) "java/lang/String" "value" "[B") (.int 0)) (.int 104)) #[Value.ref b] s = true from bf_l (bf_r (bf_r (bf_l (bf_l (bf_r (bf_r (bf_l (bf_r (bf_r hgv)))))))))
      | 1, _ => exact show Jvm.Cond.before (Cond.eq (.elem (.field (.string "ChairCaneModel" 147) "java/lang/String" "value" "[B") (.int 1)) (.int 101)) #[Value.ref b] s = true from bf_r (bf_r (bf_r (bf_l (bf_l (bf_r (bf_r (bf_l (bf_r (bf_r hgv)))))))))
      | 2, _ => exact show Jvm.Cond.before (Cond.eq (.elem (.field (.string "ChairCaneModel" 147) "java/lang/String" "value" "[B") (.int 2)) (.int 105)) #[Value.ref b] s = true from bf_l (bf_l (bf_r (bf_l (bf_r (bf_r (bf_l (bf_r (bf_r hgv))))))))
      | 3, _ => exact show Jvm.Cond.before (Cond.eq (.elem (.field (.string "ChairCaneModel" 147) "java/lang/String" "value" "[B") (.int 3)) (.int 103)) #[Value.ref b] s = true from bf_l (bf_r (bf_l (bf_r (bf_l (bf_r (bf_r (bf_l (bf_r (bf_r hgv)))))))))
      | 4, _ => exact show Jvm.Cond.before (Cond.eq (.elem (.field (.string "ChairCaneModel" 147) "java/lang/String" "value" "[B") (.int 4)) (.int 104)) #[Value.ref b] s = true from bf_r (bf_r (bf_l (bf_r (bf_l (bf_r (bf_r (bf_l (bf_r (bf_r hgv)))))))))
      | 5, _ => exact show Jvm.Cond.before (Cond.eq (.elem (.field (.string "ChairCaneModel" 147) "java/lang/String" "value" "[B") (.int 5)) (.int 116)) #[Value.ref b] s = true from bf_l (bf_r (bf_r (bf_l (bf_r (bf_r (bf_l (bf_r (bf_r hgv))))))))
      | j + 6, h => exact absurd h (by omega)) hA
set_option maxHeartbeats 4000000 in
set_option maxRecDepth 20000 in
theorem law_tY_4 {b : Nat} {s : State} (hgv : (Jvm.Cond.and given_1 narrow_1).before #[Value.ref b] s = true) : ∃ d t : Nat, strF (fun q : Nat => s.heap.size ≤ q) d t 4 (fun j => ([99, 97, 110, 101] : List Int32).getD j 0) s s.heap ∧ (Term.string "ChairCaneModel" 148).eval #[Value.ref b] s none [] s = some (.ref d) := by
  have hs := flat_of_before _ hgv
  have hA : ∀ a : Nat, a < s.heap.size → ¬ (fun q : Nat => s.heap.size ≤ q) a := fun a h => Nat.not_le.mpr h
  exact str_of (A := fun q : Nat => s.heap.size ≤ q) "ChairCaneModel" 148 4 [99, 97, 110, 101] (by decide) (show Jvm.Cond.before (Cond.exactly (.string "ChairCaneModel" 148) "java/lang/String") #[Value.ref b] s = true from bf_r (bf_r (bf_r (bf_r (bf_l (bf_r (bf_r (bf_l (bf_r (bf_r hgv)))))))))) (show Jvm.Cond.before (Cond.eq (.field (.string "ChairCaneModel" 148) "java/lang/String" "coder" "B") (.int 0)) #[Value.ref b] s = true from bf_l (bf_l (bf_l (bf_r (bf_r (bf_r (bf_l (bf_r (bf_r hgv))))))))) (show Jvm.Cond.before (Cond.arrayOf (.field (.string "ChairCaneModel" 148) "java/lang/String" "value" "[B") .byte) #[Value.ref b] s = true from bf_r (bf_l (bf_l (bf_r (bf_r (bf_r (bf_l (bf_r (bf_r hgv))))))))) (show Jvm.Cond.before (Cond.eq (.length (.field (.string "ChairCaneModel" 148) "java/lang/String" "value" "[B")) (.int 4)) #[Value.ref b] s = true from bf_l (bf_r (bf_l (bf_r (bf_r (bf_r (bf_l (bf_r (bf_r hgv))))))))) (by
      intro j hj
      match j, hj with
      | 0, _ => exact show Jvm.Cond.before (Cond.eq (.elem (.field (.string "ChairCaneModel" 148) "java/lang/String" "value" "[B") (.int 0)) (.int 99)) #[Value.ref b] s = true from bf_l (bf_r (bf_r (bf_l (bf_r (bf_r (bf_r (bf_l (bf_r (bf_r hgv)))))))))
      | 1, _ => exact show Jvm.Cond.before (Cond.eq (.elem (.field (.string "ChairCaneModel" 148) "java/lang/String" "value" "[B") (.int 1)) (.int 97)) #[Value.ref b] s = true from bf_r (bf_r (bf_r (bf_l (bf_r (bf_r (bf_r (bf_l (bf_r (bf_r hgv)))))))))
      | 2, _ => exact show Jvm.Cond.before (Cond.eq (.elem (.field (.string "ChairCaneModel" 148) "java/lang/String" "value" "[B") (.int 2)) (.int 110)) #[Value.ref b] s = true from bf_l (bf_l (bf_r (bf_r (bf_r (bf_r (bf_l (bf_r (bf_r hgv))))))))
      | 3, _ => exact show Jvm.Cond.before (Cond.eq (.elem (.field (.string "ChairCaneModel" 148) "java/lang/String" "value" "[B") (.int 3)) (.int 101)) #[Value.ref b] s = true from bf_l (bf_r (bf_l (bf_r (bf_r (bf_r (bf_r (bf_l (bf_r (bf_r hgv)))))))))
      | j + 4, h => exact absurd h (by omega)) hA
set_option maxHeartbeats 4000000 in
set_option maxRecDepth 20000 in
theorem law_tY_5 {b : Nat} {s : State} (hgv : (Jvm.Cond.and given_1 narrow_1).before #[Value.ref b] s = true) : ∃ d t : Nat, strF (fun q : Nat => s.heap.size ≤ q) d t 4 (fun j => ([115, 105, 116, 115] : List Int32).getD j 0) s s.heap ∧ (Term.string "ChairCaneModel" 149).eval #[Value.ref b] s none [] s = some (.ref d) := by
  have hs := flat_of_before _ hgv
  have hA : ∀ a : Nat, a < s.heap.size → ¬ (fun q : Nat => s.heap.size ≤ q) a := fun a h => Nat.not_le.mpr h
  exact str_of (A := fun q : Nat => s.heap.size ≤ q) "ChairCaneModel" 149 4 [115, 105, 116, 115] (by decide) (show Jvm.Cond.before (Cond.exactly (.string "ChairCaneModel" 149) "java/lang/String") #[Value.ref b] s = true from bf_l (bf_r (bf_r (bf_r (bf_r (bf_r (bf_l (bf_r (bf_r hgv))))))))) (show Jvm.Cond.before (Cond.eq (.field (.string "ChairCaneModel" 149) "java/lang/String" "coder" "B") (.int 0)) #[Value.ref b] s = true from bf_l (bf_r (bf_r (bf_r (bf_r (bf_r (bf_r (bf_l (bf_r (bf_r hgv)))))))))) (show Jvm.Cond.before (Cond.arrayOf (.field (.string "ChairCaneModel" 149) "java/lang/String" "value" "[B") .byte) #[Value.ref b] s = true from bf_r (bf_r (bf_r (bf_r (bf_r (bf_r (bf_r (bf_l (bf_r (bf_r hgv)))))))))) (show Jvm.Cond.before (Cond.eq (.length (.field (.string "ChairCaneModel" 149) "java/lang/String" "value" "[B")) (.int 4)) #[Value.ref b] s = true from bf_l (bf_l (bf_l (bf_l (bf_l (bf_l (bf_r (bf_r (bf_r hgv))))))))) (by
      intro j hj
      match j, hj with
      | 0, _ => exact show Jvm.Cond.before (Cond.eq (.elem (.field (.string "ChairCaneModel" 149) "java/lang/String" "value" "[B") (.int 0)) (.int 115)) #[Value.ref b] s = true from bf_r (bf_l (bf_l (bf_l (bf_l (bf_l (bf_r (bf_r (bf_r hgv))))))))
      | 1, _ => exact show Jvm.Cond.before (Cond.eq (.elem (.field (.string "ChairCaneModel" 149) "java/lang/String" "value" "[B") (.int 1)) (.int 105)) #[Value.ref b] s = true from bf_l (bf_r (bf_l (bf_l (bf_l (bf_l (bf_r (bf_r (bf_r hgv))))))))
      | 2, _ => exact show Jvm.Cond.before (Cond.eq (.elem (.field (.string "ChairCaneModel" 149) "java/lang/String" "value" "[B") (.int 2)) (.int 116)) #[Value.ref b] s = true from bf_l (bf_r (bf_r (bf_l (bf_l (bf_l (bf_l (bf_r (bf_r (bf_r hgv)))))))))
      | 3, _ => exact show Jvm.Cond.before (Cond.eq (.elem (.field (.string "ChairCaneModel" 149) "java/lang/String" "value" "[B") (.int 3)) (.int 115)) #[Value.ref b] s = true from bf_r (bf_r (bf_r (bf_l (bf_l (bf_l (bf_l (bf_r (bf_r (bf_r hgv)))))))))
      | j + 4, h => exact absurd h (by omega)) hA
set_option maxHeartbeats 4000000 in
set_option maxRecDepth 20000 in
theorem law_tY_6 {b : Nat} {s : State} (hgv : (Jvm.Cond.and given_1 narrow_1).before #[Value.ref b] s = true) : ∃ d t : Nat, strF (fun q : Nat => s.heap.size ≤ q) d t 4 (fun j => ([103, 105, 118, 101] : List Int32).getD j 0) s s.heap ∧ (Term.string "ChairCaneModel" 151).eval #[Value.ref b] s none [] s = some (.ref d) := by
  have hs := flat_of_before _ hgv
  have hA : ∀ a : Nat, a < s.heap.size → ¬ (fun q : Nat => s.heap.size ≤ q) a := fun a h => Nat.not_le.mpr h
  exact str_of (A := fun q : Nat => s.heap.size ≤ q) "ChairCaneModel" 151 4 [103, 105, 118, 101] (by decide) (show Jvm.Cond.before (Cond.exactly (.string "ChairCaneModel" 151) "java/lang/String") #[Value.ref b] s = true from bf_l (bf_r (bf_l (bf_r (bf_l (bf_l (bf_l (bf_r (bf_r (bf_r hgv)))))))))) (show Jvm.Cond.before (Cond.eq (.field (.string "ChairCaneModel" 151) "java/lang/String" "coder" "B") (.int 0)) #[Value.ref b] s = true from bf_r (bf_r (bf_l (bf_r (bf_l (bf_l (bf_l (bf_r (bf_r (bf_r hgv)))))))))) (show Jvm.Cond.before (Cond.arrayOf (.field (.string "ChairCaneModel" 151) "java/lang/String" "value" "[B") .byte) #[Value.ref b] s = true from bf_l (bf_r (bf_r (bf_l (bf_l (bf_l (bf_r (bf_r (bf_r hgv))))))))) (show Jvm.Cond.before (Cond.eq (.length (.field (.string "ChairCaneModel" 151) "java/lang/String" "value" "[B")) (.int 4)) #[Value.ref b] s = true from bf_l (bf_r (bf_r (bf_r (bf_l (bf_l (bf_l (bf_r (bf_r (bf_r hgv)))))))))) (by
      intro j hj
      match j, hj with
      | 0, _ => exact show Jvm.Cond.before (Cond.eq (.elem (.field (.string "ChairCaneModel" 151) "java/lang/String" "value" "[B") (.int 0)) (.int 103)) #[Value.ref b] s = true from bf_r (bf_r (bf_r (bf_r (bf_l (bf_l (bf_l (bf_r (bf_r (bf_r hgv)))))))))
      | 1, _ => exact show Jvm.Cond.before (Cond.eq (.elem (.field (.string "ChairCaneModel" 151) "java/lang/String" "value" "[B") (.int 1)) (.int 105)) #[Value.ref b] s = true from bf_l (bf_l (bf_l (bf_r (bf_l (bf_l (bf_r (bf_r (bf_r hgv))))))))
      | 2, _ => exact show Jvm.Cond.before (Cond.eq (.elem (.field (.string "ChairCaneModel" 151) "java/lang/String" "value" "[B") (.int 2)) (.int 118)) #[Value.ref b] s = true from bf_r (bf_l (bf_l (bf_r (bf_l (bf_l (bf_r (bf_r (bf_r hgv))))))))
      | 3, _ => exact show Jvm.Cond.before (Cond.eq (.elem (.field (.string "ChairCaneModel" 151) "java/lang/String" "value" "[B") (.int 3)) (.int 101)) #[Value.ref b] s = true from bf_l (bf_r (bf_l (bf_r (bf_l (bf_l (bf_r (bf_r (bf_r hgv))))))))
      | j + 4, h => exact absurd h (by omega)) hA
set_option maxHeartbeats 4000000 in
set_option maxRecDepth 20000 in
theorem law_tY_7 {b : Nat} {s : State} (hgv : (Jvm.Cond.and given_1 narrow_1).before #[Value.ref b] s = true) : ∃ d t : Nat, strF (fun q : Nat => s.heap.size ≤ q) d t 6 (fun j => ([111, 116, 104, 101, 114, 115] : List Int32).getD j 0) s s.heap ∧ (Term.string "ChairCaneModel" 153).eval #[Value.ref b] s none [] s = some (.ref d) := by
  have hs := flat_of_before _ hgv
  have hA : ∀ a : Nat, a < s.heap.size → ¬ (fun q : Nat => s.heap.size ≤ q) a := fun a h => Nat.not_le.mpr h
  exact str_of (A := fun q : Nat => s.heap.size ≤ q) "ChairCaneModel" 153 6 [111, 116, 104, 101, 114, 115] (by decide) (show Jvm.Cond.before (Cond.exactly (.string "ChairCaneModel" 153) "java/lang/String") #[Value.ref b] s = true from bf_r (bf_r (bf_r (bf_l (bf_r (bf_l (bf_l (bf_r (bf_r (bf_r hgv)))))))))) (show Jvm.Cond.before (Cond.eq (.field (.string "ChairCaneModel" 153) "java/lang/String" "coder" "B") (.int 0)) #[Value.ref b] s = true from bf_l (bf_l (bf_r (bf_r (bf_l (bf_l (bf_r (bf_r (bf_r hgv))))))))) (show Jvm.Cond.before (Cond.arrayOf (.field (.string "ChairCaneModel" 153) "java/lang/String" "value" "[B") .byte) #[Value.ref b] s = true from bf_l (bf_r (bf_l (bf_r (bf_r (bf_l (bf_l (bf_r (bf_r (bf_r hgv)))))))))) (show Jvm.Cond.before (Cond.eq (.length (.field (.string "ChairCaneModel" 153) "java/lang/String" "value" "[B")) (.int 6)) #[Value.ref b] s = true from bf_r (bf_r (bf_l (bf_r (bf_r (bf_l (bf_l (bf_r (bf_r (bf_r hgv)))))))))) (by
      intro j hj
      match j, hj with
      | 0, _ => exact show Jvm.Cond.before (Cond.eq (.elem (.field (.string "ChairCaneModel" 153) "java/lang/String" "value" "[B") (.int 0)) (.int 111)) #[Value.ref b] s = true from bf_l (bf_r (bf_r (bf_r (bf_l (bf_l (bf_r (bf_r (bf_r hgv))))))))
      | 1, _ => exact show Jvm.Cond.before (Cond.eq (.elem (.field (.string "ChairCaneModel" 153) "java/lang/String" "value" "[B") (.int 1)) (.int 116)) #[Value.ref b] s = true from bf_l (bf_r (bf_r (bf_r (bf_r (bf_l (bf_l (bf_r (bf_r (bf_r hgv)))))))))
      | 2, _ => exact show Jvm.Cond.before (Cond.eq (.elem (.field (.string "ChairCaneModel" 153) "java/lang/String" "value" "[B") (.int 2)) (.int 104)) #[Value.ref b] s = true from bf_r (bf_r (bf_r (bf_r (bf_r (bf_l (bf_l (bf_r (bf_r (bf_r hgv)))))))))
      | 3, _ => exact show Jvm.Cond.before (Cond.eq (.elem (.field (.string "ChairCaneModel" 153) "java/lang/String" "value" "[B") (.int 3)) (.int 101)) #[Value.ref b] s = true from bf_l (bf_l (bf_l (bf_l (bf_r (bf_l (bf_r (bf_r (bf_r hgv))))))))
      | 4, _ => exact show Jvm.Cond.before (Cond.eq (.elem (.field (.string "ChairCaneModel" 153) "java/lang/String" "value" "[B") (.int 4)) (.int 114)) #[Value.ref b] s = true from bf_r (bf_l (bf_l (bf_l (bf_r (bf_l (bf_r (bf_r (bf_r hgv))))))))
      | 5, _ => exact show Jvm.Cond.before (Cond.eq (.elem (.field (.string "ChairCaneModel" 153) "java/lang/String" "value" "[B") (.int 5)) (.int 115)) #[Value.ref b] s = true from bf_l (bf_r (bf_l (bf_l (bf_r (bf_l (bf_r (bf_r (bf_r hgv))))))))
      | j + 6, h => exact absurd h (by omega)) hA
set_option maxHeartbeats 4000000 in
set_option maxRecDepth 20000 in
theorem law_tY_8 {b : Nat} {s : State} (hgv : (Jvm.Cond.and given_1 narrow_1).before #[Value.ref b] s = true) : ∃ d t : Nat, strF (fun q : Nat => s.heap.size ≤ q) d t 5 (fun j => ([112, 114, 101, 115, 115] : List Int32).getD j 0) s s.heap ∧ (Term.string "ChairCaneModel" 155).eval #[Value.ref b] s none [] s = some (.ref d) := by
  have hs := flat_of_before _ hgv
  have hA : ∀ a : Nat, a < s.heap.size → ¬ (fun q : Nat => s.heap.size ≤ q) a := fun a h => Nat.not_le.mpr h
  exact str_of (A := fun q : Nat => s.heap.size ≤ q) "ChairCaneModel" 155 5 [112, 114, 101, 115, 115] (by decide) (show Jvm.Cond.before (Cond.exactly (.string "ChairCaneModel" 155) "java/lang/String") #[Value.ref b] s = true from bf_r (bf_r (bf_r (bf_l (bf_l (bf_r (bf_l (bf_r (bf_r (bf_r hgv)))))))))) (show Jvm.Cond.before (Cond.eq (.field (.string "ChairCaneModel" 155) "java/lang/String" "coder" "B") (.int 0)) #[Value.ref b] s = true from bf_l (bf_l (bf_r (bf_l (bf_r (bf_l (bf_r (bf_r (bf_r hgv))))))))) (show Jvm.Cond.before (Cond.arrayOf (.field (.string "ChairCaneModel" 155) "java/lang/String" "value" "[B") .byte) #[Value.ref b] s = true from bf_l (bf_r (bf_l (bf_r (bf_l (bf_r (bf_l (bf_r (bf_r (bf_r hgv)))))))))) (show Jvm.Cond.before (Cond.eq (.length (.field (.string "ChairCaneModel" 155) "java/lang/String" "value" "[B")) (.int 5)) #[Value.ref b] s = true from bf_r (bf_r (bf_l (bf_r (bf_l (bf_r (bf_l (bf_r (bf_r (bf_r hgv)))))))))) (by
      intro j hj
      match j, hj with
      | 0, _ => exact show Jvm.Cond.before (Cond.eq (.elem (.field (.string "ChairCaneModel" 155) "java/lang/String" "value" "[B") (.int 0)) (.int 112)) #[Value.ref b] s = true from bf_l (bf_r (bf_r (bf_l (bf_r (bf_l (bf_r (bf_r (bf_r hgv))))))))
      | 1, _ => exact show Jvm.Cond.before (Cond.eq (.elem (.field (.string "ChairCaneModel" 155) "java/lang/String" "value" "[B") (.int 1)) (.int 114)) #[Value.ref b] s = true from bf_l (bf_r (bf_r (bf_r (bf_l (bf_r (bf_l (bf_r (bf_r (bf_r hgv)))))))))
      | 2, _ => exact show Jvm.Cond.before (Cond.eq (.elem (.field (.string "ChairCaneModel" 155) "java/lang/String" "value" "[B") (.int 2)) (.int 101)) #[Value.ref b] s = true from bf_r (bf_r (bf_r (bf_r (bf_l (bf_r (bf_l (bf_r (bf_r (bf_r hgv)))))))))
      | 3, _ => exact show Jvm.Cond.before (Cond.eq (.elem (.field (.string "ChairCaneModel" 155) "java/lang/String" "value" "[B") (.int 3)) (.int 115)) #[Value.ref b] s = true from bf_l (bf_l (bf_l (bf_r (bf_r (bf_l (bf_r (bf_r (bf_r hgv))))))))
      | 4, _ => exact show Jvm.Cond.before (Cond.eq (.elem (.field (.string "ChairCaneModel" 155) "java/lang/String" "value" "[B") (.int 4)) (.int 115)) #[Value.ref b] s = true from bf_r (bf_l (bf_l (bf_r (bf_r (bf_l (bf_r (bf_r (bf_r hgv))))))))
      | j + 5, h => exact absurd h (by omega)) hA
set_option maxHeartbeats 4000000 in
set_option maxRecDepth 20000 in
theorem law_tY_9 {b : Nat} {s : State} (hgv : (Jvm.Cond.and given_1 narrow_1).before #[Value.ref b] s = true) : ∃ d t : Nat, strF (fun q : Nat => s.heap.size ≤ q) d t 7 (fun j => ([100, 114, 111, 112, 112, 101, 100] : List Int32).getD j 0) s s.heap ∧ (Term.string "ChairCaneModel" 157).eval #[Value.ref b] s none [] s = some (.ref d) := by
  have hs := flat_of_before _ hgv
  have hA : ∀ a : Nat, a < s.heap.size → ¬ (fun q : Nat => s.heap.size ≤ q) a := fun a h => Nat.not_le.mpr h
  exact str_of (A := fun q : Nat => s.heap.size ≤ q) "ChairCaneModel" 157 7 [100, 114, 111, 112, 112, 101, 100] (by decide) (show Jvm.Cond.before (Cond.exactly (.string "ChairCaneModel" 157) "java/lang/String") #[Value.ref b] s = true from bf_l (bf_r (bf_r (bf_l (bf_r (bf_r (bf_l (bf_r (bf_r (bf_r hgv)))))))))) (show Jvm.Cond.before (Cond.eq (.field (.string "ChairCaneModel" 157) "java/lang/String" "coder" "B") (.int 0)) #[Value.ref b] s = true from bf_r (bf_r (bf_r (bf_l (bf_r (bf_r (bf_l (bf_r (bf_r (bf_r hgv)))))))))) (show Jvm.Cond.before (Cond.arrayOf (.field (.string "ChairCaneModel" 157) "java/lang/String" "value" "[B") .byte) #[Value.ref b] s = true from bf_l (bf_l (bf_r (bf_r (bf_r (bf_l (bf_r (bf_r (bf_r hgv))))))))) (show Jvm.Cond.before (Cond.eq (.length (.field (.string "ChairCaneModel" 157) "java/lang/String" "value" "[B")) (.int 7)) #[Value.ref b] s = true from bf_l (bf_r (bf_l (bf_r (bf_r (bf_r (bf_l (bf_r (bf_r (bf_r hgv)))))))))) (by
      intro j hj
      match j, hj with
      | 0, _ => exact show Jvm.Cond.before (Cond.eq (.elem (.field (.string "ChairCaneModel" 157) "java/lang/String" "value" "[B") (.int 0)) (.int 100)) #[Value.ref b] s = true from bf_r (bf_r (bf_l (bf_r (bf_r (bf_r (bf_l (bf_r (bf_r (bf_r hgv)))))))))
      | 1, _ => exact show Jvm.Cond.before (Cond.eq (.elem (.field (.string "ChairCaneModel" 157) "java/lang/String" "value" "[B") (.int 1)) (.int 114)) #[Value.ref b] s = true from bf_l (bf_r (bf_r (bf_r (bf_r (bf_l (bf_r (bf_r (bf_r hgv))))))))
      | 2, _ => exact show Jvm.Cond.before (Cond.eq (.elem (.field (.string "ChairCaneModel" 157) "java/lang/String" "value" "[B") (.int 2)) (.int 111)) #[Value.ref b] s = true from bf_l (bf_r (bf_r (bf_r (bf_r (bf_r (bf_l (bf_r (bf_r (bf_r hgv)))))))))
      | 3, _ => exact show Jvm.Cond.before (Cond.eq (.elem (.field (.string "ChairCaneModel" 157) "java/lang/String" "value" "[B") (.int 3)) (.int 112)) #[Value.ref b] s = true from bf_r (bf_r (bf_r (bf_r (bf_r (bf_r (bf_l (bf_r (bf_r (bf_r hgv)))))))))
      | 4, _ => exact show Jvm.Cond.before (Cond.eq (.elem (.field (.string "ChairCaneModel" 157) "java/lang/String" "value" "[B") (.int 4)) (.int 112)) #[Value.ref b] s = true from bf_l (bf_l (bf_l (bf_l (bf_l (bf_r (bf_r (bf_r (bf_r hgv))))))))
      | 5, _ => exact show Jvm.Cond.before (Cond.eq (.elem (.field (.string "ChairCaneModel" 157) "java/lang/String" "value" "[B") (.int 5)) (.int 101)) #[Value.ref b] s = true from bf_r (bf_l (bf_l (bf_l (bf_l (bf_r (bf_r (bf_r (bf_r hgv))))))))
      | 6, _ => exact show Jvm.Cond.before (Cond.eq (.elem (.field (.string "ChairCaneModel" 157) "java/lang/String" "value" "[B") (.int 6)) (.int 100)) #[Value.ref b] s = true from bf_l (bf_r (bf_l (bf_l (bf_l (bf_r (bf_r (bf_r (bf_r hgv))))))))
      | j + 7, h => exact absurd h (by omega)) hA
set_option maxHeartbeats 4000000 in
set_option maxRecDepth 20000 in
theorem law_tY_10 {b : Nat} {s : State} (hgv : (Jvm.Cond.and given_1 narrow_1).before #[Value.ref b] s = true) : ∃ d t : Nat, strF (fun q : Nat => s.heap.size ≤ q) d t 6 (fun j => ([109, 105, 110, 117, 116, 101] : List Int32).getD j 0) s s.heap ∧ (Term.string "ChairCaneModel" 159).eval #[Value.ref b] s none [] s = some (.ref d) := by
  have hs := flat_of_before _ hgv
  have hA : ∀ a : Nat, a < s.heap.size → ¬ (fun q : Nat => s.heap.size ≤ q) a := fun a h => Nat.not_le.mpr h
  exact str_of (A := fun q : Nat => s.heap.size ≤ q) "ChairCaneModel" 159 6 [109, 105, 110, 117, 116, 101] (by decide) (show Jvm.Cond.before (Cond.exactly (.string "ChairCaneModel" 159) "java/lang/String") #[Value.ref b] s = true from bf_r (bf_r (bf_r (bf_l (bf_l (bf_l (bf_r (bf_r (bf_r (bf_r hgv)))))))))) (show Jvm.Cond.before (Cond.eq (.field (.string "ChairCaneModel" 159) "java/lang/String" "coder" "B") (.int 0)) #[Value.ref b] s = true from bf_l (bf_l (bf_r (bf_l (bf_l (bf_r (bf_r (bf_r (bf_r hgv))))))))) (show Jvm.Cond.before (Cond.arrayOf (.field (.string "ChairCaneModel" 159) "java/lang/String" "value" "[B") .byte) #[Value.ref b] s = true from bf_l (bf_r (bf_l (bf_r (bf_l (bf_l (bf_r (bf_r (bf_r (bf_r hgv)))))))))) (show Jvm.Cond.before (Cond.eq (.length (.field (.string "ChairCaneModel" 159) "java/lang/String" "value" "[B")) (.int 6)) #[Value.ref b] s = true from bf_r (bf_r (bf_l (bf_r (bf_l (bf_l (bf_r (bf_r (bf_r (bf_r hgv)))))))))) (by
      intro j hj
      match j, hj with
      | 0, _ => exact show Jvm.Cond.before (Cond.eq (.elem (.field (.string "ChairCaneModel" 159) "java/lang/String" "value" "[B") (.int 0)) (.int 109)) #[Value.ref b] s = true from bf_l (bf_r (bf_r (bf_l (bf_l (bf_r (bf_r (bf_r (bf_r hgv))))))))
      | 1, _ => exact show Jvm.Cond.before (Cond.eq (.elem (.field (.string "ChairCaneModel" 159) "java/lang/String" "value" "[B") (.int 1)) (.int 105)) #[Value.ref b] s = true from bf_l (bf_r (bf_r (bf_r (bf_l (bf_l (bf_r (bf_r (bf_r (bf_r hgv)))))))))
      | 2, _ => exact show Jvm.Cond.before (Cond.eq (.elem (.field (.string "ChairCaneModel" 159) "java/lang/String" "value" "[B") (.int 2)) (.int 110)) #[Value.ref b] s = true from bf_r (bf_r (bf_r (bf_r (bf_l (bf_l (bf_r (bf_r (bf_r (bf_r hgv)))))))))
      | 3, _ => exact show Jvm.Cond.before (Cond.eq (.elem (.field (.string "ChairCaneModel" 159) "java/lang/String" "value" "[B") (.int 3)) (.int 117)) #[Value.ref b] s = true from bf_l (bf_l (bf_l (bf_r (bf_l (bf_r (bf_r (bf_r (bf_r hgv))))))))
      | 4, _ => exact show Jvm.Cond.before (Cond.eq (.elem (.field (.string "ChairCaneModel" 159) "java/lang/String" "value" "[B") (.int 4)) (.int 116)) #[Value.ref b] s = true from bf_r (bf_l (bf_l (bf_r (bf_l (bf_r (bf_r (bf_r (bf_r hgv))))))))
      | 5, _ => exact show Jvm.Cond.before (Cond.eq (.elem (.field (.string "ChairCaneModel" 159) "java/lang/String" "value" "[B") (.int 5)) (.int 101)) #[Value.ref b] s = true from bf_l (bf_r (bf_l (bf_r (bf_l (bf_r (bf_r (bf_r (bf_r hgv))))))))
      | j + 6, h => exact absurd h (by omega)) hA
set_option maxHeartbeats 4000000 in
set_option maxRecDepth 20000 in
theorem law_tY_11 {b : Nat} {s : State} (hgv : (Jvm.Cond.and given_1 narrow_1).before #[Value.ref b] s = true) : ∃ d t : Nat, strF (fun q : Nat => s.heap.size ≤ q) d t 4 (fun j => ([104, 97, 108, 108] : List Int32).getD j 0) s s.heap ∧ (Term.string "ChairCaneModel" 259).eval #[Value.ref b] s none [] s = some (.ref d) := by
  have hs := flat_of_before _ hgv
  have hA : ∀ a : Nat, a < s.heap.size → ¬ (fun q : Nat => s.heap.size ≤ q) a := fun a h => Nat.not_le.mpr h
  exact str_of (A := fun q : Nat => s.heap.size ≤ q) "ChairCaneModel" 259 4 [104, 97, 108, 108] (by decide) (show Jvm.Cond.before (Cond.exactly (.string "ChairCaneModel" 259) "java/lang/String") #[Value.ref b] s = true from bf_l (bf_l (bf_r (bf_l (bf_l (bf_l (bf_l (bf_r (bf_r hgv))))))))) (show Jvm.Cond.before (Cond.eq (.field (.string "ChairCaneModel" 259) "java/lang/String" "coder" "B") (.int 0)) #[Value.ref b] s = true from bf_l (bf_r (bf_l (bf_r (bf_l (bf_l (bf_l (bf_l (bf_r (bf_r hgv)))))))))) (show Jvm.Cond.before (Cond.arrayOf (.field (.string "ChairCaneModel" 259) "java/lang/String" "value" "[B") .byte) #[Value.ref b] s = true from bf_r (bf_r (bf_l (bf_r (bf_l (bf_l (bf_l (bf_l (bf_r (bf_r hgv)))))))))) (show Jvm.Cond.before (Cond.eq (.length (.field (.string "ChairCaneModel" 259) "java/lang/String" "value" "[B")) (.int 4)) #[Value.ref b] s = true from bf_l (bf_r (bf_r (bf_l (bf_l (bf_l (bf_l (bf_r (bf_r hgv))))))))) (by
      intro j hj
      match j, hj with
      | 0, _ => exact show Jvm.Cond.before (Cond.eq (.elem (.field (.string "ChairCaneModel" 259) "java/lang/String" "value" "[B") (.int 0)) (.int 104)) #[Value.ref b] s = true from bf_l (bf_r (bf_r (bf_r (bf_l (bf_l (bf_l (bf_l (bf_r (bf_r hgv)))))))))
      | 1, _ => exact show Jvm.Cond.before (Cond.eq (.elem (.field (.string "ChairCaneModel" 259) "java/lang/String" "value" "[B") (.int 1)) (.int 97)) #[Value.ref b] s = true from bf_r (bf_r (bf_r (bf_r (bf_l (bf_l (bf_l (bf_l (bf_r (bf_r hgv)))))))))
      | 2, _ => exact show Jvm.Cond.before (Cond.eq (.elem (.field (.string "ChairCaneModel" 259) "java/lang/String" "value" "[B") (.int 2)) (.int 108)) #[Value.ref b] s = true from bf_l (bf_l (bf_l (bf_r (bf_l (bf_l (bf_l (bf_r (bf_r hgv))))))))
      | 3, _ => exact show Jvm.Cond.before (Cond.eq (.elem (.field (.string "ChairCaneModel" 259) "java/lang/String" "value" "[B") (.int 3)) (.int 108)) #[Value.ref b] s = true from bf_r (bf_l (bf_l (bf_r (bf_l (bf_l (bf_l (bf_r (bf_r hgv))))))))
      | j + 4, h => exact absurd h (by omega)) hA
set_option maxHeartbeats 4000000 in
set_option maxRecDepth 20000 in
theorem law_tY_12 {b : Nat} {s : State} (hgv : (Jvm.Cond.and given_1 narrow_1).before #[Value.ref b] s = true) : ∃ d t : Nat, strF (fun q : Nat => s.heap.size ≤ q) d t 6 (fun j => ([115, 116, 114, 97, 110, 100] : List Int32).getD j 0) s s.heap ∧ (Term.string "ChairCaneModel" 261).eval #[Value.ref b] s none [] s = some (.ref d) := by
  have hs := flat_of_before _ hgv
  have hA : ∀ a : Nat, a < s.heap.size → ¬ (fun q : Nat => s.heap.size ≤ q) a := fun a h => Nat.not_le.mpr h
  exact str_of (A := fun q : Nat => s.heap.size ≤ q) "ChairCaneModel" 261 6 [115, 116, 114, 97, 110, 100] (by decide) (show Jvm.Cond.before (Cond.exactly (.string "ChairCaneModel" 261) "java/lang/String") #[Value.ref b] s = true from bf_l (bf_r (bf_r (bf_l (bf_r (bf_l (bf_l (bf_l (bf_r (bf_r hgv)))))))))) (show Jvm.Cond.before (Cond.eq (.field (.string "ChairCaneModel" 261) "java/lang/String" "coder" "B") (.int 0)) #[Value.ref b] s = true from bf_r (bf_r (bf_r (bf_l (bf_r (bf_l (bf_l (bf_l (bf_r (bf_r hgv)))))))))) (show Jvm.Cond.before (Cond.arrayOf (.field (.string "ChairCaneModel" 261) "java/lang/String" "value" "[B") .byte) #[Value.ref b] s = true from bf_l (bf_l (bf_r (bf_r (bf_l (bf_l (bf_l (bf_r (bf_r hgv))))))))) (show Jvm.Cond.before (Cond.eq (.length (.field (.string "ChairCaneModel" 261) "java/lang/String" "value" "[B")) (.int 6)) #[Value.ref b] s = true from bf_l (bf_r (bf_l (bf_r (bf_r (bf_l (bf_l (bf_l (bf_r (bf_r hgv)))))))))) (by
      intro j hj
      match j, hj with
      | 0, _ => exact show Jvm.Cond.before (Cond.eq (.elem (.field (.string "ChairCaneModel" 261) "java/lang/String" "value" "[B") (.int 0)) (.int 115)) #[Value.ref b] s = true from bf_r (bf_r (bf_l (bf_r (bf_r (bf_l (bf_l (bf_l (bf_r (bf_r hgv)))))))))
      | 1, _ => exact show Jvm.Cond.before (Cond.eq (.elem (.field (.string "ChairCaneModel" 261) "java/lang/String" "value" "[B") (.int 1)) (.int 116)) #[Value.ref b] s = true from bf_l (bf_r (bf_r (bf_r (bf_l (bf_l (bf_l (bf_r (bf_r hgv))))))))
      | 2, _ => exact show Jvm.Cond.before (Cond.eq (.elem (.field (.string "ChairCaneModel" 261) "java/lang/String" "value" "[B") (.int 2)) (.int 114)) #[Value.ref b] s = true from bf_l (bf_r (bf_r (bf_r (bf_r (bf_l (bf_l (bf_l (bf_r (bf_r hgv)))))))))
      | 3, _ => exact show Jvm.Cond.before (Cond.eq (.elem (.field (.string "ChairCaneModel" 261) "java/lang/String" "value" "[B") (.int 3)) (.int 97)) #[Value.ref b] s = true from bf_r (bf_r (bf_r (bf_r (bf_r (bf_l (bf_l (bf_l (bf_r (bf_r hgv)))))))))
      | 4, _ => exact show Jvm.Cond.before (Cond.eq (.elem (.field (.string "ChairCaneModel" 261) "java/lang/String" "value" "[B") (.int 4)) (.int 110)) #[Value.ref b] s = true from bf_l (bf_l (bf_l (bf_l (bf_r (bf_l (bf_l (bf_r (bf_r hgv))))))))
      | 5, _ => exact show Jvm.Cond.before (Cond.eq (.elem (.field (.string "ChairCaneModel" 261) "java/lang/String" "value" "[B") (.int 5)) (.int 100)) #[Value.ref b] s = true from bf_r (bf_l (bf_l (bf_l (bf_r (bf_l (bf_l (bf_r (bf_r hgv))))))))
      | j + 6, h => exact absurd h (by omega)) hA
set_option maxHeartbeats 4000000 in
set_option maxRecDepth 20000 in
theorem law_tY_13 {b : Nat} {s : State} (hgv : (Jvm.Cond.and given_1 narrow_1).before #[Value.ref b] s = true) : ∃ d t : Nat, strF (fun q : Nat => s.heap.size ≤ q) d t 3 (fun j => ([115, 105, 116] : List Int32).getD j 0) s s.heap ∧ (Term.string "ChairCaneModel" 302).eval #[Value.ref b] s none [] s = some (.ref d) := by
  have hs := flat_of_before _ hgv
  have hA : ∀ a : Nat, a < s.heap.size → ¬ (fun q : Nat => s.heap.size ≤ q) a := fun a h => Nat.not_le.mpr h
  exact str_of (A := fun q : Nat => s.heap.size ≤ q) "ChairCaneModel" 302 3 [115, 105, 116] (by decide) (show Jvm.Cond.before (Cond.exactly (.string "ChairCaneModel" 302) "java/lang/String") #[Value.ref b] s = true from bf_l (bf_r (bf_l (bf_l (bf_l (bf_r (bf_l (bf_r (bf_r hgv))))))))) (show Jvm.Cond.before (Cond.eq (.field (.string "ChairCaneModel" 302) "java/lang/String" "coder" "B") (.int 0)) #[Value.ref b] s = true from bf_l (bf_r (bf_r (bf_l (bf_l (bf_l (bf_r (bf_l (bf_r (bf_r hgv)))))))))) (show Jvm.Cond.before (Cond.arrayOf (.field (.string "ChairCaneModel" 302) "java/lang/String" "value" "[B") .byte) #[Value.ref b] s = true from bf_r (bf_r (bf_r (bf_l (bf_l (bf_l (bf_r (bf_l (bf_r (bf_r hgv)))))))))) (show Jvm.Cond.before (Cond.eq (.length (.field (.string "ChairCaneModel" 302) "java/lang/String" "value" "[B")) (.int 3)) #[Value.ref b] s = true from bf_l (bf_l (bf_r (bf_l (bf_l (bf_r (bf_l (bf_r (bf_r hgv))))))))) (by
      intro j hj
      match j, hj with
      | 0, _ => exact show Jvm.Cond.before (Cond.eq (.elem (.field (.string "ChairCaneModel" 302) "java/lang/String" "value" "[B") (.int 0)) (.int 115)) #[Value.ref b] s = true from bf_l (bf_r (bf_l (bf_r (bf_l (bf_l (bf_r (bf_l (bf_r (bf_r hgv)))))))))
      | 1, _ => exact show Jvm.Cond.before (Cond.eq (.elem (.field (.string "ChairCaneModel" 302) "java/lang/String" "value" "[B") (.int 1)) (.int 105)) #[Value.ref b] s = true from bf_r (bf_r (bf_l (bf_r (bf_l (bf_l (bf_r (bf_l (bf_r (bf_r hgv)))))))))
      | 2, _ => exact show Jvm.Cond.before (Cond.eq (.elem (.field (.string "ChairCaneModel" 302) "java/lang/String" "value" "[B") (.int 2)) (.int 116)) #[Value.ref b] s = true from bf_l (bf_r (bf_r (bf_l (bf_l (bf_r (bf_l (bf_r (bf_r hgv))))))))
      | j + 3, h => exact absurd h (by omega)) hA
set_option maxHeartbeats 4000000 in
set_option maxRecDepth 20000 in
theorem law_tY_14 {b : Nat} {s : State} (hgv : (Jvm.Cond.and given_1 narrow_1).before #[Value.ref b] s = true) : ∃ d t : Nat, strF (fun q : Nat => s.heap.size ≤ q) d t 2 (fun j => ([105, 102] : List Int32).getD j 0) s s.heap ∧ (Term.string "ChairCaneModel" 304).eval #[Value.ref b] s none [] s = some (.ref d) := by
  have hs := flat_of_before _ hgv
  have hA : ∀ a : Nat, a < s.heap.size → ¬ (fun q : Nat => s.heap.size ≤ q) a := fun a h => Nat.not_le.mpr h
  exact str_of (A := fun q : Nat => s.heap.size ≤ q) "ChairCaneModel" 304 2 [105, 102] (by decide) (show Jvm.Cond.before (Cond.exactly (.string "ChairCaneModel" 304) "java/lang/String") #[Value.ref b] s = true from bf_r (bf_r (bf_r (bf_l (bf_r (bf_l (bf_r (bf_r (bf_r (bf_r hgv)))))))))) (show Jvm.Cond.before (Cond.eq (.field (.string "ChairCaneModel" 304) "java/lang/String" "coder" "B") (.int 0)) #[Value.ref b] s = true from bf_l (bf_l (bf_r (bf_r (bf_l (bf_r (bf_r (bf_r (bf_r hgv))))))))) (show Jvm.Cond.before (Cond.arrayOf (.field (.string "ChairCaneModel" 304) "java/lang/String" "value" "[B") .byte) #[Value.ref b] s = true from bf_l (bf_r (bf_l (bf_r (bf_r (bf_l (bf_r (bf_r (bf_r (bf_r hgv)))))))))) (show Jvm.Cond.before (Cond.eq (.length (.field (.string "ChairCaneModel" 304) "java/lang/String" "value" "[B")) (.int 2)) #[Value.ref b] s = true from bf_r (bf_r (bf_l (bf_r (bf_r (bf_l (bf_r (bf_r (bf_r (bf_r hgv)))))))))) (by
      intro j hj
      match j, hj with
      | 0, _ => exact show Jvm.Cond.before (Cond.eq (.elem (.field (.string "ChairCaneModel" 304) "java/lang/String" "value" "[B") (.int 0)) (.int 105)) #[Value.ref b] s = true from bf_l (bf_r (bf_r (bf_r (bf_l (bf_r (bf_r (bf_r (bf_r hgv))))))))
      | 1, _ => exact show Jvm.Cond.before (Cond.eq (.elem (.field (.string "ChairCaneModel" 304) "java/lang/String" "value" "[B") (.int 1)) (.int 102)) #[Value.ref b] s = true from bf_l (bf_r (bf_r (bf_r (bf_r (bf_l (bf_r (bf_r (bf_r (bf_r hgv)))))))))
      | j + 2, h => exact absurd h (by omega)) hA
set_option maxHeartbeats 4000000 in
set_option maxRecDepth 20000 in
theorem law_tY_15 {b : Nat} {s : State} (hgv : (Jvm.Cond.and given_1 narrow_1).before #[Value.ref b] s = true) : ∃ d t : Nat, strF (fun q : Nat => s.heap.size ≤ q) d t 2 (fun j => ([111, 114] : List Int32).getD j 0) s s.heap ∧ (Term.string "ChairCaneModel" 257).eval #[Value.ref b] s none [] s = some (.ref d) := by
  have hs := flat_of_before _ hgv
  have hA : ∀ a : Nat, a < s.heap.size → ¬ (fun q : Nat => s.heap.size ≤ q) a := fun a h => Nat.not_le.mpr h
  exact str_of (A := fun q : Nat => s.heap.size ≤ q) "ChairCaneModel" 257 2 [111, 114] (by decide) (show Jvm.Cond.before (Cond.exactly (.string "ChairCaneModel" 257) "java/lang/String") #[Value.ref b] s = true from bf_r (bf_r (bf_r (bf_l (bf_r (bf_r (bf_r (bf_r (bf_r (bf_r hgv)))))))))) (show Jvm.Cond.before (Cond.eq (.field (.string "ChairCaneModel" 257) "java/lang/String" "coder" "B") (.int 0)) #[Value.ref b] s = true from bf_l (bf_l (bf_r (bf_r (bf_r (bf_r (bf_r (bf_r (bf_r hgv))))))))) (show Jvm.Cond.before (Cond.arrayOf (.field (.string "ChairCaneModel" 257) "java/lang/String" "value" "[B") .byte) #[Value.ref b] s = true from bf_l (bf_r (bf_l (bf_r (bf_r (bf_r (bf_r (bf_r (bf_r (bf_r hgv)))))))))) (show Jvm.Cond.before (Cond.eq (.length (.field (.string "ChairCaneModel" 257) "java/lang/String" "value" "[B")) (.int 2)) #[Value.ref b] s = true from bf_r (bf_r (bf_l (bf_r (bf_r (bf_r (bf_r (bf_r (bf_r (bf_r hgv)))))))))) (by
      intro j hj
      match j, hj with
      | 0, _ => exact show Jvm.Cond.before (Cond.eq (.elem (.field (.string "ChairCaneModel" 257) "java/lang/String" "value" "[B") (.int 0)) (.int 111)) #[Value.ref b] s = true from bf_l (bf_r (bf_r (bf_r (bf_r (bf_r (bf_r (bf_r (bf_r hgv))))))))
      | 1, _ => exact show Jvm.Cond.before (Cond.eq (.elem (.field (.string "ChairCaneModel" 257) "java/lang/String" "value" "[B") (.int 1)) (.int 114)) #[Value.ref b] s = true from bf_l (bf_r (bf_r (bf_r (bf_r (bf_r (bf_r (bf_r (bf_r (bf_r hgv)))))))))
      | j + 2, h => exact absurd h (by omega)) hA
set_option maxHeartbeats 4000000 in
set_option maxRecDepth 20000 in
theorem law_tY_16 {b : Nat} {s : State} (hgv : (Jvm.Cond.and given_1 narrow_1).before #[Value.ref b] s = true) : ∃ d t : Nat, strF (fun q : Nat => s.heap.size ≤ q) d t 3 (fun j => ([97, 110, 100] : List Int32).getD j 0) s s.heap ∧ (Term.string "ChairCaneModel" 255).eval #[Value.ref b] s none [] s = some (.ref d) := by
  have hs := flat_of_before _ hgv
  have hA : ∀ a : Nat, a < s.heap.size → ¬ (fun q : Nat => s.heap.size ≤ q) a := fun a h => Nat.not_le.mpr h
  exact str_of (A := fun q : Nat => s.heap.size ≤ q) "ChairCaneModel" 255 3 [97, 110, 100] (by decide) (show Jvm.Cond.before (Cond.exactly (.string "ChairCaneModel" 255) "java/lang/String") #[Value.ref b] s = true from bf_l (bf_r (bf_r (bf_l (bf_r (bf_r (bf_r (bf_r (bf_r hgv))))))))) (show Jvm.Cond.before (Cond.eq (.field (.string "ChairCaneModel" 255) "java/lang/String" "coder" "B") (.int 0)) #[Value.ref b] s = true from bf_l (bf_r (bf_r (bf_r (bf_l (bf_r (bf_r (bf_r (bf_r (bf_r hgv)))))))))) (show Jvm.Cond.before (Cond.arrayOf (.field (.string "ChairCaneModel" 255) "java/lang/String" "value" "[B") .byte) #[Value.ref b] s = true from bf_r (bf_r (bf_r (bf_r (bf_l (bf_r (bf_r (bf_r (bf_r (bf_r hgv)))))))))) (show Jvm.Cond.before (Cond.eq (.length (.field (.string "ChairCaneModel" 255) "java/lang/String" "value" "[B")) (.int 3)) #[Value.ref b] s = true from bf_l (bf_l (bf_l (bf_r (bf_r (bf_r (bf_r (bf_r (bf_r hgv))))))))) (by
      intro j hj
      match j, hj with
      | 0, _ => exact show Jvm.Cond.before (Cond.eq (.elem (.field (.string "ChairCaneModel" 255) "java/lang/String" "value" "[B") (.int 0)) (.int 97)) #[Value.ref b] s = true from bf_l (bf_r (bf_l (bf_l (bf_r (bf_r (bf_r (bf_r (bf_r (bf_r hgv)))))))))
      | 1, _ => exact show Jvm.Cond.before (Cond.eq (.elem (.field (.string "ChairCaneModel" 255) "java/lang/String" "value" "[B") (.int 1)) (.int 110)) #[Value.ref b] s = true from bf_r (bf_r (bf_l (bf_l (bf_r (bf_r (bf_r (bf_r (bf_r (bf_r hgv)))))))))
      | 2, _ => exact show Jvm.Cond.before (Cond.eq (.elem (.field (.string "ChairCaneModel" 255) "java/lang/String" "value" "[B") (.int 2)) (.int 100)) #[Value.ref b] s = true from bf_l (bf_r (bf_l (bf_r (bf_r (bf_r (bf_r (bf_r (bf_r hgv))))))))
      | j + 3, h => exact absurd h (by omega)) hA
set_option maxHeartbeats 4000000 in
set_option maxRecDepth 20000 in
theorem law_tY_17 {b : Nat} {s : State} (hgv : (Jvm.Cond.and given_1 narrow_1).before #[Value.ref b] s = true) : ∃ d t : Nat, strF (fun q : Nat => s.heap.size ≤ q) d t 3 (fun j => ([110, 111, 116] : List Int32).getD j 0) s s.heap ∧ (Term.string "ChairCaneModel" 241).eval #[Value.ref b] s none [] s = some (.ref d) := by
  have hs := flat_of_before _ hgv
  have hA : ∀ a : Nat, a < s.heap.size → ¬ (fun q : Nat => s.heap.size ≤ q) a := fun a h => Nat.not_le.mpr h
  exact str_of (A := fun q : Nat => s.heap.size ≤ q) "ChairCaneModel" 241 3 [110, 111, 116] (by decide) (show Jvm.Cond.before (Cond.exactly (.string "ChairCaneModel" 241) "java/lang/String") #[Value.ref b] s = true from bf_l (bf_l (bf_l (bf_l (bf_r (bf_r (bf_r (bf_r (bf_r hgv))))))))) (show Jvm.Cond.before (Cond.eq (.field (.string "ChairCaneModel" 241) "java/lang/String" "coder" "B") (.int 0)) #[Value.ref b] s = true from bf_r (bf_l (bf_l (bf_l (bf_r (bf_r (bf_r (bf_r (bf_r hgv))))))))) (show Jvm.Cond.before (Cond.arrayOf (.field (.string "ChairCaneModel" 241) "java/lang/String" "value" "[B") .byte) #[Value.ref b] s = true from bf_l (bf_r (bf_l (bf_l (bf_r (bf_r (bf_r (bf_r (bf_r hgv))))))))) (show Jvm.Cond.before (Cond.eq (.length (.field (.string "ChairCaneModel" 241) "java/lang/String" "value" "[B")) (.int 3)) #[Value.ref b] s = true from bf_l (bf_r (bf_r (bf_l (bf_l (bf_r (bf_r (bf_r (bf_r (bf_r hgv)))))))))) (by
      intro j hj
      match j, hj with
      | 0, _ => exact show Jvm.Cond.before (Cond.eq (.elem (.field (.string "ChairCaneModel" 241) "java/lang/String" "value" "[B") (.int 0)) (.int 110)) #[Value.ref b] s = true from bf_r (bf_r (bf_r (bf_l (bf_l (bf_r (bf_r (bf_r (bf_r (bf_r hgv)))))))))
      | 1, _ => exact show Jvm.Cond.before (Cond.eq (.elem (.field (.string "ChairCaneModel" 241) "java/lang/String" "value" "[B") (.int 1)) (.int 111)) #[Value.ref b] s = true from bf_l (bf_l (bf_r (bf_l (bf_r (bf_r (bf_r (bf_r (bf_r hgv))))))))
      | 2, _ => exact show Jvm.Cond.before (Cond.eq (.elem (.field (.string "ChairCaneModel" 241) "java/lang/String" "value" "[B") (.int 2)) (.int 116)) #[Value.ref b] s = true from bf_l (bf_r (bf_l (bf_r (bf_l (bf_r (bf_r (bf_r (bf_r (bf_r hgv)))))))))
      | j + 3, h => exact absurd h (by omega)) hA
set_option maxHeartbeats 4000000 in
set_option maxRecDepth 20000 in
theorem law_tY {b : Nat} {s : State} (hts : ∀ w ∈ lw_tbl, w.before #[Value.ref b] s = true) (hgv : (Jvm.Cond.and given_1 narrow_1).before #[Value.ref b] s = true) : ∃ ad tv : Nat → Nat, EY ad tv (fun q : Nat => s.heap.size ≤ q) s := by
  have hA : ∀ a : Nat, a < s.heap.size → ¬ (fun q : Nat => s.heap.size ≤ q) a := fun a h => Nat.not_le.mpr h
  obtain ⟨d0, t0, hF0, hv0⟩ := law_tY_0 hgv
  obtain ⟨d1, t1, hF1, hv1⟩ := law_tY_1 hgv
  obtain ⟨d2, t2, hF2, hv2⟩ := law_tY_2 hgv
  obtain ⟨d3, t3, hF3, hv3⟩ := law_tY_3 hgv
  obtain ⟨d4, t4, hF4, hv4⟩ := law_tY_4 hgv
  obtain ⟨d5, t5, hF5, hv5⟩ := law_tY_5 hgv
  obtain ⟨d6, t6, hF6, hv6⟩ := law_tY_6 hgv
  obtain ⟨d7, t7, hF7, hv7⟩ := law_tY_7 hgv
  obtain ⟨d8, t8, hF8, hv8⟩ := law_tY_8 hgv
  obtain ⟨d9, t9, hF9, hv9⟩ := law_tY_9 hgv
  obtain ⟨d10, t10, hF10, hv10⟩ := law_tY_10 hgv
  obtain ⟨d11, t11, hF11, hv11⟩ := law_tY_11 hgv
  obtain ⟨d12, t12, hF12, hv12⟩ := law_tY_12 hgv
  obtain ⟨d13, t13, hF13, hv13⟩ := law_tY_13 hgv
  obtain ⟨d14, t14, hF14, hv14⟩ := law_tY_14 hgv
  obtain ⟨d15, t15, hF15, hv15⟩ := law_tY_15 hgv
  obtain ⟨d16, t16, hF16, hv16⟩ := law_tY_16 hgv
  obtain ⟨d17, t17, hF17, hv17⟩ := law_tY_17 hgv
  obtain ⟨hZ, hM⟩ := law_stat hts hgv
  exact ⟨fun i => [d0, d1, d2, d3, d4, d5, d6, d7, d8, d9, d10, d11, d12, d13, d14, d15, d16, d17].getD i 0, fun i => [t0, t1, t2, t3, t4, t5, t6, t7, t8, t9, t10, t11, t12, t13, t14, t15, t16, t17].getD i 0, hZ, hM, (fun i hi => match i, hi with | 0, _ => hF0 | 1, _ => hF1 | 2, _ => hF2 | 3, _ => hF3 | 4, _ => hF4 | 5, _ => hF5 | 6, _ => hF6 | 7, _ => hF7 | 8, _ => hF8 | 9, _ => hF9 | 10, _ => hF10 | 11, _ => hF11 | 12, _ => hF12 | 13, _ => hF13 | 14, _ => hF14 | 15, _ => hF15 | 16, _ => hF16 | 17, _ => hF17 | n + 18, h => absurd h (by omega)), vk_R.of (hts (.stringRef "ChairCaneModel" 142 "sitter") (List.mem_of_getElem? (i := 1154) (by decide +kernel))) hv0, vk_R.of (hts (.stringRef "ChairCaneModel" 144 "chair") (List.mem_of_getElem? (i := 1153) (by decide +kernel))) hv1, vk_R.of (hts (.stringRef "ChairCaneModel" 146 "weight") (List.mem_of_getElem? (i := 1238) (by decide +kernel))) hv2, vk_R.of (hts (.stringRef "ChairCaneModel" 147 "height") (List.mem_of_getElem? (i := 1239) (by decide +kernel))) hv3, vk_R.of (hts (.stringRef "ChairCaneModel" 148 "cane") (List.mem_of_getElem? (i := 1240) (by decide +kernel))) hv4, vk_R.of (hts (.stringRef "ChairCaneModel" 149 "sits") (List.mem_of_getElem? (i := 1241) (by decide +kernel))) hv5, vk_R.of (hts (.stringRef "ChairCaneModel" 151 "give") (List.mem_of_getElem? (i := 1242) (by decide +kernel))) hv6, vk_R.of (hts (.stringRef "ChairCaneModel" 153 "others") (List.mem_of_getElem? (i := 1243) (by decide +kernel))) hv7, vk_R.of (hts (.stringRef "ChairCaneModel" 155 "press") (List.mem_of_getElem? (i := 1244) (by decide +kernel))) hv8, vk_R.of (hts (.stringRef "ChairCaneModel" 157 "dropped") (List.mem_of_getElem? (i := 1245) (by decide +kernel))) hv9, vk_R.of (hts (.stringRef "ChairCaneModel" 159 "minute") (List.mem_of_getElem? (i := 1246) (by decide +kernel))) hv10, vk_R.of (hts (.stringRef "ChairCaneModel" 259 "hall") (List.mem_of_getElem? (i := 1151) (by decide +kernel))) hv11, vk_R.of (hts (.stringRef "ChairCaneModel" 261 "strand") (List.mem_of_getElem? (i := 1152) (by decide +kernel))) hv12, vk_R.of (hts (.stringRef "ChairCaneModel" 302 "sit") (List.mem_of_getElem? (i := 1214) (by decide +kernel))) hv13, vk_R.of (hts (.stringRef "ChairCaneModel" 304 "if") (List.mem_of_getElem? (i := 1247) (by decide +kernel))) hv14, vk_R.of (hts (.stringRef "ChairCaneModel" 257 "or") (List.mem_of_getElem? (i := 1278) (by decide +kernel))) hv15, vk_R.of (hts (.stringRef "ChairCaneModel" 255 "and") (List.mem_of_getElem? (i := 1277) (by decide +kernel))) hv16, vk_R.of (hts (.stringRef "ChairCaneModel" 241 "not") (List.mem_of_getElem? (i := 1260) (by decide +kernel))) hv17⟩
