/-! the reference's reader -/
noncomputable def yn (i : Nat) : Nat := [6, 5, 6, 6, 4, 4, 4, 6, 5, 7, 6, 4, 6, 3, 2, 2, 3, 3].getD i 1
noncomputable def EY_i (ad tv : Nat → Nat) (A : Nat → Prop) (U : State) : Prop := cmpF A U U.heap ∧ fmtF A U U.heap ∧ (∀ i, i < 18 → strF_i A (ad i) (tv i) (yn i) U U.heap) ∧ vk_R RX9 142 "sitter" (ad 0) U ∧ vk_R RX9 144 "chair" (ad 1) U ∧ vk_R RX9 146 "weight" (ad 2) U ∧ vk_R RX9 147 "height" (ad 3) U ∧ vk_R RX9 148 "cane" (ad 4) U ∧ vk_R RX9 149 "sits" (ad 5) U ∧ vk_R RX9 151 "give" (ad 6) U ∧ vk_R RX9 153 "others" (ad 7) U ∧ vk_R RX9 155 "press" (ad 8) U ∧ vk_R RX9 157 "dropped" (ad 9) U ∧ vk_R RX9 159 "minute" (ad 10) U ∧ vk_R RX9 259 "hall" (ad 11) U ∧ vk_R RX9 261 "strand" (ad 12) U ∧ vk_R RX9 302 "sit" (ad 13) U ∧ vk_R RX9 304 "if" (ad 14) U ∧ vk_R RX9 257 "or" (ad 15) U ∧ vk_R RX9 255 "and" (ad 16) U ∧ vk_R RX9 241 "not" (ad 17) U
theorem EY_i.ok (ad tv : Nat → Nat) : EOk (EY_i ad tv) := ⟨fun A U g mk ar h => by
  obtain ⟨h0, h1, h2, r0, r1, r2, r3, r4, r5, r6, r7, r8, r9, r10, r11, r12, r13, r14, r15, r16, r17⟩ := h
  have hR := va_S.rf (A := A) (H0 := U.heap)
  have hv := Vm.Alike.refl U.vm
  exact ⟨cmpF.to (U := U.calling g mk ar) h0 hR (fun _ q => q) hv, fmtF.to (U := U.calling g mk ar) h1 hR (fun _ q => q) hv, (fun i hi => strF_i.to (U := U.calling g mk ar) (h2 i hi) hR (fun _ q => q) hv), r0.same (U := U.calling g mk ar) rfl, r1.same (U := U.calling g mk ar) rfl, r2.same (U := U.calling g mk ar) rfl, r3.same (U := U.calling g mk ar) rfl, r4.same (U := U.calling g mk ar) rfl, r5.same (U := U.calling g mk ar) rfl, r6.same (U := U.calling g mk ar) rfl, r7.same (U := U.calling g mk ar) rfl, r8.same (U := U.calling g mk ar) rfl, r9.same (U := U.calling g mk ar) rfl, r10.same (U := U.calling g mk ar) rfl, r11.same (U := U.calling g mk ar) rfl, r12.same (U := U.calling g mk ar) rfl, r13.same (U := U.calling g mk ar) rfl, r14.same (U := U.calling g mk ar) rfl, r15.same (U := U.calling g mk ar) rfl, r16.same (U := U.calling g mk ar) rfl, r17.same (U := U.calling g mk ar) rfl⟩, fun A B s U H locs h hS hF hU hW => by
  subst hU
  obtain ⟨h0, h1, h2, r0, r1, r2, r3, r4, r5, r6, r7, r8, r9, r10, r11, r12, r13, r14, r15, r16, r17⟩ := h
  exact ⟨cmpF.to h0 hS hF hW.alike, fmtF.to h1 hS hF hW.alike, (fun i hi => strF_i.to (h2 i hi) hS hF hW.alike), r0.warm hW, r1.warm hW, r2.warm hW, r3.warm hW, r4.warm hW, r5.warm hW, r6.warm hW, r7.warm hW, r8.warm hW, r9.warm hW, r10.warm hW, r11.warm hW, r12.warm hW, r13.warm hW, r14.warm hW, r15.warm hW, r16.warm hW, r17.warm hW⟩⟩
section HTY
variable {p : Program} {l : Launch} {e : Env} {R : Room} {s : State} {m : MethodId} {args : Array Value} {below : List Frame} {meth : Method} {c : Code} {H : Heap} {locs : List Loc} {cells slots : Nat} {Q : State → Prop} {pc : Nat} {ls : Array Slot} {rest st0 As : List Value} {D : va_G} {k : Nat → ClassId} {A : Nat → Prop} {ws wc wr : va_W} {cc : ByteArray} {y : MethodName} {wd wd' Ts : List Cond} {rm : Room} {mc ms n index maxL nL : Nat} {bytes : ByteArray} {ret : Option FieldType} {own C host : String} {b : Nat} {E : (Nat → Prop) → State → Prop}
end HTY
theorem run_cong {so nu so2 nu2 : Nat → Int32} : ∀ (n b h h2 : Nat), (∀ j, b ≤ j → j < b + n → so2 j = so j ∧ nu2 j = nu j) → run so nu n b h h2 → run so2 nu2 n b h h2
  | 0, _, _, _, _, hr => hr
  | n + 1, b, h, h2, hs, hr => by
    have e := hs b (Nat.le_refl _) (by omega)
    unfold run at hr ⊢
    rw [e.1, e.2]
    have hs2 : ∀ j, b + 1 ≤ j → j < b + 1 + n → so2 j = so j ∧ nu2 j = nu j := fun j h1 h2 => hs j (by omega) (by omega)
    rcases hr with ⟨q1, q2⟩ | ⟨q1, q2, q3⟩ | ⟨q1, q2, q3, q4, q5⟩
    · exact Or.inl ⟨q1, run_cong n _ _ _ hs2 q2⟩
    · exact Or.inr (Or.inl ⟨q1, q2, run_cong n _ _ _ hs2 q3⟩)
    · exact Or.inr (Or.inr ⟨q1, q2, q3, q4, run_cong n _ _ _ hs2 q5⟩)
theorem run_app {so nu : Nat → Int32} : ∀ (n m b h h1 h2 : Nat), run so nu n b h h1 → run so nu m (b + n) h1 h2 → run so nu (n + m) b h h2
  | 0, m, b, h, h1, h2, hr, h3 => by
    have hr : h = h1 := hr
    subst hr
    rw [Nat.zero_add]
    exact h3
  | n + 1, m, b, h, h1, h2, hr, h3 => by
    rw [show n + 1 + m = (n + m) + 1 from by omega]
    rw [show b + (n + 1) = (b + 1) + n from by omega] at h3
    unfold run at hr ⊢
    rcases hr with ⟨q1, q2⟩ | ⟨q1, q2, q3⟩ | ⟨q1, q2, q3, q4, q5⟩
    · exact Or.inl ⟨q1, run_app n m _ _ _ _ q2 h3⟩
    · exact Or.inr (Or.inl ⟨q1, q2, run_app n m _ _ _ _ q3 h3⟩)
    · exact Or.inr (Or.inr ⟨q1, q2, q3, q4, run_app n m _ _ _ _ q5 h3⟩)
noncomputable def Lo (so nu so2 nu2 : Nat → Int32) (b : Int) : Prop := ∀ j : Nat, (j : Int) < b → so2 j = so j ∧ nu2 j = nu j
theorem Lo.rf {so nu : Nat → Int32} {b : Int} : Lo so nu so nu b := fun _ _ => ⟨rfl, rfl⟩
theorem Lo.tr {so nu so1 nu1 so2 nu2 : Nat → Int32} {b c : Int} (h : Lo so nu so1 nu1 b) (h2 : Lo so1 nu1 so2 nu2 c) (hb : b ≤ c) : Lo so nu so2 nu2 b := fun j hj => by
  have a1 := h j hj
  have a2 := h2 j (by omega)
  exact ⟨a2.1.trans a1.1, a2.2.trans a1.2⟩
theorem Lo.le {so nu so2 nu2 : Nat → Int32} {b c : Int} (h : Lo so nu so2 nu2 c) (hb : b ≤ c) : Lo so nu so2 nu2 b := fun j hj => h j (by omega)
noncomputable def Gr (so nu : Nat → Int32) (b e e2 : Int) (m : Nat) : Prop := ∀ h : Nat, run so nu (e2 - e).toNat (b + e).toNat h (h + m)
theorem Gr.rf {so nu : Nat → Int32} {b e : Int} : Gr so nu b e e 0 := fun h => by
  rw [Int.sub_self]
  rfl
theorem Gr.tr {so nu : Nat → Int32} {b e0 e1 e2 : Int} {m1 m2 : Nat} (h : Gr so nu b e0 e1 m1) (h2 : Gr so nu b e1 e2 m2) (h01 : e0 ≤ e1) (h12 : e1 ≤ e2) (hb : 0 ≤ b + e0) : Gr so nu b e0 e2 (m1 + m2) := fun k => by
  have a := run_app (e1 - e0).toNat (e2 - e1).toNat (b + e0).toNat k (k + m1) (k + m1 + m2) (h k) (by
    have a2 := h2 (k + m1)
    rw [show (b + e1).toNat = (b + e0).toNat + (e1 - e0).toNat from by omega] at a2
    exact a2)
  rw [show (e1 - e0).toNat + (e2 - e1).toNat = (e2 - e0).toNat from by omega, Nat.add_assoc] at a
  exact a
theorem Gr.cg {so nu so2 nu2 : Nat → Int32} {b e0 e1 : Int} {m : Nat} (h : Gr so nu b e0 e1 m) (hl : Lo so nu so2 nu2 (b + e1)) (h01 : e0 ≤ e1) (hb : 0 ≤ b + e0) : Gr so2 nu2 b e0 e1 m := fun k =>
  run_cong _ _ _ _ (fun j h1 h2 => hl j (by omega)) (h k)
noncomputable def EnR (so nu so2 nu2 : Nat → Int32) (b F : Int) (k n : Int32) : Prop := (F ≠ 0 → so2 = so ∧ nu2 = nu) ∧ (F = 0 → so2 = upd so b.toNat k ∧ nu2 = upd nu b.toNat n)
theorem EnR.lo {so nu so2 nu2 : Nat → Int32} {b F : Int} {k n : Int32} (h : EnR so nu so2 nu2 b F k n) (hb : 0 ≤ b) : Lo so nu so2 nu2 b := fun j hj => by
  by_cases hF : F = 0
  · obtain ⟨e1, e2⟩ := h.2 hF
    rw [e1, e2, pk_un (by omega), pk_un (by omega)]
    exact ⟨rfl, rfl⟩
  · obtain ⟨e1, e2⟩ := h.1 hF
    rw [e1, e2]
    exact ⟨rfl, rfl⟩
/-- one entry more -/
theorem Gr.one {so2 nu2 : Nat → Int32} {b e : Int} {m m2 : Nat} (hb : 0 ≤ b + e) (h : ∀ k : Nat, run so2 nu2 1 (b + e).toNat (k + m) (k + m2)) : ∀ k : Nat, run so2 nu2 (e + 1 - e).toNat (b + e).toNat (k + m) (k + m2) := fun k => by
  rw [show (e + 1 - e).toNat = 1 from by omega]
  exact h k
theorem Gr.val {so nu so2 nu2 : Nat → Int32} {b e : Int} {k n : Int32} (h : EnR so nu so2 nu2 (b + e) 0 k n) (hk : k.toInt = 0 ∨ (k.toInt = 1 ∧ 0 ≤ n.toInt ∧ n.toInt ≤ 10)) : Gr so2 nu2 b e (e + 1) 1 := fun q => by
  obtain ⟨e1, e2⟩ := h.2 rfl
  rw [show (e + 1 - e).toNat = 0 + 1 from by omega]
  unfold run
  rw [e1, e2, pk_us, pk_us]
  exact Or.inl ⟨hk, rfl⟩
theorem Gr.bin {so nu so2 nu2 : Nat → Int32} {b e0 e : Int} {m : Nat} {k n : Int32} (hg : Gr so nu b e0 e (m + 2)) (h : EnR so nu so2 nu2 (b + e) 0 k n) (hk : k.toInt ≠ 0 ∧ k.toInt ≠ 1 ∧ k.toInt ≠ 9) (h0 : e0 ≤ e) (hb : 0 ≤ b + e0) : Gr so2 nu2 b e0 (e + 1) (m + 1) := fun q => by
  have hg2 := hg.cg (h.lo (by omega)) h0 hb
  have a := run_app (e - e0).toNat 1 (b + e0).toNat q (q + (m + 2)) (q + (m + 1)) (hg2 q) (by
    rw [show (b + e0).toNat + (e - e0).toNat = (b + e).toNat from by omega]
    obtain ⟨e1, e2⟩ := h.2 rfl
    show run so2 nu2 (0 + 1) _ _ _
    unfold run
    rw [e1, e2, pk_us, pk_us]
    refine Or.inr (Or.inr ⟨hk.1, hk.2.1, hk.2.2, by omega, ?_⟩)
    show q + (m + 2) - 1 = q + (m + 1)
    omega)
  rw [show (e - e0).toNat + 1 = (e + 1 - e0).toNat from by omega] at a
  exact a
theorem Gr.nt {so nu so2 nu2 : Nat → Int32} {b e0 e : Int} {m : Nat} {k n : Int32} (hg : Gr so nu b e0 e (m + 1)) (h : EnR so nu so2 nu2 (b + e) 0 k n) (hk : k.toInt = 9) (h0 : e0 ≤ e) (hb : 0 ≤ b + e0) : Gr so2 nu2 b e0 (e + 1) (m + 1) := fun q => by
  have hg2 := hg.cg (h.lo (by omega)) h0 hb
  have a := run_app (e - e0).toNat 1 (b + e0).toNat q (q + (m + 1)) (q + (m + 1)) (hg2 q) (by
    rw [show (b + e0).toNat + (e - e0).toNat = (b + e).toNat from by omega]
    obtain ⟨e1, e2⟩ := h.2 rfl
    show run so2 nu2 (0 + 1) _ _ _
    unfold run
    rw [e1, e2, pk_us, pk_us]
    refine Or.inr (Or.inl ⟨hk, by omega, ?_⟩)
    rfl)
  rw [show (e - e0).toNat + 1 = (e + 1 - e0).toNat from by omega] at a
  exact a
/-- an order grew by a value, if nothing failed -/
noncomputable def TmI (so0 nu0 so nu : Nat → Int32) (b e0 e F : Int) (m : Nat) : Prop := Lo so0 nu0 so nu (b + e0) ∧ e0 ≤ e ∧ (F = 0 → Gr so nu b e0 e m)
theorem TmI.fail {so nu : Nat → Int32} {b e F : Int} {m : Nat} (h : F ≠ 0) : TmI so nu so nu b e e F m := ⟨Lo.rf, Int.le_refl _, fun q => absurd q h⟩
theorem TmI.nil {so nu : Nat → Int32} {b e F : Int} : TmI so nu so nu b e e F 0 := ⟨Lo.rf, Int.le_refl _, fun _ => Gr.rf⟩
theorem TmI.val {so nu so2 nu2 : Nat → Int32} {b e e2 F : Int} {k n : Int32} (h : EnR so nu so2 nu2 (b + e) F k n) (he : (F ≠ 0 ∧ e2 = e) ∨ (F = 0 ∧ e2 = e + 1)) (hk : k.toInt = 0 ∨ (k.toInt = 1 ∧ 0 ≤ n.toInt ∧ n.toInt ≤ 10)) (hb : 0 ≤ b + e) : TmI so nu so2 nu2 b e e2 F 1 := by
  refine ⟨h.lo hb, by omega, fun hF => ?_⟩
  subst hF
  obtain rfl : e2 = e + 1 := by omega
  exact Gr.val h hk
theorem TmI.step {so0 nu0 so1 nu1 so2 nu2 so3 nu3 : Nat → Int32} {b e0 e1 e2 e3 F1 F2 : Int} {k n : Int32} (h : TmI so0 nu0 so1 nu1 b e0 e1 F1 1) (hv : TmI so1 nu1 so2 nu2 b e1 e2 F2 1) (hF : F2 = 0 → F1 = 0) (he : EnR so2 nu2 so3 nu3 (b + e2) F2 k n) (h3 : (F2 ≠ 0 ∧ e3 = e2) ∨ (F2 = 0 ∧ e3 = e2 + 1)) (hk : k.toInt ≠ 0 ∧ k.toInt ≠ 1 ∧ k.toInt ≠ 9) (hb : 0 ≤ b + e0) : TmI so0 nu0 so3 nu3 b e0 e3 F2 1 := by
  have h12 := h.2.1
  have h23 := hv.2.1
  refine ⟨(h.1.tr hv.1 (by omega)).tr (he.lo (by omega)) (by omega), by omega, fun q => ?_⟩
  subst q
  obtain rfl : e3 = e2 + 1 := by omega
  have g1 := (h.2.2 (hF rfl)).cg hv.1 h12 hb
  exact Gr.bin (m := 0) (g1.tr (hv.2.2 rfl) h12 h23 hb) he hk (by omega) hb
theorem TmI.F {so0 nu0 so nu : Nat → Int32} {b e0 e F F2 : Int} {m : Nat} (h : TmI so0 nu0 so nu b e0 e F m) (hF : F2 = 0 → F = 0) : TmI so0 nu0 so nu b e0 e F2 m := ⟨h.1, h.2.1, fun q => h.2.2 (hF q)⟩
/-- how many of what is open wait for two, for one or two -/
noncomputable def cB (f : Nat → Int32) : Nat → Nat
  | 0 => 0
  | n + 1 => cB f n + (if (f n).toInt = 10 ∨ (f n).toInt = 11 then 1 else 0)
noncomputable def cN (f : Nat → Int32) : Nat → Nat
  | 0 => 0
  | n + 1 => cN f n + (if (f n).toInt = 12 then 0 else 1)
theorem cn_pop {f : Nat → Int32} {o o2 z : Int32} (h0 : 1 ≤ o.toInt) (e : z = f (o.toInt - 1).toNat) (h : o2.toInt = o.toInt - 1) : cB f o.toInt.toNat = cB f o2.toInt.toNat + (if z.toInt = 10 ∨ z.toInt = 11 then 1 else 0) ∧ cN f o.toInt.toNat = cN f o2.toInt.toNat + (if z.toInt = 12 then 0 else 1) := by
  rw [show o.toInt.toNat = o2.toInt.toNat + 1 from by omega]
  have hz : z = f o2.toInt.toNat := by rw [e]; congr 1; omega
  constructor
  · show cB f o2.toInt.toNat + _ = _
    rw [← hz]
  · show cN f o2.toInt.toNat + _ = _
    rw [← hz]
/-- what is answered leaves as many facts as wait -/
noncomputable def AnI (so nu so2 nu2 op : Nat → Int32) (b e e2 o o2 : Int) : Prop := Lo so nu so2 nu2 (b + e) ∧ e ≤ e2 ∧ ∀ e0 : Int, 0 ≤ b + e0 → e0 ≤ e → Gr so nu b e0 e (cB op o.toNat + 1) → Gr so2 nu2 b e0 e2 (cB op o2.toNat + 1)
theorem AnI.rf {so nu op : Nat → Int32} {b e o : Int} : AnI so nu so nu op b e e o o := ⟨Lo.rf, Int.le_refl _, fun _ _ _ h => h⟩
theorem AnI.not {so nu so1 nu1 so2 nu2 op : Nat → Int32} {b e e1 e2 o : Int} {o1 o2 z k n : Int32} (h : AnI so nu so1 nu1 op b e e1 o o1.toInt) (hE : EnR so1 nu1 so2 nu2 (b + e1) 0 k n) (hk : k.toInt = 9) (h0 : 1 ≤ o1.toInt) (ez : z = op (o1.toInt - 1).toNat) (hz : z.toInt = 9) (ho : o2.toInt = o1.toInt - 1) (he : e2 = e1 + 1) (hb : 0 ≤ b + e) : AnI so nu so2 nu2 op b e e2 o o2.toInt := by
  subst he
  have hle := h.2.1
  refine ⟨h.1.tr (hE.lo (by omega)) (by omega), by omega, fun e0 hb0 h01 hg => ?_⟩
  have hp := (cn_pop h0 ez ho).1
  rw [hz, if_neg (by decide), Nat.add_zero] at hp
  have hg1 := h.2.2 e0 hb0 h01 hg
  rw [hp] at hg1
  exact Gr.nt hg1 hE hk (by omega) hb0
theorem AnI.two {so nu so1 nu1 so2 nu2 op : Nat → Int32} {b e e1 e2 o : Int} {o1 o2 z k n : Int32} (h : AnI so nu so1 nu1 op b e e1 o o1.toInt) (hE : EnR so1 nu1 so2 nu2 (b + e1) 0 k n) (hk : k.toInt = 10 ∨ k.toInt = 11) (h0 : 1 ≤ o1.toInt) (ez : z = op (o1.toInt - 1).toNat) (hz : z.toInt = 10 ∨ z.toInt = 11) (ho : o2.toInt = o1.toInt - 1) (he : e2 = e1 + 1) (hb : 0 ≤ b + e) : AnI so nu so2 nu2 op b e e2 o o2.toInt := by
  subst he
  have hle := h.2.1
  refine ⟨h.1.tr (hE.lo (by omega)) (by omega), by omega, fun e0 hb0 h01 hg => ?_⟩
  have hp := (cn_pop h0 ez ho).1
  rw [if_pos hz] at hp
  have hg1 := h.2.2 e0 hb0 h01 hg
  rw [hp] at hg1
  exact Gr.bin hg1 hE (by omega) (by omega) hb0
theorem TmI.ms {so0 nu0 so nu : Nat → Int32} {b e0 e F : Int} {m m2 : Nat} (h : TmI so0 nu0 so nu b e0 e F m) (e9 : m = m2) : TmI so0 nu0 so nu b e0 e F m2 := e9 ▸ h
