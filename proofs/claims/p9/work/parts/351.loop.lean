/-! a rule, pure: all clauses by both -/
section RLO
variable {F : Nat} {m x y : OB} {L s n : Nat}
/-- both refuse the rule with the same fault -/
noncomputable def BadR (m x : OB) (s : Nat) (so nu sa ta ea : Nat → Int32) (rc : Option (Int32 × OB × OB)) (rr : Option (Int32 × OB)) : Prop := ∃ (φ : Nat) (p2 k2 e2 d2 c2 o2 t2 : Int32) (so2 nu2 op2 sa2 ta2 ea2 : Nat → Int32) (ru2 : OB), 0 < φ ∧ φ < 4000 ∧ FrS s so so2 ∧ FrS s nu nu2 ∧ Fr12 s sa sa2 ∧ Fr12 s ta ta2 ∧ Fr12 s ea ea2 ∧ rc = some (0, tpa x t2 (nI φ), ru2) ∧ rr = some (-2 - nI φ, finR (ps (mcl m sa2 ta2 ea2) p2 (nI φ) e2 d2 c2 o2 so2 nu2 op2) s k2 (nI s))
/-- both take the rule with the same clauses -/
noncomputable def GoodR (m x y : OB) (s : Nat) (so nu sa ta ea : Nat → Int32) (rc : Option (Int32 × OB × OB)) (rr : Option (Int32 × OB)) : Prop := ∃ (c2 len2 : Nat) (p2 o2 u2 t2 : Int32) (st2 so2 nu2 op2 sf2 su2 te2 sa2 ta2 ea2 : Nat → Int32), 0 < c2 ∧ c2 ≤ 12 ∧ len2 ≤ 280 ∧ ClT s c2 len2 st2 sf2 su2 te2 sa2 ta2 ea2 ∧ CE s len2 st2 so2 nu2 ∧ FrS s so so2 ∧ FrS s nu nu2 ∧ Fr12 s sa sa2 ∧ Fr12 s ta ta2 ∧ Fr12 s ea ea2 ∧ rc = some (1, tpa x t2 0, rus (ycl y (nI c2) sf2 su2 te2) (nI len2) u2 st2) ∧ rr = some (nI s, finR (ps (mcl m sa2 ta2 ea2) p2 0 (nI len2) (nI 0) u2 o2 so2 nu2 op2) s (nI c2) (nI (s + 1)))
theorem rule_loop (hr : RB m L s) (hF : 1000 ≤ F) (hx : TX (m.2.1 28) L x n) (h22 : m.1 22 = nI s) : ∀ (N c i t p u len fc g : Nat) (o : Int32) (st so nu op sf su te sa ta ea : Nat → Int32), c + N = 13 → c ≤ 12 → At L x n t i → p ≤ L → sk (m.2.1 28) L p = i → u ≤ 60 → CE s len st so nu → 3 * len ≤ 14 * u → ClT s c len st sf su te sa ta ea → N ≤ fc → N + 1 ≤ g →
    BadR m x s so nu sa ta ea (lp (b_X5_read_10 F) fc (nI c, tpa x (nI t) 0, rus (ycl y (nI c) sf su te) (nI len) (nI u) st)) (lp (b_X9_rule_27 F) g (nI c, 1, ps (mcl m sa ta ea) (nI p) 0 (nI len) (nI 0) (nI u) o so nu op))
    ∨ GoodR m x y s so nu sa ta ea (lp (b_X5_read_10 F) fc (nI c, tpa x (nI t) 0, rus (ycl y (nI c) sf su te) (nI len) (nI u) st)) (lp (b_X9_rule_27 F) g (nI c, 1, ps (mcl m sa ta ea) (nI p) 0 (nI len) (nI 0) (nI u) o so nu op)) := by
  have h4 := hr.2.1
  have hs6 := hr.2.2.2.2.1
  have hF6 : 600 ≤ F := by omega
  intro N
  induction N with
  | zero =>
    intros
    omega
  | succ N ih =>
    intro c i t p u len fc g o st so nu op sf su te sa ta ea hcN hc12 ha hp hk hu hc hb hT hfc hg
    obtain ⟨f1, rfl⟩ : ∃ f1, fc = f1 + 1 := ⟨fc - 1, by omega⟩
    obtain ⟨g1, rfl⟩ : ∃ g1, g = g1 + 1 + 1 := ⟨g - 2, by omega⟩
    have rS : ∀ M : OB, lp (b_X9_rule_27 F) (g1 + 1 + 1) (nI c, 1, M) = Option.bind (f_X9_ruleClause F (nI c) M) (fun q5 => Option.bind (f_X9_goesOn F q5) (fun q6 => lp (b_X9_rule_27 F) (g1 + 1) (nI c + 1, q6.1, q6.2))) := fun M => by
      rw [lp_S, b_X9_rule_27]
      try dsimp only
      rw [if_neg (show ¬ (1 : Int32) = 0 by decide)]
    have cS : ∀ A, lp (b_X5_read_10 F) (f1 + 1) A = b_X5_read_10 F (lp (b_X5_read_10 F) f1) A := fun A => lp_S _ _ A
    rcases cl_all (y := y) (o := o) (op := op) (sf := sf) (su := su) (te := te) (sa := sa) (ta := ta) (ea := ea) hr hF hx ha hp hk hc12 hu hc hb with hq | hq
    · obtain ⟨φ, p2, e2, d2, c2, o2, t2, so2, nu2, op2, sa2, ta2, ea2, ru2, a1, a2, a3, a4, a5, a6, a7, a8, a9, a10⟩ := hq
      obtain ⟨p3, hg3⟩ := g_goes (F := F) (m := mcl m sa2 ta2 ea2) (p := p2) (f := nI φ) (e := e2) (d := d2) (c := c2) (o := o2) (so := so2) (nu := nu2) (op := op2) hr.cl hF6 (nI_ne0 a1 (by omega)) a3
      have z := a9 (lp (b_X5_read_10 F) f1)
      refine Or.inl ⟨φ, p3, nI c + 1, e2, d2, c2, o2, t2, so2, nu2, op2, sa2, ta2, ea2, ru2, a1, a2, a4, a5, a6, a7, a8, (cS _).trans z, ?_⟩
      rw [rS, a10, bd_some, hg3, bd_some]
      exact r_endφ hr.2.2.2.1 hs6 h22 rfl a1 a2
    · obtain ⟨lb, i2, t2, u2, len2, o2, st2, so2, nu2, op2, a1, a2, a3, a4, a5, a6, a7, a8, a9, a10, a11, a12, a13, a14, a15, a16⟩ := hq
      have hi2 := a1.2.1
      have hs2 := at_sk hx a1
      have z := (cS _).trans (a15 (lp (b_X5_read_10 F) f1))
      unfold b_X5_read_66 at z
      rw [s_close a14, bd_some, s_kind hx a1, bd_some, s_take hx a1 (by decide)] at z
      have w := s_goes (F := F) (m := mcl m (upd sa (12 * s + c) (nI len)) (upd ta (12 * s + c) (nI lb)) (upd ea (12 * s + c) (nI len2))) (p := i2) (i := i2) (e := nI len2) (d := nI 0) (c := nI u2) (o := o2) (so := so2) (nu := nu2) (op := op2) hr.cl hF6 hi2 hs2
      rw [show ∀ A B C : Nat → Int32, (mcl m A B C).2.1 28 = m.2.1 28 from fun _ _ _ => rfl] at w
      have hT2 := hT.app a11 a6 a7 (Nat.le_refl _) a12 a13
      have hs59 := lexK_s (B := m.2.1 28) (L := L) (i := i2) (x := 59) (by decide)
      by_cases h1 : i2 = L
      · rw [if_pos ((lexK_E hi2).mpr h1)] at z
        rw [if_pos h1] at w
        refine Or.inr ⟨c + 1, len2, nI (i2 + 1), o2, nI u2, nI t2, st2, so2, nu2, op2, _, _, _, _, _, _, by omega, by omega, by omega, hT2, a8, a9, a10, Fr12.rf.up a14, Fr12.rf.up a14, Fr12.rf.up a14, z, ?_⟩
        rw [rS, a16, bd_some, w, bd_some, nI_1]
        exact r_end0 hr.2.2.2.1 hs6 h22 rfl
      · rw [if_neg (fun q => h1 ((lexK_E hi2).mp q))] at z
        rw [if_neg h1] at w
        by_cases h59 : cb (m.2.1 28) L i2 = 59
        · obtain ⟨hE, hl⟩ := lexE_s (by decide) h59
          have hAt := (a1.at hx).2.2.2 hl
          rw [hE] at hAt
          have hsk := sk_ge (B := m.2.1 28) (L := L) (p := i2 + 1) (by omega)
          rw [if_pos (hs59.mpr h59), bd_some] at z
          try dsimp only at z
          rw [if_neg (show ¬ (1 : Int32) = 0 by decide), nI_1] at z
          rw [if_pos h59] at w
          rw [z, rS, a16, bd_some, w, bd_some, nI_1]
          rcases ih (c + 1) (sk (m.2.1 28) L (i2 + 1)) (t2 + 1) (i2 + 1) u2 len2 f1 (g1 + 1) o2 st2 so2 nu2 op2 _ _ _ _ _ _ (by omega) (by omega) hAt (by omega) rfl a4 a8 a5 hT2 (by omega) (by omega) with hv | hv
          · obtain ⟨φ, p5, k5, e5, d5, c5, o5, t5, so5, nu5, op5, sa5, ta5, ea5, ru5, b1, b2, b3, b4, b5, b6, b7, b8, b9⟩ := hv
            exact Or.inl ⟨φ, p5, k5, e5, d5, c5, o5, t5, so5, nu5, op5, sa5, ta5, ea5, ru5, b1, b2, a9.tr b3, a10.tr b4, (Fr12.rf.up a14).tr b5, (Fr12.rf.up a14).tr b6, (Fr12.rf.up a14).tr b7, b8, b9⟩
          · obtain ⟨c5, len5, p5, o5, u5, t5, st5, so5, nu5, op5, sf5, su5, te5, sa5, ta5, ea5, b1, b2, b3, b4, b5, b6, b7, b8, b9, b10, b11, b12⟩ := hv
            exact Or.inr ⟨c5, len5, p5, o5, u5, t5, st5, so5, nu5, op5, sf5, su5, te5, sa5, ta5, ea5, b1, b2, b3, b4, b5, a9.tr b6, a10.tr b7, (Fr12.rf.up a14).tr b8, (Fr12.rf.up a14).tr b9, (Fr12.rf.up a14).tr b10, b11, b12⟩
        · have e1 : (1 : Int32) + 8 * nI i2 + 0 = nI (1 + 8 * i2 + 0) := flt (k := 0)
          rw [if_neg (fun q => h59 (hs59.mp q)), bd_some] at z
          try dsimp only at z
          rw [if_pos rfl, s_fail hx a1, bd_some, if_pos (Or.inl rfl), e1] at z
          rw [if_neg h59, e1] at w
          refine Or.inl ⟨1 + 8 * i2 + 0, nI (i2 + 1), nI c + 1, nI len2, nI 0, nI u2, o2, nI t2, so2, nu2, op2, upd sa (12 * s + c) (nI len), upd ta (12 * s + c) (nI lb), upd ea (12 * s + c) (nI len2), rus (ycl y (nI (c + 1)) (upd sf c (nI len)) (upd su c (nI lb)) (upd te c (nI len2))) (nI len2) (nI u2) st2, by omega, by omega, a9, a10, Fr12.rf.up a14, Fr12.rf.up a14, Fr12.rf.up a14, z, ?_⟩
          rw [rS, a16, bd_some, w, bd_some]
          exact r_endφ hr.2.2.2.1 hs6 h22 rfl (by omega) (by omega)
end RLO
