/-! a rule, pure: one clause by both -/
section CLA
variable {F : Nat} {m x y : OB} {L s n : Nat}
theorem s_takes {p i w : Nat} {f e d c o k : Int32} {so nu op : Nat → Int32} (hr : RB m L s) (hF : 600 ≤ F) (hp : p ≤ L) (hk : sk (m.2.1 28) L p = i) (hw : w < 18) (hkk : nI (260 + w) = k) : f_X9_takes F w (ps m (nI p) f e d c o so nu op) = if lexK (m.2.1 28) L i = k then some (1, ps m (nI (i + xl w)) f e d c o so nu op) else some (0, ps m (nI i) f e d c o so nu op) := by
  have hi : i ≤ L := hk ▸ sk_le (B := m.2.1 28) hp
  unfold f_X9_takes b_X9_takes_27
  rw [s_blanks hr hF hp, bd_some, hk, s_st hr hF hi hw hkk, bd_some, show (ps m (nI i) f e d c o so nu op).1 19 = nI i from rfl]
  by_cases h : lexK (m.2.1 28) L i = k
  · rw [if_pos h, if_pos h, if_neg (show ¬ (1 : Int32) = 0 by decide), if_pos hw, if_pos (Or.inr rfl), nI_add, ps_p]
  · rw [if_neg h, if_neg h, if_pos rfl, if_pos (Or.inl rfl), show nI i + 0 = nI i from nI_add _ 0, ps_p]
noncomputable def BadL (m x : OB) (L s : Nat) (so nu sa ta ea : Nat → Int32) (rc : ((Int32 × OB × OB) → Option (Int32 × OB × OB)) → Option (Int32 × OB × OB)) (rr : Option OB) : Prop := ∃ (φ p2 : Nat) (e2 d2 c2 o2 t2 : Int32) (so2 nu2 op2 sa2 ta2 ea2 : Nat → Int32) (ru2 : OB), 0 < φ ∧ φ < 4000 ∧ p2 ≤ L + 1 ∧ FrS s so so2 ∧ FrS s nu nu2 ∧ Fr12 s sa sa2 ∧ Fr12 s ta ta2 ∧ Fr12 s ea ea2 ∧ (∀ k, rc k = some (0, tpa x t2 (nI φ), ru2)) ∧ rr = some (ps (mcl m sa2 ta2 ea2) (nI p2) (nI φ) e2 d2 c2 o2 so2 nu2 op2)
noncomputable def GoodL (F : Nat) (m x y : OB) (L s n c i u len : Nat) (st so nu sf su te sa ta ea : Nat → Int32) (rc : ((Int32 × OB × OB) → Option (Int32 × OB × OB)) → Option (Int32 × OB × OB)) (rr : Option OB) : Prop := ∃ (lb i2 t2 u2 len2 : Nat) (o2 : Int32) (st2 so2 nu2 op2 : Nat → Int32), At L x n t2 i2 ∧ i < i2 ∧ u < u2 ∧ u2 ≤ 60 ∧ 3 * len2 ≤ 14 * u2 ∧ len < lb ∧ lb ≤ len2 ∧ CE s len2 st2 so2 nu2 ∧ FrS s so so2 ∧ FrS s nu nu2 ∧ (∀ j, j < len → st2 j = st j) ∧ Seg true st2 len lb 1 ∧ (lb < len2 → Seg false st2 lb len2 1) ∧ c < 12 ∧ (∀ k, rc k = b_X5_read_66 F k (nI c) (nI len) (nI lb) (tpa x (nI t2) 0) (rus (ycl y (nI c) sf su te) (nI len2) (nI u2) st2)) ∧ rr = some (ps (mcl m (upd sa (12 * s + c) (nI len)) (upd ta (12 * s + c) (nI lb)) (upd ea (12 * s + c) (nI len2))) (nI i2) 0 (nI len2) (nI 0) (nI u2) o2 so2 nu2 op2)
theorem n12 {s c : Nat} : (12 : Int32) * nI s + nI c = nI (12 * s + c) := by
  rw [show (12 : Int32) = nI 12 from rfl, pk_mul, nI_add]
theorem e_104 {j : Nat} {p f e d c o : Int32} {so nu op sa ta ea : Nat → Int32} (hj : j < 72) : b_X9_ruleClause_104 F (nI j) (ps (mcl m sa ta ea) p f e d c o so nu op) = some (ps (mcl m sa ta (upd ea j e)) p f e d c o so nu op) := by
  unfold b_X9_ruleClause_104
  rw [if_pos (ib_n hj (by decide)), nI_clamp (by omega), show (ps (mcl m sa ta ea) p f e d c o so nu op).2.1 34 = ea from rfl, show (ps (mcl m sa ta ea) p f e d c o so nu op).1 23 = e from rfl, ps_34]
theorem cl_all {c i t p u len : Nat} {o : Int32} {st so nu op sf su te sa ta ea : Nat → Int32} (hr : RB m L s) (hF : 1000 ≤ F) (hx : TX (m.2.1 28) L x n) (ha : At L x n t i) (hp : p ≤ L) (hk : sk (m.2.1 28) L p = i) (hc12 : c ≤ 12) (hu : u ≤ 60) (hc : CE s len st so nu) (hb : 3 * len ≤ 14 * u) :
    BadL m x L s so nu sa ta ea (fun k => b_X5_read_10 F k (nI c, tpa x (nI t) 0, rus (ycl y (nI c) sf su te) (nI len) (nI u) st)) (f_X9_ruleClause F (nI c) (ps (mcl m sa ta ea) (nI p) 0 (nI len) (nI 0) (nI u) o so nu op))
    ∨ GoodL F m x y L s n c i u len st so nu sf su te sa ta ea (fun k => b_X5_read_10 F k (nI c, tpa x (nI t) 0, rus (ycl y (nI c) sf su te) (nI len) (nI u) st)) (f_X9_ruleClause F (nI c) (ps (mcl m sa ta ea) (nI p) 0 (nI len) (nI 0) (nI u) o so nu op)) := by
  have h4 := hr.2.1
  have hs6 := hr.2.2.2.2.1
  have hi := ha.2.1
  have hF6 : 600 ≤ F := by omega
  have hc1 : ¬ (12 : Int32) < nI c := by
    rw [Int32.lt_iff_toInt_lt, nI_toInt (by omega), show (12 : Int32).toInt = 12 from by decide]
    omega
  have cS : ∀ k, b_X5_read_10 F k (nI c, tpa x (nI t) 0, rus (ycl y (nI c) sf su te) (nI len) (nI u) st) = Option.bind (f_X5_openClause F (nI c) (tpa x (nI t) 0)) (fun q9 => (if q9.1 = 0 then (b_X5_read_37 F q9.2 (rus (ycl y (nI c) sf su te) (nI len) (nI u) st)) else (Option.bind (f_X5_readSum F q9.2 (rus (ycl y (nI c) sf su te) (nI len) (nI u) st)) (fun q11 => (if q11.1 = 0 then (b_X5_read_37 F q11.2.1 q11.2.2) else (Option.bind (f_X7_take F 274 q11.2.1) (fun q13 => (if q13.1 = 0 then (b_X5_read_66 F k (nI c) (nI len) (q11.2.2.1 5) q13.2 q11.2.2) else (Option.bind (f_X5_readTest F 0 q13.2 q11.2.2) (fun q15 => (if q15.1 = 0 then (some (0, q15.2.1, q15.2.2)) else (b_X5_read_66 F k (nI c) (nI len) (q11.2.2.1 5) q15.2.1 q15.2.2)))))))))))) := fun k => by
    unfold b_X5_read_10
    try dsimp only
    rw [if_neg hc1]
    rfl
  have hRs : ∀ (p2 f2 e2 d2 c2 o2 : Int32) (so2 nu2 op2 sa2 ta2 ea2 : Nat → Int32), (ps (mcl m sa2 ta2 ea2) p2 f2 e2 d2 c2 o2 so2 nu2 op2).1 21 = nI s := fun _ _ _ _ _ _ _ _ _ _ _ _ => hr.2.2.2.1
  have hrr := hr.cl (sa := sa) (ta := ta) (ea := ea)
  unfold f_X9_ruleClause
  rw [s_blanks hrr hF6 hp, bd_some, show sk ((mcl m sa ta ea).2.1 28) L p = i from hk, s_st hrr hF6 hi (w := 13) (k := 273) (by decide) rfl, bd_some, show (ps (mcl m sa ta ea) (nI i) 0 (nI len) (nI 0) (nI u) o so nu op).1 19 = nI i from rfl, hRs, n12]
  have hB : (mcl m sa ta ea).2.1 28 = m.2.1 28 := rfl
  rw [hB]
  by_cases h1 : lexK (m.2.1 28) L i = 273
  · have hW := (lexK_w (B := m.2.1 28) (L := L) (i := i) (w := 13) (by decide)).mp h1
    obtain ⟨hE, hlet⟩ := isW_end (by decide) hW
    have hE : lexE (m.2.1 28) L i = i + 3 := hE
    have hl : i < L := by
      by_cases z : i < L
      · exact z
      · rw [lB_out i (by omega)] at hlet
        cases hlet
    have hE2 := lexE_gt (B := m.2.1 28) hl
    rw [if_pos h1, if_neg (show ¬ (1 : Int32) = 0 by decide)]
    by_cases h12 : c = 12
    · subst h12
      have cO : f_X5_openClause F (nI 12) (tpa x (nI t) 0) = some (0, tpa x (nI t) (nI (1 + 8 * i + 4))) := by
        unfold f_X5_openClause
        rw [s_kind hx ha, bd_some, if_pos h1, if_neg (by decide), s_fail hx ha, bd_some, if_pos (Or.inl rfl), show (1 : Int32) + 8 * nI i + 4 = nI (1 + 8 * i + 4) from flt (k := 4)]
      rw [if_pos (show nI 12 = 12 from rfl), s_fails, bd_some, if_pos rfl, show (1 : Int32) + 8 * nI i + 4 = nI (1 + 8 * i + 4) from flt (k := 4)]
      refine Or.inl ⟨1 + 8 * i + 4, i, _, _, _, _, nI t, so, nu, op, sa, ta, ea, rus (ycl y (nI 12) sf su te) (nI len) (nI u) st, by omega, by omega, by omega, FrS.rf, FrS.rf, Fr12.rf, Fr12.rf, Fr12.rf, fun k => ?_, rfl⟩
      show b_X5_read_10 F k _ = _
      rw [cS k, cO, bd_some, if_pos rfl]
      rfl
    · have hcl : c < 12 := by omega
      have hne : ¬ nI c = 12 := fun z => h12 (by
        have := congrArg Int32.toInt z
        rw [nI_toInt (by omega), show (12 : Int32).toInt = 12 from by decide] at this
        omega)
      have cO : f_X5_openClause F (nI c) (tpa x (nI t) 0) = some (1, tpa x (nI (t + 1)) 0) := by
        unfold f_X5_openClause
        rw [s_kind hx ha, bd_some, if_pos h1, if_pos (show nI c < 12 from by
          rw [Int32.lt_iff_toInt_lt, nI_toInt (by omega), show (12 : Int32).toInt = 12 from by decide]
          omega), s_skip hx ha hl, bd_some]
      have hAt := (ha.at hx).2.2.2 hl
      rw [hE] at hAt hE2
      have hsk := sk_ge (B := m.2.1 28) (L := L) (p := i + 3) (by omega)
      rw [if_neg hne, if_pos (ib_n (show 12 * s + c < 72 by omega) (by decide)), nI_clamp (by omega), show (3 : Int32) = nI 3 from rfl, nI_add, show (ps (mcl m sa ta ea) (nI i) 0 (nI len) (nI 0) (nI u) o so nu op).2.1 32 = sa from rfl, show (ps (mcl m sa ta ea) (nI i) 0 (nI len) (nI 0) (nI u) o so nu op).1 23 = nI len from rfl, ps_32]
      rcases sum_all (y := ycl y (nI c) sf su te) (d := nI 0) (o := o) (op := op) (hr.cl (sa := upd sa (12 * s + c) (nI len)) (ta := ta) (ea := ea)) hF6 hx hAt (by omega) rfl hu hc (by omega) with hq | hq
      · obtain ⟨φ, p2, e2, c2, t2, so2, nu2, ru2, a1, a2, a3, a4, a5, a6, a7⟩ := hq
        have hφ : ¬ nI φ = 0 := nI_ne0 a1 (by omega)
        rw [a7, bd_some, show ∀ (M : OB), (ps M (nI p2) (nI φ) e2 (nI 0) c2 o so2 nu2 op).1 20 = nI φ from fun _ => rfl, if_neg hφ, ps_33, e_104 (by omega)]
        refine Or.inl ⟨φ, p2, e2, _, c2, o, t2, so2, nu2, op, _, _, _, ru2, a1, a2, by omega, a4, a5, Fr12.rf.up hcl, Fr12.rf.up hcl, Fr12.rf.up hcl, fun k => ?_, rfl⟩
        show b_X5_read_10 F k _ = _
        rw [cS k, cO, bd_some, if_neg (show ¬ (1 : Int32) = 0 by decide), a6, bd_some, if_pos rfl]
        rfl
      · obtain ⟨i2, t2, u2, len2, st2, so2, nu2, a1, a2, a3, a4, a5, a6, a7, a8, a9, a10, a11, a12, a13⟩ := hq
        have hi2 := a1.2.1
        have hs2 := at_sk hx a1
        rw [a13, bd_some, show ∀ (M : OB), (ps M (nI i2) 0 (nI len2) (nI 0) (nI u2) o so2 nu2 op).1 20 = 0 from fun _ => rfl, if_pos rfl, show ∀ (M : OB), (ps M (nI i2) 0 (nI len2) (nI 0) (nI u2) o so2 nu2 op).1 23 = nI len2 from fun _ => rfl, show ∀ (A : Nat → Int32), (ps (mcl m A ta ea) (nI i2) 0 (nI len2) (nI 0) (nI u2) o so2 nu2 op).2.1 33 = ta from fun _ => rfl, ps_33, s_takes (hr.cl) hF6 hi2 hs2 (w := 14) (k := 274) (by decide) rfl]
        have hB2 : ∀ A B C : Nat → Int32, (mcl m A B C).2.1 28 = m.2.1 28 := fun _ _ _ => rfl
        rw [hB2]
        by_cases h2 : lexK (m.2.1 28) L i2 = 274
        · have hW2 := (lexK_w (B := m.2.1 28) (L := L) (i := i2) (w := 14) (by decide)).mp h2
          obtain ⟨hG, hlet2⟩ := isW_end (by decide) hW2
          have hG : lexE (m.2.1 28) L i2 = i2 + 2 := hG
          have hl2 : i2 < L := by
            by_cases z : i2 < L
            · exact z
            · rw [lB_out i2 (by omega)] at hlet2
              cases hlet2
          have hG2 := lexE_gt (B := m.2.1 28) hl2
          have hAt2 := (a1.at hx).2.2.2 hl2
          rw [hG] at hAt2 hG2
          have hsk2 := sk_ge (B := m.2.1 28) (L := L) (p := i2 + 2) (by omega)
          rw [if_pos h2, bd_some, if_neg (show ¬ (1 : Int32) = 0 by decide), show xl 14 = 2 from rfl]
          rcases test_all (y := ycl y (nI c) sf su te) (o := o) (op := op) (hr.cl (sa := upd sa (12 * s + c) (nI len)) (ta := upd ta (12 * s + c) (nI len2)) (ea := ea)) hF hx hAt2 (by omega) rfl a4 a7 (by omega) with hv | hv
          · obtain ⟨φ, p3, e3, d3, c3, o3, t3, so3, nu3, op3, ru3, b1, b2, b3, b4, b5, b6, b7⟩ := hv
            rw [b7, bd_some, e_104 (by omega)]
            refine Or.inl ⟨φ, p3, e3, d3, c3, o3, t3, so3, nu3, op3, _, _, _, ru3, b1, b2, b3, a8.tr b4, a9.tr b5, Fr12.rf.up hcl, Fr12.rf.up hcl, Fr12.rf.up hcl, fun k => ?_, rfl⟩
            show b_X5_read_10 F k _ = _
            rw [cS k, cO, bd_some, if_neg (show ¬ (1 : Int32) = 0 by decide), a12, bd_some, if_neg (show ¬ (1 : Int32) = 0 by decide), s_take hx a1 (by decide), if_pos h2, bd_some, if_neg (show ¬ (1 : Int32) = 0 by decide), b6, bd_some, if_pos rfl]
          · obtain ⟨i3, t3, u3, len3, st3, so3, nu3, op3, b1, b2, b3, b4, b5, b6, b7, b8, b9, b10, b11, b12, b13⟩ := hv
            rw [b13, bd_some, e_104 (by omega)]
            refine Or.inr ⟨len2, i3, t3, u3, len3, nI 0, st3, so3, nu3, op3, b1, by omega, by omega, b4, b5, a6, by omega, b7, a8.tr b8, a9.tr b9, fun j hj => (b10 j (by omega)).trans (a10 j hj), a11.cg (fun j _ hj => b10 j hj), fun _ => b11, hcl, fun k => ?_, rfl⟩
            show b_X5_read_10 F k _ = _
            rw [cS k, cO, bd_some, if_neg (show ¬ (1 : Int32) = 0 by decide), a12, bd_some, if_neg (show ¬ (1 : Int32) = 0 by decide), s_take hx a1 (by decide), if_pos h2, bd_some, if_neg (show ¬ (1 : Int32) = 0 by decide), b12, bd_some, if_neg (show ¬ (1 : Int32) = 0 by decide)]
            rfl
        · rw [if_neg h2, bd_some, if_pos rfl, e_104 (by omega)]
          refine Or.inr ⟨len2, i2, t2, u2, len2, o, st2, so2, nu2, op, a1, by omega, a3, a4, by omega, a6, Nat.le_refl _, a7, a8, a9, a10, a11, fun z => absurd z (Nat.lt_irrefl _), hcl, fun k => ?_, rfl⟩
          show b_X5_read_10 F k _ = _
          rw [cS k, cO, bd_some, if_neg (show ¬ (1 : Int32) = 0 by decide), a12, bd_some, if_neg (show ¬ (1 : Int32) = 0 by decide), s_take hx a1 (by decide), if_neg h2, bd_some, if_pos rfl]
          rfl
  · have cO : f_X5_openClause F (nI c) (tpa x (nI t) 0) = some (0, tpa x (nI t) (nI (1 + 8 * i + 0))) := by
      unfold f_X5_openClause
      rw [s_kind hx ha, bd_some, if_neg h1, s_fail hx ha, bd_some, if_pos (Or.inl rfl), show (1 : Int32) + 8 * nI i + 0 = nI (1 + 8 * i + 0) from flt (k := 0)]
    rw [if_neg h1, if_pos rfl, s_fails, bd_some, if_pos rfl, show (1 : Int32) + 8 * nI i + 0 = nI (1 + 8 * i + 0) from flt (k := 0)]
    refine Or.inl ⟨1 + 8 * i + 0, i, _, _, _, _, nI t, so, nu, op, sa, ta, ea, rus (ycl y (nI c) sf su te) (nI len) (nI u) st, by omega, by omega, by omega, FrS.rf, FrS.rf, Fr12.rf, Fr12.rf, Fr12.rf, fun k => ?_, rfl⟩
    show b_X5_read_10 F k _ = _
    rw [cS k, cO, bd_some, if_pos rfl]
    rfl
end CLA
