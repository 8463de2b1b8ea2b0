/-! the hall, pure: all clauses by both -/
noncomputable def fin0 (M : OB) : OB := (uF M.1 18 0, M.2.1, M.2.2)
/-- the rows that the reference has read hold the hall -/
noncomputable def NKd (h : HLd) (ns nc nh nt nr nw : Nat → Int32) : Prop := (ns 0 = nI (h.1 0) ∧ ns 1 = nI (h.1 1) ∧ ns 2 = nI (h.1 2) ∧ ns 3 = nI (h.1 3)) ∧ (∀ k, k < h.1 1 → nc k = nI (h.2 4 k)) ∧ (∀ k, k < h.1 2 → nh k = nI (h.2 5 k) ∧ nt k = nI (h.2 6 k)) ∧ ∀ k, k < h.1 3 → nr k = nI (h.2 7 k) ∧ nw k = nI (h.2 8 k)
noncomputable def nat_ (x : Int32) : Nat := x.toInt.toNat
theorem nat_n {x : Int32} {v : Nat} (h : x = nI v) (hv : v < 2 ^ 31) : nat_ x = v ∧ x = nI (nat_ x) := by
  have e : nat_ x = v := by
    unfold nat_
    rw [h, nI_toInt hv]
    rfl
  exact ⟨e, by rw [e]; exact h⟩
/-- the hall of what was read -/
noncomputable def hlo (a b q : Nat) (tc he so co we : Nat → Int32) : HLd := (fun i => [1, a, b, q].getD i 0, fun j k => nat_ (([tc, he, so, co, we].getD (j - 4) (fun _ => 0)) k))
noncomputable def restR (y : OB) (a b q : Nat) (tc he so co we : Nat → Int32) : OB := ((uF (uF (uF (uF (rmh y 1 a b q tc he so co we).1 10 0) 11 0) 12 0) 15 0), (uF (rmh y 1 a b q tc he so co we).2.1 9 (va_cpy tc (y.2.1 9) 0 0 4)), (rmh y 1 a b q tc he so co we).2.2)
section HLO
variable {F : Nat} {m x y : OB} {L s n : Nat} {e d c o : Int32} {s1 n1 o1 : Nat → Int32}
variable {a b q : Nat} {tc he so co we ns nc nh nt nr nw : Nat → Int32}
theorem hlo_ok (hR : HR 1 a b q tc he so co we ns nc nh nt nr nw) : HOK (hlo a b q tc he so co we) ∧ NKd (hlo a b q tc he so co we) ns nc nh nt nr nw ∧ HKd (hlo a b q tc he so co we) (restR y a b q tc he so co we) := by
  obtain ⟨g1, g2, g3, g4, g5, g6, g7⟩ := hR
  have f3 : ∀ k, k < a → nat_ (tc k) ≤ 99 ∧ tc k = nI (nat_ (tc k)) ∧ nc k = nI (nat_ (tc k)) := fun k hk => by
    obtain ⟨u1, v, u2, u3⟩ := g3 k hk
    obtain ⟨w1, w2⟩ := nat_n u3 (by omega)
    exact ⟨by omega, w2, u1.symm.trans w2⟩
  have f4 : ∀ k, k < b → (1 ≤ nat_ (he k) ∧ nat_ (he k) ≤ 60 ∧ nat_ (so k) < a) ∧ (he k = nI (nat_ (he k)) ∧ so k = nI (nat_ (so k))) ∧ nh k = nI (nat_ (he k)) ∧ nt k = nI (nat_ (so k)) := fun k hk => by
    obtain ⟨u1, u2, ⟨v, u3, u4, u5⟩, w, u6, u7⟩ := g4 k hk
    obtain ⟨w1, w2⟩ := nat_n u5 (by omega)
    obtain ⟨w3, w4⟩ := nat_n u7 (by omega)
    exact ⟨⟨by omega, by omega, by omega⟩, ⟨w2, w4⟩, u1.symm.trans w2, u2.symm.trans w4⟩
  have f5 : ∀ k, k < q → (nat_ (co k) < b ∧ 1 ≤ nat_ (we k) ∧ nat_ (we k) ≤ 20) ∧ (co k = nI (nat_ (co k)) ∧ we k = nI (nat_ (we k))) ∧ nr k = nI (nat_ (co k)) ∧ nw k = nI (nat_ (we k)) := fun k hk => by
    obtain ⟨u1, u2, ⟨w, u6, u7⟩, v, u3, u4, u5⟩ := g5 k hk
    obtain ⟨w1, w2⟩ := nat_n u5 (by omega)
    obtain ⟨w3, w4⟩ := nat_n u7 (by omega)
    exact ⟨⟨by omega, by omega, by omega⟩, ⟨w4, w2⟩, u1.symm.trans w4, u2.symm.trans w2⟩
  refine ⟨⟨Nat.le_refl _, g2.1, g2.2.1, g2.2.2, fun k hk => (f3 k hk).1, fun k hk => (f4 k hk).1, fun k hk => (f5 k hk).1⟩, ⟨g1, fun k hk => (f3 k hk).2.2, fun k hk => (f4 k hk).2.2, fun k hk => (f5 k hk).2.2⟩, ⟨rfl, rfl, rfl, rfl⟩, fun k hk => (f3 k hk).2.1, fun k hk => (f4 k hk).2.1, fun k hk => (f5 k hk).2.1⟩
theorem bS_0 (k : Nat) : ¬ bS 0 k := by
  show ¬ 0 / 2 ^ k % 2 = 1
  rw [Nat.zero_div]
  decide
theorem s_restart (hR : HR 1 a b q tc he so co we ns nc nh nt nr nw) (hF : 600 ≤ F) : ∃ rm2, f_X3_restart F (rmh y 1 a b q tc he so co we) = some rm2 ∧ CDd (hlo a b q tc he so co we) (fun k => nat_ (tc k)) 0 0 0 rm2 ∧ rm2.1 15 = 0 ∧ rm2.2.1 4 = tc := by
  obtain ⟨H, -, K⟩ := hlo_ok (y := y) hR
  obtain ⟨l2, e2, g1, g2⟩ := s_weigh (F := F) (S := 0) H K rfl (by decide) hF
  refine ⟨rmw (restR y a b q tc he so co we) l2 e2, ?_, ⟨K, ⟨rfl, rfl, rfl⟩, fun k hk => ?_, g2⟩, rfl, rfl⟩
  · unfold f_X3_restart
    rw [show ((uF (uF (uF (uF (rmh y 1 a b q tc he so co we).1 10 0) 11 0) 12 0) 15 0), (uF (rmh y 1 a b q tc he so co we).2.1 9 (va_cpy ((rmh y 1 a b q tc he so co we).2.1 4) ((rmh y 1 a b q tc he so co we).2.1 9) 0 0 4)), (rmh y 1 a b q tc he so co we).2.2) = restR y a b q tc he so co we from rfl, g1, bd_some]
  · obtain ⟨v, u1, u2⟩ := hR.2.2.2.2.2.2 k hk
    show va_cpy tc (y.2.1 9) 0 0 4 k = nI (nat_ (tc k))
    rw [pk_cpy_in (Nat.zero_le _) (by omega), Nat.sub_zero, Nat.zero_add]
    exact (nat_n u2 (by omega)).2
/-- both refuse the hall with the same fault -/
noncomputable def BadHL (m x : OB) (e d c o : Int32) (s1 n1 o1 : Nat → Int32) (rc : Option (Int32 × OB × OB)) (rr : Option OB) : Prop := ∃ (φ : Nat) (p2 t2 : Int32) (ns nc nh nt nr nw : Nat → Int32) (rm2 : OB), 0 < φ ∧ φ < 4000 ∧ Rw (rm2.2.1 4) 4 99 ∧ rc = some (0, tpa x t2 (nI φ), rm2) ∧ rr = some (fin0 (ps (hm m ns nc nh nt nr nw) p2 (nI φ) e d c o s1 n1 o1))
/-- both take the same hall -/
noncomputable def GoodHL (m x : OB) (e d c o : Int32) (s1 n1 o1 : Nat → Int32) (rc : Option (Int32 × OB × OB)) (rr : Option OB) : Prop := ∃ (h : HLd) (cn : Nat → Nat) (p2 t2 : Int32) (ns nc nh nt nr nw : Nat → Int32) (rm2 : OB), HOK h ∧ h.1 0 = 1 ∧ NKd h ns nc nh nt nr nw ∧ (∀ k, k < 4 → cn k ≤ 99) ∧ (∀ k, k < h.1 1 → cn k = h.2 4 k) ∧ CDd h cn 0 0 0 rm2 ∧ Rw (rm2.2.1 4) 4 99 ∧ rc = some (1, tpa x t2 0, rm2) ∧ rr = some (fin0 (ps (hm m ns nc nh nt nr nw) p2 0 e d c o s1 n1 o1))
theorem ra_end {g : Nat} {k : Int32} {M : OB} : lp (b_X9_readsAll_28 F) (g + 1) (k, 0, M) = some (fin0 M) := by
  rw [lp_S, b_X9_readsAll_28]
  dsimp only
  rw [if_pos rfl]
  rfl
theorem hall_loop (hr : RB m L s) (hF : 600 ≤ F) (hx : TX (m.2.1 28) L x n) : ∀ (N cN i t p t0 a b q fc g : Nat) (tc he so co we ns nc nh nt nr nw : Nat → Int32), cN + N = 41 → cN ≤ 40 → At L x n t i → p ≤ L → sk (m.2.1 28) L p = i → HR t0 a b q tc he so co we ns nc nh nt nr nw → ((cN = 0 ∧ t0 = 0) ∨ (0 < cN ∧ t0 = 1)) → N ≤ fc → N + 1 ≤ g →
    BadHL m x e d c o s1 n1 o1 (lp (b_X1_read_10 F) fc (nI cN, tpa x (nI t) 0, rmh y t0 a b q tc he so co we)) (lp (b_X9_readsAll_28 F) g (nI cN, 1, ps (hm m ns nc nh nt nr nw) (nI p) 0 e d c o s1 n1 o1))
    ∨ GoodHL m x e d c o s1 n1 o1 (lp (b_X1_read_10 F) fc (nI cN, tpa x (nI t) 0, rmh y t0 a b q tc he so co we)) (lp (b_X9_readsAll_28 F) g (nI cN, 1, ps (hm m ns nc nh nt nr nw) (nI p) 0 e d c o s1 n1 o1)) := by
  have h4 := hr.2.1
  intro N
  induction N with
  | zero =>
    intros
    omega
  | succ N ih =>
    intro cN i t p t0 a b q fc g tc he so co we ns nc nh nt nr nw hcN hc40 ha hp hk hR ht hfc hg
    obtain ⟨f1, rfl⟩ : ∃ f1, fc = f1 + 1 := ⟨fc - 1, by omega⟩
    obtain ⟨g1, rfl⟩ : ∃ g1, g = g1 + 1 + 1 := ⟨g - 2, by omega⟩
    have rS : ∀ M : OB, lp (b_X9_readsAll_28 F) (g1 + 1 + 1) (nI cN, 1, M) = Option.bind (f_X9_hallClause F (nI cN) M) (fun q5 => Option.bind (f_X9_goesOn F q5) (fun q6 => lp (b_X9_readsAll_28 F) (g1 + 1) (nI cN + 1, q6.1, q6.2))) := fun M => by
      rw [lp_S, b_X9_readsAll_28]
      dsimp only
      rw [if_neg (show ¬ (1 : Int32) = 0 by decide)]
    have cS : lp (b_X1_read_10 F) (f1 + 1) (nI cN, tpa x (nI t) 0, rmh y t0 a b q tc he so co we) = Option.bind (f_X1_readClause F (nI cN) (tpa x (nI t) 0) (rmh y t0 a b q tc he so co we)) (fun q2 => (if q2.1 = 0 then (some (0, q2.2.1, q2.2.2)) else (Option.bind (f_X7_kind F q2.2.1) (fun q4 => (if q4 = (-1) then (Option.bind (f_X3_restart F q2.2.2) (fun q10 => (some (1, q2.2.1, q10)))) else (Option.bind (f_X7_take F 59 q2.2.1) (fun q6 => (if q6.1 = 0 then (Option.bind (f_X7_fail F 0 q6.2) (fun q8 => (if bo q8.1 then (some (q8.1, q8.2, q2.2.2)) else none))) else (lp (b_X1_read_10 F) f1 ((nI cN + 1), q6.2, q2.2.2)))))))))) := by
      rw [lp_S, b_X1_read_10]
      dsimp only
      rw [if_neg (c40 hc40).2.2.2]
    rcases hcl_all (y := y) (e := e) (d := d) (c := c) (o := o) (s1 := s1) (n1 := n1) (o1 := o1) hr hF hx ha hp hk hR hc40 ht with hq | hq
    · obtain ⟨φ, p2, t2, ns2, nc2, nh2, nt2, nr2, nw2, a1, a2, a3, a4, a5⟩ := hq
      obtain ⟨p3, hg3⟩ := g_goes (F := F) (m := hm m ns2 nc2 nh2 nt2 nr2 nw2) (p := p2) (f := nI φ) (e := e) (d := d) (c := c) (o := o) (so := s1) (nu := n1) (op := o1) hr hF (nI_ne0 a1 (by omega)) (by omega)
      refine Or.inl ⟨φ, p3, t2, ns2, nc2, nh2, nt2, nr2, nw2, rmh y t0 a b q tc he so co we, a1, a2, hR.2.2.2.2.2.2, ?_, ?_⟩
      · rw [cS, a4, bd_some]
        dsimp only
        rw [if_pos rfl]
      · rw [rS, a5, bd_some, hg3, bd_some]
        exact ra_end
    · obtain ⟨hc', t2, i2, p2, a', b', q', tc2, he2, so2, co2, we2, ns2, nc2, nh2, nt2, nr2, nw2, a1, a2, a3, a4, a5, a6, a7⟩ := hq
      have hi2 := a1.2.1
      have w := s_goes (F := F) (m := hm m ns2 nc2 nh2 nt2 nr2 nw2) (p := p2) (i := i2) (e := e) (d := d) (c := c) (o := o) (so := s1) (nu := n1) (op := o1) hr hF a3 a4
      rw [show (hm m ns2 nc2 nh2 nt2 nr2 nw2).2.1 28 = m.2.1 28 from rfl] at w
      have hs59 := lexK_s (B := m.2.1 28) (L := L) (i := i2) (x := 59) (by decide)
      rw [a6, bd_some] at cS
      dsimp only at cS
      rw [if_neg (show ¬ (1 : Int32) = 0 by decide), s_kind hx a1, bd_some, s_take hx a1 (by decide)] at cS
      by_cases h1 : i2 = L
      · obtain ⟨rm2, z1, z2, z3, z4⟩ := s_restart (F := F) (y := y) a5 hF
        rw [if_pos ((lexK_E hi2).mpr h1), z1, bd_some] at cS
        rw [if_pos h1] at w
        obtain ⟨H, NKH, -⟩ := hlo_ok (y := y) a5
        refine Or.inr ⟨hlo a' b' q' tc2 he2 so2 co2 we2, fun k => nat_ (tc2 k), nI (i2 + 1), nI t2, ns2, nc2, nh2, nt2, nr2, nw2, rm2, H, rfl, NKH, fun k hk => ?_, fun k hk => rfl, z2, by rw [z4]; exact a5.2.2.2.2.2.2, cS, ?_⟩
        · obtain ⟨v, u1, u2⟩ := a5.2.2.2.2.2.2 k hk
          have := (nat_n u2 (by omega)).1
          show nat_ (tc2 k) ≤ 99
          omega
        · rw [rS, a7, bd_some, w, bd_some]
          exact ra_end
      · rw [if_neg (fun q => h1 ((lexK_E hi2).mp q))] at cS
        rw [if_neg h1] at w
        by_cases h59 : cb (m.2.1 28) L i2 = 59
        · obtain ⟨hE, hl⟩ := lexE_s (by decide) h59
          have hAt := (a1.at hx).2.2.2 hl
          rw [hE] at hAt
          rw [if_pos (hs59.mpr h59), bd_some] at cS
          dsimp only at cS
          rw [if_neg (show ¬ (1 : Int32) = 0 by decide), nI_1] at cS
          rw [if_pos h59] at w
          rw [cS, rS, a7, bd_some, w, bd_some, nI_1]
          dsimp only
          exact ih (cN + 1) (sk (m.2.1 28) L (i2 + 1)) (t2 + 1) (i2 + 1) 1 a' b' q' f1 (g1 + 1) tc2 he2 so2 co2 we2 ns2 nc2 nh2 nt2 nr2 nw2 (by omega) (by omega) hAt (by omega) rfl a5 (Or.inr ⟨by omega, rfl⟩) (by omega) (by omega)
        · have e1 : (1 : Int32) + 8 * nI i2 + 0 = nI (1 + 8 * i2 + 0) := flt (k := 0)
          rw [if_neg (fun q => h59 (hs59.mp q)), bd_some] at cS
          dsimp only at cS
          rw [if_pos rfl, s_fail hx a1, bd_some] at cS
          dsimp only at cS
          rw [if_pos (Or.inl rfl), e1] at cS
          rw [if_neg h59, e1] at w
          refine Or.inl ⟨1 + 8 * i2 + 0, nI (i2 + 1), nI t2, ns2, nc2, nh2, nt2, nr2, nw2, _, by omega, by omega, ?_, cS, ?_⟩
          · exact a5.2.2.2.2.2.2
          · rw [rS, a7, bd_some, w, bd_some]
            exact ra_end
end HLO
