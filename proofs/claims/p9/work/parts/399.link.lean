/-! the whole link of both, and what every call leaves of it -/
abbrev IZ1 : Type := (Nat → Int32) × OB × OB × OB
noncomputable def IMk (nr : Nat) (xg : Nat → Int32) (iz : Nat → IZ1) (mo : OB) : Prop := ∀ k, k < 4 → xg k = mo.2.1 50 k ∧ (¬ xg k = 0 → STd nr (iz k).1 (iz k).2.1 (iz k).2.2.1 (iz k).2.2.2 (vmo (mo.2.1 49) k))
noncomputable def RUk (nr : Nat) (xi : Nat → Int32) (rz : Nat → OB) (mo : OB) : Prop := nr ≤ 6 ∧ xi 2 = nI nr ∧ mo.1 22 = nI nr ∧ (∀ s, s < nr → RLk s (rz s) mo) ∧ (∃ sl, sl < 6 ∧ mo.1 21 = nI sl) ∧ mo.1 27 = 11
noncomputable def TPL (tp mo : OB) : Prop := ∃ L, L ≤ 400 ∧ tp.1 1 = nI L ∧ mo.1 18 = nI L ∧ tp.2.1 0 = mo.2.1 28 ∧ ∀ i, -128 ≤ (mo.2.1 28 i).toInt ∧ (mo.2.1 28 i).toInt ≤ 127
noncomputable def GL (xi : Nat → Int32) (tp : OB) (si : Nat → Int32) (rm ac nt : OB) (xg : Nat → Int32) (tm : OB) (rz : Nat → OB) (iz : Nat → IZ1) (mo : OB) : Prop := ∃ nr, RUk nr xi rz mo ∧ TPL tp mo ∧ STd nr si rm ac nt mo ∧ rm.1 15 = 0 ∧ Rw (tm.2.1 4) 4 99 ∧ (∀ i, i < 8 → mo.2.1 38 i = -1) ∧ IMk nr xg iz mo
/-- the same images -/
theorem vmo_eq {g g2 : Nat → Int32} {k : Nat} (h : ∀ i, i < 347 → g2 (400 * k + i) = g (400 * k + i)) : VEQ (vmo g k) (vmo g2 k) := by
  refine ⟨(h 36 (by decide)).symm, fun j i hi => ?_⟩
  show g (400 * k + vo j + i) = g2 (400 * k + vo j + i)
  have b : vo j + i < 347 := by
    rcases vw_in hi with ⟨z, y⟩ | ⟨z, y⟩ | ⟨z, y⟩ | ⟨z, y⟩ | ⟨z, y⟩ | ⟨z, y⟩ | ⟨z, y⟩ | ⟨z, y⟩ | ⟨z, y⟩ | ⟨z, y⟩ | ⟨z, y⟩ | ⟨z, y⟩ <;> subst z
    · show 0 + i < 347
      omega
    · show 8 + i < 347
      omega
    · show 12 + i < 347
      omega
    · show 20 + i < 347
      omega
    · show 28 + i < 347
      omega
    · show 37 + i < 347
      omega
    · show 45 + i < 347
      omega
    · show 53 + i < 347
      omega
    · show 63 + i < 347
      omega
    · show 73 + i < 347
      omega
    · show 83 + i < 347
      omega
    · show 87 + i < 347
      omega
  rw [Nat.add_assoc]
  exact (h _ b).symm
section LNK
variable {F nr : Nat} {xi si xg : Nat → Int32} {tp rm ac nt tm tm2 mo w : OB} {rz rz2 : Nat → OB} {iz : Nat → IZ1} {xrr : Nat → Option Nat}
theorem IMk.v (I : IMk nr xg iz mo) (h50 : ∀ k, k < 4 → w.2.1 50 k = mo.2.1 50 k) (h49 : ∀ i, i < 1600 → w.2.1 49 i = mo.2.1 49 i) : IMk nr xg iz w := fun k hk => by
  obtain ⟨a, b⟩ := I k hk
  exact ⟨a.trans (h50 k hk).symm, fun z => (b z).v (vmo_eq (fun i hi => h49 _ (by omega)))⟩
theorem RUk.v (R : RUk nr xi rz mo) (h21 : w.1 21 = mo.1 21) (h22 : w.1 22 = mo.1 22) (h27 : w.1 27 = mo.1 27) (hr : ∀ j, 29 ≤ j → j ≤ 34 → w.2.1 j = mo.2.1 j) (z : RZk rz rz2) : RUk nr xi rz2 w := by
  obtain ⟨a, b, c, d, ⟨sl, e1, e2⟩, f⟩ := R
  exact ⟨a, b, h22.trans c, fun s hs => (d s hs).cg (z s).1 (z s).2 hr, ⟨sl, e1, h21.trans e2⟩, h27.trans f⟩
theorem TPL.v (T : TPL tp mo) (h18 : w.1 18 = mo.1 18) (h28 : w.2.1 28 = mo.2.1 28) : TPL tp w := by
  obtain ⟨L, a, b, c, d, e⟩ := T
  exact ⟨L, a, b, h18.trans c, d.trans h28.symm, by rw [h28]; exact e⟩
theorem QKd.v (k : QKd mo w) : VEQ mo w := by
  refine ⟨(k.1 41 (by decide) (by decide)).symm, fun j i hi => ?_⟩
  rcases vw_in hi with ⟨z, y⟩ | ⟨z, y⟩ | ⟨z, y⟩ | ⟨z, y⟩ | ⟨z, y⟩ | ⟨z, y⟩ | ⟨z, y⟩ | ⟨z, y⟩ | ⟨z, y⟩ | ⟨z, y⟩ | ⟨z, y⟩ | ⟨z, y⟩ <;> subst z
  · exact (k.2.2.1 i y).symm
  · exact (k.2.2.2.1 i y).symm
  · exact (k.2.2.2.2.1 3 i (by decide) (by decide) y).symm
  · exact (k.2.2.2.2.1 4 i (by decide) (by decide) y).symm
  · exact (k.2.2.2.2.1 5 i (by decide) (by decide) y).symm
  · exact (congrFun (k.2.1 6 (by omega)) i).symm
  · exact (congrFun (k.2.1 7 (by omega)) i).symm
  · exact (congrFun (k.2.1 8 (by omega)) i).symm
  · exact (congrFun (k.2.1 9 (by omega)) i).symm
  · exact (congrFun (k.2.1 10 (by omega)) i).symm
  · exact (congrFun (k.2.1 11 (by omega)) i).symm
  · exact (congrFun (k.2.1 39 (by omega)) i).symm
/-- what a question leaves of the link -/
theorem GL.q (G : GL xi tp si rm ac nt xg tm rz iz mo) (k : QKd mo w) (z : RZk rz rz2) (t : Rw (tm.2.1 4) 4 99 → Rw (tm2.2.1 4) 4 99) : GL xi tp si rm ac nt xg tm2 rz2 iz w := by
  obtain ⟨nr, R, T, S, h15, tw, m38, I⟩ := G
  exact ⟨nr, R.v (k.1 21 (by decide) (by decide)) (k.1 22 (by decide) (by decide)) (k.1 27 (by decide) (by decide)) (fun j p q => k.2.1 j (by omega)) z, T.v (k.1 18 (by decide) (by decide)) (k.2.1 28 (by omega)), S.v k.v, h15, t tw, fun i hi => (k.2.2.2.2.2.1 i hi).trans (m38 i hi), I.v (fun i _ => congrFun (k.2.1 50 (by omega)) i) k.2.2.2.2.2.2⟩
theorem GL.r0 (G : GL xi tp si rm ac nt xg tm rz iz mo) (z : RZk rz rz2) (t : Rw (tm.2.1 4) 4 99 → Rw (tm2.2.1 4) 4 99) : GL xi tp si rm ac nt xg tm2 rz2 iz mo := G.q QKd.rf z t
theorem NTd.y {h : HLd} {nm : Nat → Nat × Nat × Nat} {nn : Nat} (N : NTd h nm nn nt mo) (k : KYd mo w) : NTd h nm nn nt w := by
  obtain ⟨n1, n2, n3, n4, n5, n6⟩ := N
  refine ⟨n1, n2, (k.2.2.1 5 (by decide)).trans n3, n4, n5, fun j hj => ?_⟩
  rw [k.2.1 8 (by decide) (by decide) (by decide) (by decide), k.2.1 9 (by decide) (by decide) (by decide) (by decide), k.2.1 10 (by decide) (by decide) (by decide) (by decide)]
  exact n6 j hj
/-- the rule in force -/
theorem force_of (R : RUk nr xi rz mo) (fv : si 3 = -1 ∨ ∃ s, s < nr ∧ si 3 = nI s) (f7 : mo.2.1 1 7 = si 3) : ∃ rl, f_X8_ruleInForce F xi xrr si = some (si 3) ∧ RLx rl (si 3) rz mo ∧ FIn rl mo := by
  obtain ⟨a, b, c, d, -, -⟩ := R
  rcases fv with e | ⟨s, e1, e2⟩
  · refine ⟨none, ?_, Or.inl ⟨rfl, e⟩, Or.inl ⟨rfl, f7.trans e⟩⟩
    unfold f_X8_ruleInForce f_X8_ruleAt b_X8_ruleAt_21 b_X8_ruleAt_22
    rw [e, if_pos (show (-1 : Int32) < 0 by decide), bd_some]
  · refine ⟨some s, ?_, Or.inr ⟨s, rfl, e2, by omega, d s e1⟩, Or.inr ⟨s, rfl, by omega, f7.trans e2, rz s, d s e1⟩⟩
    unfold f_X8_ruleInForce f_X8_ruleAt b_X8_ruleAt_22
    rw [e2, if_neg (nI_pos (by omega)), b, if_neg (nI_ge e1 (by omega)), if_pos (ib_n (show s < 6 by omega) (by decide)), bd_some]
theorem mus0 {h : HLd} (H : HOK h) (m : ∀ i, i < 8 → mo.2.1 38 i = -1) : Mus (h.1 3) 0 0 mo := fun k hk => by
  rw [m k (Nat.lt_of_lt_of_le hk H.q8), if_neg (bS_0 k)]
/-- what an act leaves of the link -/
theorem GL.act {h : HLd} {cn2 : Nat → Nat} {S2 D2 m2 : Nat} {rc2 : Nat → Rc} {n2 nn v : Nat} {nm : Nat → Nat × Nat × Nat} {rm2 ac2 mo2 : OB} (R : RUk nr xi rz mo) (T : TPL tp mo) (h15 : rm.1 15 = 0) (tw : Rw (tm.2.1 4) 4 99) (m38 : ∀ i, i < 8 → mo.2.1 38 i = -1) (I : IMk nr xg iz mo) (N : NTd h nm nn nt mo) (f7 : mo.2.1 1 7 = si 3) (fv : si 3 = -1 ∨ ∃ s, s < nr ∧ si 3 = nI s) (hv : v < 2 ^ 31) (s4 : si 4 = nI v) (m6 : mo.2.1 1 6 = nI v) (hw : Rw (rm.2.1 4) 4 99) (K2 : OKD h cn2 S2 D2 m2 rc2 n2) (A2 : ACd h cn2 S2 D2 m2 rc2 n2 rm2 ac2) (M2 : AMd h cn2 S2 D2 m2 rc2 n2 mo2) (kx : KXd rm rm2) (ky : KYd mo mo2) (z : RZk rz rz2) : GL xi tp si rm2 ac2 nt xg tm rz2 iz mo2 :=
  ⟨nr, R.v (ky.1 21 (by decide) (by decide) (by decide)) (ky.1 22 (by decide) (by decide) (by decide)) (ky.1 27 (by decide) (by decide) (by decide)) (fun j p q => ky.2.1 j (by omega) (by omega) (by omega) (by omega)) z, T.v (ky.1 18 (by decide) (by decide) (by decide)) (ky.2.1 28 (by decide) (by decide) (by decide) (by decide)), ⟨h, cn2, S2, D2, m2, rc2, n2, nm, nn, v, K2, A2, M2, N.y ky, (ky.2.2.1 7 (by decide)).trans f7, fv, hv, s4, (ky.2.2.1 6 (by decide)).trans m6, fun k hk => by rw [kx.2 4 (by decide) (by decide) (by decide)]; exact hw k hk⟩, (kx.1 15 (by decide) (by decide) (by decide)).trans h15, tw, fun i hi => by rw [ky.2.1 38 (by decide) (by decide) (by decide) (by decide)]; exact m38 i hi, I.v (fun k _ => congrFun (ky.2.1 50 (by decide) (by decide) (by decide) (by decide)) k) (fun k _ => congrFun (ky.2.1 49 (by decide) (by decide) (by decide) (by decide)) k)⟩
end LNK
section STP
variable {F : Nat} {xi si xg : Nat → Int32} {tp rm ac nt tm mo : OB} {rz : Nat → OB} {iz : Nat → IZ1} {xrr : Nat → Option Nat} {x1 x2 x3 x4 x5 : Int32}
/-! texts -/
theorem g_feed (hF : 1000 ≤ F) (G : GL xi tp si rm ac nt xg tm rz iz mo) : ∃ (r : Int32) (tp2 w : OB), f_X8_feed F x1 x2 x3 x4 x5 xi tp = some (r, tp2) ∧ f_X9_feed F x1 x2 x3 x4 x5 mo = some (r, w) ∧ GL xi tp2 si rm ac nt xg tm rz iz w := by
  obtain ⟨nr, R, ⟨L, a, b, c, d, e⟩, S, h15, tw, m38, I⟩ := G
  obtain ⟨r, L2, f, g1, g2, g3, g4⟩ := feed_two (F := F) (by omega) x1 x2 x3 x4 x5 (xi := xi) b c a d e
  refine ⟨r, tL tp L2 f, mL mo L2 f, g3, g4, nr, R.v rfl rfl rfl (fun j p q => uF_n (by omega)) RZk.rf, ⟨L2, g1, rfl, rfl, rfl, g2⟩, S.v ⟨rfl, fun j i hi => ?_⟩, h15, tw, m38, I.v (fun _ _ => rfl) (fun _ _ => rfl)⟩
  rcases vw_in hi with ⟨z, y⟩ | ⟨z, y⟩ | ⟨z, y⟩ | ⟨z, y⟩ | ⟨z, y⟩ | ⟨z, y⟩ | ⟨z, y⟩ | ⟨z, y⟩ | ⟨z, y⟩ | ⟨z, y⟩ | ⟨z, y⟩ | ⟨z, y⟩ <;> subst z <;> rfl
theorem g_end (hF : 1000 ≤ F) (G : GL xi tp si rm ac nt xg tm rz iz mo) : ∃ (r : Int32) (tp2 w : OB), f_X8_end F x1 xi tp = some (r, tp2) ∧ f_X9_end F x1 mo = some (r, w) ∧ GL xi tp2 si rm ac nt xg tm rz iz w := by
  obtain ⟨nr, R, ⟨L, a, b, c, d, e⟩, S, h15, tw, m38, I⟩ := G
  obtain ⟨r, L2, g1, g3, g4⟩ := end_two (F := F) x1 (xi := xi) b c a d
  refine ⟨r, tL tp L2 (mo.2.1 28), mL mo L2 (mo.2.1 28), g3, g4, nr, R.v rfl rfl rfl (fun j p q => uF_n (by omega)) RZk.rf, ⟨L2, g1, rfl, rfl, rfl, e⟩, S.v ⟨rfl, fun j i hi => ?_⟩, h15, tw, m38, I.v (fun _ _ => rfl) (fun _ _ => rfl)⟩
  rcases vw_in hi with ⟨z, y⟩ | ⟨z, y⟩ | ⟨z, y⟩ | ⟨z, y⟩ | ⟨z, y⟩ | ⟨z, y⟩ | ⟨z, y⟩ | ⟨z, y⟩ | ⟨z, y⟩ | ⟨z, y⟩ | ⟨z, y⟩ | ⟨z, y⟩ <;> subst z <;> rfl
theorem g_hall (hF : 1000 ≤ F) (G : GL xi tp si rm ac nt xg tm rz iz mo) : ∃ (r : Int32) (tp2 rm2 ac2 nt2 tm2 w : OB), f_X8_hall F xi tp si rm ac nt tm = some (r, tp2, rm2, ac2, nt2, tm2) ∧ f_X9_hall F mo = some (r, w) ∧ GL xi tp2 si rm2 ac2 nt2 xg tm2 rz iz w := by
  obtain ⟨nr, R, ⟨L, a, b, c, d, e⟩, S, h15, tw, m38, I⟩ := G
  obtain ⟨sl, e1, e2⟩ := R.2.2.2.2.1
  rcases hall_all (F := F) (tp := tp) (tm := tm) (mo := mo) (rm := rm) (ac := ac) (nt := nt) (xi := xi) (si := si) (by omega) b c a e e2 e1 R.2.2.2.2.2 d tw with q | q
  · obtain ⟨φ, T2, tm2, w, f1, f2, f3, f4, f5, f6, f7, f8, f9⟩ := q
    refine ⟨_, T2, rm, ac, nt, tm2, w, f3, f4, nr, R.v (f9.1 21 (by decide) (by decide) (by decide) (by decide) (by decide) (by decide)) (f9.1 22 (by decide) (by decide) (by decide) (by decide) (by decide) (by decide)) (f9.1 27 (by decide) (by decide) (by decide) (by decide) (by decide) (by decide)) (fun j p q => f9.2.1 j (Or.inr (by omega))) RZk.rf, ⟨0, by decide, f5, f8, f6.trans (d.trans (f9.2.1 28 (Or.inr (by decide))).symm), by rw [f9.2.1 28 (Or.inr (by decide))]; exact e⟩, S.v ⟨(f9.1 41 (by decide) (by decide) (by decide) (by decide) (by decide) (by decide)).symm, fun j i hi => ?_⟩, h15, f7, fun i hi => by rw [f9.2.1 38 (Or.inr (by decide))]; exact m38 i hi, I.v (fun k _ => congrFun (f9.2.1 50 (Or.inr (by decide))) k) (fun k _ => congrFun (f9.2.1 49 (Or.inr (by decide))) k)⟩
    have hj : j < 12 ∨ 18 ≤ j := by
      rcases vw_in hi with ⟨z, y⟩ | ⟨z, y⟩ | ⟨z, y⟩ | ⟨z, y⟩ | ⟨z, y⟩ | ⟨z, y⟩ | ⟨z, y⟩ | ⟨z, y⟩ | ⟨z, y⟩ | ⟨z, y⟩ | ⟨z, y⟩ | ⟨z, y⟩ <;> omega
    rw [f9.2.1 j hj]
  · obtain ⟨h, cn, T2, rm2, tm2, w, H, h0, hcn, f3, f4, f5, f6, C, h152, hw2, tw2, M, w18, w41, w15, f9⟩ := q
    obtain ⟨h', cn', S', D', mi', rc, n, nm, nn, v, K0, A0, M0, N0, f7, fv, hv, s4, m6, hw⟩ := S
    obtain ⟨nx, b1, b2, b3, b4, b5⟩ := A0.2
    refine ⟨_, T2, rm2, _, _, tm2, w, f3, f4, nr, R.v (f9.1 21 (by decide) (by decide) (by decide) (by decide) (by decide) (by decide) (by decide)) (f9.1 22 (by decide) (by decide) (by decide) (by decide) (by decide) (by decide) (by decide)) (f9.1 27 (by decide) (by decide) (by decide) (by decide) (by decide) (by decide) (by decide)) (fun j p q => f9.2.1 j (by omega)) RZk.rf, ⟨0, by decide, f5, w18, f6.trans (d.trans (f9.2.1 28 (by decide)).symm), by rw [f9.2.1 28 (by decide)]; exact e⟩, ⟨h, cn, 0, 0, 0, rc, 0, nm, 0, v, ⟨H, hcn, BDd0 _, by decide, fun j hj => absurd hj (Nat.not_lt_zero _)⟩, ⟨C, nx, b1, by decide, b3, rfl, fun j hj => absurd hj (Nat.not_lt_zero _)⟩, ⟨M, w41, by decide, fun j hj => absurd hj (Nat.not_lt_zero _)⟩, ⟨by decide, rfl, w15, fun j hj => absurd hj (Nat.not_lt_zero _), fun j hj => absurd hj (Nat.not_lt_zero _), fun j hj => absurd hj (Nat.not_lt_zero _)⟩, (f9.2.2.2.1 7 (by decide)).trans f7, fv, hv, s4, (f9.2.2.2.1 6 (by decide)).trans m6, hw2⟩, h152, tw2, fun i hi => by rw [f9.2.1 38 (by decide)]; exact m38 i hi, I.v (fun k _ => congrFun (f9.2.1 50 (by decide)) k) (fun k _ => congrFun (f9.2.1 49 (by decide)) k)⟩
/-- a rule that stood stands, where another was read -/
theorem RLk.fr {s s' : Nat} {ru mo w : OB} (h : RLk s' ru mo) (hs : s' < s) (h29 : FrS s (mo.2.1 29) (w.2.1 29)) (h30 : FrS s (mo.2.1 30) (w.2.1 30)) (h31 : w.2.1 31 s' = mo.2.1 31 s') (h32 : Fr12 s (mo.2.1 32) (w.2.1 32)) (h33 : Fr12 s (mo.2.1 33) (w.2.1 33)) (h34 : Fr12 s (mo.2.1 34) (w.2.1 34)) : RLk s' ru w := by
  obtain ⟨c, len, a1, a2, a3, a4, a5, a6, a7, a8⟩ := h
  refine ⟨c, len, a1, a2, a3, a4, h31.trans a5, a6, fun j hj => ?_, fun j hj => ?_⟩
  · rw [h29 (300 * s' + j) (Or.inl (by omega)), h30 (300 * s' + j) (Or.inl (by omega))]
    exact a7 j hj
  · obtain ⟨a, b, d, q1, q2, q3, q4, q5, q6, q7⟩ := a8 j hj
    exact ⟨a, b, d, q1, q2, q3, (h32 (12 * s' + j) (Or.inl (by omega))).trans q4, (h33 (12 * s' + j) (Or.inl (by omega))).trans q5, (h34 (12 * s' + j) (Or.inl (by omega))).trans q6, q7⟩
theorem g_rule (hF : 1000 ≤ F) (G : GL xi tp si rm ac nt xg tm rz iz mo) : ∃ (r : Int32) (xi2 : Nat → Int32) (tp2 : OB) (rz2 : Nat → OB) (w : OB), f_X8_rule F xi tp xrr rz = some (r, xi2, tp2, rz2) ∧ f_X9_rule F mo = some (r, w) ∧ GL xi2 tp2 si rm ac nt xg tm rz2 iz w := by
  obtain ⟨nr, R, ⟨L, a, b, c, d, e⟩, S, h15, tw, m38, I⟩ := G
  obtain ⟨r6, r2, r22, rL, ⟨sl, e1, e2⟩, r27⟩ := R
  by_cases h6 : nr = 6
  · refine ⟨-1, xi, tp, rz, mo, ?_, ?_, nr, ⟨r6, r2, r22, rL, ⟨sl, e1, e2⟩, r27⟩, ⟨L, a, b, c, d, e⟩, S, h15, tw, m38, I⟩
    · unfold f_X8_rule
      rw [r2, h6, if_neg (by decide)]
    · unfold f_X9_rule
      rw [r22, h6, if_pos (by decide)]
  · have hs6 : nr < 6 := by omega
    have hn : (nI nr).toInt = (nr : Int) := nI_toInt (by omega)
    have eu : f_X5_read_u F (nI nr) tp rz = Option.bind (f_X5_read F tp (rz nr)) (fun q => some (q.1, q.2.1, uF rz nr q.2.2)) := by
      unfold f_X5_read_u
      rw [hn, if_pos (by omega), Int.toNat_natCast]
    obtain ⟨n, K, P, V, hR⟩ := rule_all (ru := rz nr) hF b c a e r22 hs6 r27 d
    rcases hR with hR | hR
    · obtain ⟨φ, p2, k2, e2', d2, c2, o2, t2, so2, nu2, op2, sa2, ta2, ea2, ru2, -, -, i1, i2, i3, i4, i5, a8, a9⟩ := hR
      refine ⟨-2 - nI φ, xi, (uF (tpa (tcs tp n K P V) t2 (nI φ)).1 1 0, (tpa (tcs tp n K P V) t2 (nI φ)).2.1, (tpa (tcs tp n K P V) t2 (nI φ)).2.2), uF rz nr ru2, finR (ps (mcl (mru mo nr) sa2 ta2 ea2) p2 (nI φ) e2' d2 c2 o2 so2 nu2 op2) nr k2 (nI nr), ?_, a9, nr, ⟨r6, r2, rfl, fun s hs => ?_, ⟨nr, hs6, rfl⟩, r27⟩, ⟨0, by decide, rfl, rfl, d, e⟩, S.v ⟨rfl, fun j i hi => ?_⟩, h15, tw, m38, I.v (fun _ _ => rfl) (fun _ _ => rfl)⟩
      · unfold f_X8_rule
        rw [r2, if_pos (show nI nr < 6 from nI_lt (b := 6) hs6 (by decide)), if_pos (ib_n hs6 (by decide)), eu, a8, bd_some, bd_some]
        dsimp only
        rw [if_pos rfl]
        rfl
      · rw [uF_n (show s ≠ nr by omega)]
        exact (rL s hs).fr (s := nr) hs i1 i2 (pk_un (by omega)) i3 i4 i5
      · rcases vw_in hi with ⟨z, y⟩ | ⟨z, y⟩ | ⟨z, y⟩ | ⟨z, y⟩ | ⟨z, y⟩ | ⟨z, y⟩ | ⟨z, y⟩ | ⟨z, y⟩ | ⟨z, y⟩ | ⟨z, y⟩ | ⟨z, y⟩ | ⟨z, y⟩ <;> subst z <;> rfl
    · obtain ⟨c2, len2, p2, o2, u2, t2, st2, so2, nu2, op2, sf2, su2, te2, sa2, ta2, ea2, i0, i00, i000, iC, iE, i1, i2, i3, i4, i5, a8, a9⟩ := hR
      obtain ⟨len', u', v5, v7, v1, v2, v3⟩ := UV_of (pv_read a8)
      have el : len' = len2 := by
        have q : nI len2 = nI len' := v5
        exact ((nI_eq (by omega) (by omega)).mp q).symm
      have w3 : nvS st2 len2 ≤ u' := by
        rw [← el]
        exact v3
      refine ⟨nI nr, uF xi 2 (nI (nr + 1)), (uF (tpa (tcs tp n K P V) t2 0).1 1 0, (tpa (tcs tp n K P V) t2 0).2.1, (tpa (tcs tp n K P V) t2 0).2.2), uF rz nr (rus (ycl (rz nr) (nI c2) sf2 su2 te2) (nI len2) u2 st2), finR (ps (mcl (mru mo nr) sa2 ta2 ea2) p2 0 (nI len2) (nI 0) u2 o2 so2 nu2 op2) nr (nI c2) (nI (nr + 1)), ?_, a9, nr + 1, ⟨by omega, rfl, rfl, fun s hs => ?_, ⟨nr, hs6, rfl⟩, r27⟩, ⟨0, by decide, rfl, rfl, d, e⟩, (S.v ⟨rfl, fun j i hi => ?_⟩).nr (by omega), h15, tw, m38, fun k hk => ?_⟩
      · unfold f_X8_rule
        rw [r2, if_pos (show nI nr < 6 from nI_lt (b := 6) hs6 (by decide)), if_pos (ib_n hs6 (by decide)), eu, a8, bd_some, bd_some]
        dsimp only
        rw [if_neg (show ¬ (1 : Int32) = 0 by decide), nI_1, nI_pred]
      · by_cases z : s = nr
        · subst z
          rw [uF_s]
          exact ⟨c2, len2, i00, i000, rfl, rfl, pk_us, Nat.le_trans w3 v2, iE, iC⟩
        · rw [uF_n z]
          exact (rL s (by omega)).fr (s := nr) (by omega) i1 i2 (pk_un z) i3 i4 i5
      · rcases vw_in hi with ⟨z, y⟩ | ⟨z, y⟩ | ⟨z, y⟩ | ⟨z, y⟩ | ⟨z, y⟩ | ⟨z, y⟩ | ⟨z, y⟩ | ⟨z, y⟩ | ⟨z, y⟩ | ⟨z, y⟩ | ⟨z, y⟩ | ⟨z, y⟩ <;> subst z <;> rfl
      · obtain ⟨y1, y2⟩ := I k hk
        exact ⟨y1, fun z => (y2 z).nr (by omega)⟩
end STP
