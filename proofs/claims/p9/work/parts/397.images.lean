/-! images: by both -/
/-- how wide a row is that an image keeps; where it lies in the image -/
noncomputable def vw (j : Nat) : Nat := if j = 39 then 260 else if j = 2 ∨ j = 11 then 4 else if j = 8 ∨ j = 9 ∨ j = 10 then 10 else if 1 ≤ j ∧ j ≤ 7 then 8 else 0
noncomputable def vo (j : Nat) : Nat := if j = 39 then 87 else [0, 0, 8, 12, 20, 28, 37, 45, 53, 63, 73, 83].getD j 0
/-- an image as a state of the reference -/
noncomputable def vmo (g : Nat → Int32) (k : Nat) : OB := (fun _ => g (400 * k + 36), fun j i => g (400 * k + vo j + i), fun _ _ => 0)
noncomputable def VEQ (a b : OB) : Prop := a.1 41 = b.1 41 ∧ ∀ j i, i < vw j → a.2.1 j i = b.2.1 j i
theorem VEQ.tr {a b c : OB} (h1 : VEQ a b) (h2 : VEQ b c) : VEQ a c := ⟨h1.1.trans h2.1, fun j i hi => (h1.2 j i hi).trans (h2.2 j i hi)⟩
theorem vw_in {j i : Nat} (hi : i < vw j) : (j = 1 ∧ i < 8) ∨ (j = 2 ∧ i < 4) ∨ (j = 3 ∧ i < 8) ∨ (j = 4 ∧ i < 8) ∨ (j = 5 ∧ i < 8) ∨ (j = 6 ∧ i < 8) ∨ (j = 7 ∧ i < 8) ∨ (j = 8 ∧ i < 10) ∨ (j = 9 ∧ i < 10) ∨ (j = 10 ∧ i < 10) ∨ (j = 11 ∧ i < 4) ∨ (j = 39 ∧ i < 260) := by
  unfold vw at hi
  by_cases a : j = 39
  · rw [if_pos a] at hi
    omega
  · rw [if_neg a] at hi
    by_cases b : j = 2 ∨ j = 11
    · rw [if_pos b] at hi
      omega
    · rw [if_neg b] at hi
      by_cases c : j = 8 ∨ j = 9 ∨ j = 10
      · rw [if_pos c] at hi
        omega
      · rw [if_neg c] at hi
        by_cases d : 1 ≤ j ∧ j ≤ 7
        · rw [if_pos d] at hi
          omega
        · rw [if_neg d] at hi
          exact absurd hi (Nat.not_lt_zero _)
section VEC
variable {h : HLd} {cn : Nat → Nat} {S D mi : Nat} {rc : Nat → Rc} {n nn : Nat} {nm : Nat → Nat × Nat × Nat} {mo w nt nu : OB}
theorem VEQ.r (v : VEQ mo w) {j i : Nat} (hi : i < vw j) : w.2.1 j i = mo.2.1 j i := (v.2 j i hi).symm
theorem MDd.v (H : HOK h) (M : MDd h cn S D mi mo) (v : VEQ mo w) : MDd h cn S D mi w := by
  have h4 := H.2.1
  have h8 := H.2.2.1
  have hq := H.q8
  obtain ⟨⟨⟨a0, a1, a2, a3⟩, M4, M5, M6⟩, M7, M8, M9⟩ := M
  exact ⟨⟨⟨(v.r (j := 1) (i := 0) (by decide)).trans a0, (v.r (j := 1) (i := 1) (by decide)).trans a1, (v.r (j := 1) (i := 2) (by decide)).trans a2, (v.r (j := 1) (i := 3) (by decide)).trans a3⟩, fun k hk => (v.r (j := 11) (i := k) (show k < 4 by omega)).trans (M4 k hk), fun k hk => ⟨(v.r (j := 6) (i := k) (show k < 8 by omega)).trans (M5 k hk).1, (v.r (j := 4) (i := k) (show k < 8 by omega)).trans (M5 k hk).2⟩, fun k hk => ⟨(v.r (j := 7) (i := k) (show k < 8 by omega)).trans (M6 k hk).1, (v.r (j := 5) (i := k) (show k < 8 by omega)).trans (M6 k hk).2⟩⟩, (v.r (j := 1) (i := 4) (by decide)).trans M7, fun k hk => (v.r (j := 2) (i := k) (show k < 4 by omega)).trans (M8 k hk), fun k hk => (v.r (j := 3) (i := k) (show k < 8 by omega)).trans (M9 k hk)⟩
theorem PKd.v (H : HOK h) (P : PKd h rc n mo) (v : VEQ mo w) : PKd h rc n w := by
  have h4 := H.2.1
  have hq := H.q8
  obtain ⟨p1, p2, p3⟩ := P
  refine ⟨v.1.symm.trans p1, p2, fun j hj => ⟨?_, fun i hi => ?_, fun i hi => ?_⟩⟩
  · exact (v.r (j := 39) (i := 13 * (n - 1 - j)) (show _ < 260 by omega)).trans (p3 j hj).1
  · exact (v.r (j := 39) (i := 13 * (n - 1 - j) + 1 + i) (show _ < 260 by omega)).trans ((p3 j hj).2.1 i hi)
  · exact (v.r (j := 39) (i := 13 * (n - 1 - j) + 5 + i) (show _ < 260 by omega)).trans ((p3 j hj).2.2 i hi)
theorem NTd.v (N : NTd h nm nn nt mo) (v : VEQ mo w) (h3 : nu.1 3 = nt.1 3) (hr : ∀ j i, j < 3 → i < 10 → nu.2.1 j i = nt.2.1 j i) : NTd h nm nn nu w := by
  obtain ⟨n1, n2, n3, n4, n5, n6⟩ := N
  refine ⟨n1, h3.trans n2, (v.r (j := 1) (i := 5) (by decide)).trans n3, n4, fun j hj => ?_, fun j hj => ?_⟩
  · obtain ⟨a, b, c⟩ := n5 j hj
    exact ⟨(hr 0 j (by decide) (by omega)).trans a, (hr 1 j (by decide) (by omega)).trans b, (hr 2 j (by decide) (by omega)).trans c⟩
  · obtain ⟨a, b, c⟩ := n6 j hj
    exact ⟨(v.r (j := 8) (i := j) (show j < 10 by omega)).trans a, (v.r (j := 9) (i := j) (show j < 10 by omega)).trans b, (v.r (j := 10) (i := j) (show j < 10 by omega)).trans c⟩
end VEC
/-! what stands, by both -/
noncomputable def STd (nr : Nat) (si : Nat → Int32) (rm ac nt mo : OB) : Prop := ∃ (h : HLd) (cn : Nat → Nat) (S D mi : Nat) (rc : Nat → Rc) (n : Nat) (nm : Nat → Nat × Nat × Nat) (nn v : Nat), OKD h cn S D mi rc n ∧ ACd h cn S D mi rc n rm ac ∧ AMd h cn S D mi rc n mo ∧ NTd h nm nn nt mo ∧ mo.2.1 1 7 = si 3 ∧ (si 3 = -1 ∨ ∃ s, s < nr ∧ si 3 = nI s) ∧ v < 2 ^ 31 ∧ si 4 = nI v ∧ mo.2.1 1 6 = nI v ∧ Rw (rm.2.1 4) 4 99
theorem STd.v {nr : Nat} {si : Nat → Int32} {rm ac nt mo w : OB} (T : STd nr si rm ac nt mo) (v : VEQ mo w) : STd nr si rm ac nt w := by
  obtain ⟨h, cn, S, D, mi, rc, n, nm, nn, x, a1, a2, a3, a4, a5, a6, a7, a8, a9, a10⟩ := T
  exact ⟨h, cn, S, D, mi, rc, n, nm, nn, x, a1, a2, ⟨a3.1.v a1.1 v, a3.2.v a1.1 v⟩, a4.v v rfl (fun _ _ _ _ => rfl), (v.r (j := 1) (i := 7) (by decide)).trans a5, a6, a7, a8, (v.r (j := 1) (i := 6) (by decide)).trans a9, a10⟩
theorem STd.nr {nr n2 : Nat} {si : Nat → Int32} {rm ac nt mo : OB} (T : STd nr si rm ac nt mo) (hn : nr ≤ n2) : STd n2 si rm ac nt mo := by
  obtain ⟨h, cn, S, D, mi, rc, n, nm, nn, x, a1, a2, a3, a4, a5, a6, a7, a8, a9, a10⟩ := T
  exact ⟨h, cn, S, D, mi, rc, n, nm, nn, x, a1, a2, a3, a4, a5, a6.imp id (fun ⟨s, u, v⟩ => ⟨s, by omega, v⟩), a7, a8, a9, a10⟩
/-- what stands is copied by the class -/
theorem STd.cp {F nr : Nat} {si sj : Nat → Int32} {rm ac nt rn ae nu mo w : OB} (T : STd nr sj rn ae nu mo) (v : VEQ mo w) : ∃ (s2 : Nat → Int32) (r2 a2 t2 : OB), f_X6_copyFrom F si rm ac nt sj rn ae nu = some (s2, r2, a2, t2) ∧ STd nr s2 r2 a2 t2 w ∧ r2.1 15 = 0 ∧ r2.1 12 = w.2.1 1 4 := by
  obtain ⟨h, cn, S, D, mi, rc, n, nm, nn, x, a1, a2, a3, a4, a5, a6, a7, a8, a9, a10⟩ := T
  obtain ⟨r2, b1, b2, b3, b4, b5⟩ := s_copyFrom (F := F) (rm := rm) a1.1 a2.1
  have w4 := v.r (j := 1) (i := 4) (by decide)
  refine ⟨uF (uF si 3 (sj 3)) 4 (sj 4), r2, ((uF (uF ac.1 3 (ae.1 3)) 4 (ae.1 4)), (uF (uF (uF ac.2.1 0 (va_cpy (ae.2.1 0) (ac.2.1 0) 0 0 20)) 1 (va_cpy (ae.2.1 1) (ac.2.1 1) 0 0 20)) 2 (va_cpy (ae.2.1 2) (ac.2.1 2) 0 0 20)), ac.2.2), ((uF nt.1 3 (nu.1 3)), (uF (uF (uF nt.2.1 0 (va_cpy (nu.2.1 0) (nt.2.1 0) 0 0 10)) 1 (va_cpy (nu.2.1 1) (nt.2.1 1) 0 0 10)) 2 (va_cpy (nu.2.1 2) (nt.2.1 2) 0 0 10)), nt.2.2), ?_, ⟨h, cn, S, D, mi, rc, n, nm, nn, x, a1, ⟨b2, ?_⟩, ⟨a3.1.v a1.1 v, a3.2.v a1.1 v⟩, a4.v (nu := ((uF nt.1 3 (nu.1 3)), (uF (uF (uF nt.2.1 0 (va_cpy (nu.2.1 0) (nt.2.1 0) 0 0 10)) 1 (va_cpy (nu.2.1 1) (nt.2.1 1) 0 0 10)) 2 (va_cpy (nu.2.1 2) (nt.2.1 2) 0 0 10)), nt.2.2)) v rfl (fun j i hj hi => ?_), (v.r (j := 1) (i := 7) (by decide)).trans a5, a6, a7, a8, (v.r (j := 1) (i := 6) (by decide)).trans a9, fun k hk => ?_⟩, b3, ?_⟩
  rotate_left 1
  · obtain ⟨nx, c1, c2, c3, c4, c5⟩ := a2.2
    refine ⟨nx, c1, c2, ?_, ?_, fun j hj => ?_⟩
    rotate_left 2
    · obtain ⟨d1, d2, d3⟩ := c5 j hj
      have hl : (nx + 19 - j) % 20 < 20 := Nat.mod_lt _ (by decide)
      refine ⟨?_, ?_, ?_⟩
      · show va_cpy (ae.2.1 0) (ac.2.1 0) 0 0 20 _ = _
        rw [pk_cpy_in (Nat.zero_le _) (by omega), Nat.sub_zero, Nat.zero_add]
        exact d1
      · show va_cpy (ae.2.1 1) (ac.2.1 1) 0 0 20 _ = _
        rw [pk_cpy_in (Nat.zero_le _) (by omega), Nat.sub_zero, Nat.zero_add]
        exact d2
      · show va_cpy (ae.2.1 2) (ac.2.1 2) 0 0 20 _ = _
        rw [pk_cpy_in (Nat.zero_le _) (by omega), Nat.sub_zero, Nat.zero_add]
        exact d3
    · exact c3
    · exact c4
  · rcases (show j = 0 ∨ j = 1 ∨ j = 2 by omega) with e | e | e <;> subst e
    · show va_cpy (nu.2.1 0) (nt.2.1 0) 0 0 10 i = _
      rw [pk_cpy_in (Nat.zero_le _) (by omega), Nat.sub_zero, Nat.zero_add]
    · show va_cpy (nu.2.1 1) (nt.2.1 1) 0 0 10 i = _
      rw [pk_cpy_in (Nat.zero_le _) (by omega), Nat.sub_zero, Nat.zero_add]
    · show va_cpy (nu.2.1 2) (nt.2.1 2) 0 0 10 i = _
      rw [pk_cpy_in (Nat.zero_le _) (by omega), Nat.sub_zero, Nat.zero_add]
  · rw [b5 k hk]
    exact a10 k hk
  · rw [b2.2.1.2.2, w4]
    exact a3.1.2.1.symm
  · unfold f_X6_copyFrom f_X0_copyFrom f_X2_copyFrom
    rw [b1, bd_some, bd_some, bd_some]
/-! the reference's images -/
section CAR
variable {F : Nat} {mi ir fr : Nat → Int32} {p fn : Nat}
theorem cq0 (h51 : mi 51 = nI p) (h52 : mi 52 = 0) (hp : p + fn ≤ 2000) (hf : fn ≤ 260) (hF : 600 ≤ F) : ∃ mi2 ir2, f_X9_carryRow F fn mi ir fr = some (mi2, ir2, fr) ∧ mi2 51 = nI (p + fn) ∧ mi2 52 = 0 ∧ (∀ j, j ≠ 51 → mi2 j = mi j) ∧ (∀ j, j < fn → ir2 (p + j) = fr j) ∧ ∀ j, j < p ∨ p + fn ≤ j → ir2 j = ir j := by
  refine ⟨_, _, cr0 h51 h52 hp hf hF, uF_s, (uF_n (by decide)).trans h52, fun j hj => uF_n hj, fun j hj => ?_, fun j hj => ?_⟩
  · rw [if_pos (show p ≤ p + j ∧ p + j < p + fn by omega), show p + j - p = j by omega]
  · rw [if_neg (show ¬ (p ≤ j ∧ j < p + fn) by omega)]
theorem cq1 (h51 : mi 51 = nI p) (h52 : mi 52 = 1) (hp : p + fn ≤ 2000) (hf : fn ≤ 260) (hF : 600 ≤ F) : ∃ mi2 fr2, f_X9_carryRow F fn mi ir fr = some (mi2, ir, fr2) ∧ mi2 51 = nI (p + fn) ∧ mi2 52 = 1 ∧ (∀ j, j ≠ 51 → mi2 j = mi j) ∧ (∀ j, j < fn → fr2 j = ir (p + j)) ∧ ∀ j, fn ≤ j → fr2 j = fr j := by
  refine ⟨_, _, cr1 h51 h52 hp hf hF, uF_s, (uF_n (by decide)).trans h52, fun j hj => uF_n hj, fun j hj => ?_, fun j hj => ?_⟩
  · rw [if_pos hj]
  · rw [if_neg (show ¬ j < fn by omega)]
end CAR
section IMG
variable {F : Nat} {mo : OB}
theorem s_carry0 {k : Nat} (hk : k < 4) (hF : 600 ≤ F) : ∃ (I g q : Nat → Int32), f_X9_carriesAll F (nI k) 0 mo = some (I, uF (uF mo.2.1 40 q) 49 g, mo.2.2) ∧ (∀ j, j ≠ 51 → j ≠ 52 → I j = mo.1 j) ∧ VEQ mo (vmo g k) ∧ ∀ j, j < 400 * k ∨ 400 * k + 347 ≤ j → g j = mo.2.1 49 j := by
  obtain ⟨m1, g1, a1, b1, c1, d1, e1, f1⟩ := cq0 (F := F) (mi := uF (uF mo.1 51 (nI (400 * k))) 52 0) (ir := mo.2.1 49) (fr := mo.2.1 1) (p := 400 * k) (fn := 8) rfl rfl (by omega) (by decide) hF
  obtain ⟨m2, g2, a2, b2, c2, d2, e2, f2⟩ := cq0 (F := F) (mi := m1) (ir := g1) (fr := mo.2.1 2) (p := 400 * k + 8) (fn := 4) b1 c1 (by omega) (by decide) hF
  obtain ⟨m3, g3, a3, b3, c3, d3, e3, f3⟩ := cq0 (F := F) (mi := m2) (ir := g2) (fr := mo.2.1 3) (p := 400 * k + 8 + 4) (fn := 8) b2 c2 (by omega) (by decide) hF
  obtain ⟨m4, g4, a4, b4, c4, d4, e4, f4⟩ := cq0 (F := F) (mi := m3) (ir := g3) (fr := mo.2.1 4) (p := 400 * k + 8 + 4 + 8) (fn := 8) b3 c3 (by omega) (by decide) hF
  obtain ⟨m5, g5, a5, b5, c5, d5, e5, f5⟩ := cq0 (F := F) (mi := m4) (ir := g4) (fr := mo.2.1 5) (p := 400 * k + 8 + 4 + 8 + 8) (fn := 8) b4 c4 (by omega) (by decide) hF
  have i41 : m5 41 = mo.1 41 := by
    rw [d5 41 (by decide), d4 41 (by decide), d3 41 (by decide), d2 41 (by decide), d1 41 (by decide)]
    rfl
  obtain ⟨m6, g6, a6, b6, c6, d6, e6, f6⟩ := cq0 (F := F) (mi := m5) (ir := g5) (fr := upd (mo.2.1 40) 0 (m5 41)) (p := 400 * k + 8 + 4 + 8 + 8 + 8) (fn := 1) b5 c5 (by omega) (by decide) hF
  obtain ⟨m6', hm6⟩ : ∃ m6', m6' = uF m6 41 (upd (mo.2.1 40) 0 (m5 41) 0) := ⟨_, rfl⟩
  have b6' : m6' 51 = nI (400 * k + 8 + 4 + 8 + 8 + 8 + 1) := by
    rw [hm6, uF_n (by decide)]
    exact b6
  have c6' : m6' 52 = 0 := by
    rw [hm6, uF_n (by decide)]
    exact c6
  have k41 : m6' 41 = mo.1 41 := by
    rw [hm6, uF_s, pk_us, i41]
  obtain ⟨m7, g7, a7, b7, c7, d7, e7, f7⟩ := cq0 (F := F) (mi := m6') (ir := g6) (fr := mo.2.1 6) (p := 400 * k + 8 + 4 + 8 + 8 + 8 + 1) (fn := 8) b6' c6' (by omega) (by decide) hF
  obtain ⟨m8, g8, a8, b8, c8, d8, e8, f8⟩ := cq0 (F := F) (mi := m7) (ir := g7) (fr := mo.2.1 7) (p := 400 * k + 8 + 4 + 8 + 8 + 8 + 1 + 8) (fn := 8) b7 c7 (by omega) (by decide) hF
  obtain ⟨m9, g9, a9, b9, c9, d9, e9, f9⟩ := cq0 (F := F) (mi := m8) (ir := g8) (fr := mo.2.1 8) (p := 400 * k + 8 + 4 + 8 + 8 + 8 + 1 + 8 + 8) (fn := 10) b8 c8 (by omega) (by decide) hF
  obtain ⟨m10, g10, a10, b10, c10, d10, e10, f10⟩ := cq0 (F := F) (mi := m9) (ir := g9) (fr := mo.2.1 9) (p := 400 * k + 8 + 4 + 8 + 8 + 8 + 1 + 8 + 8 + 10) (fn := 10) b9 c9 (by omega) (by decide) hF
  obtain ⟨m11, g11, a11, b11, c11, d11, e11, f11⟩ := cq0 (F := F) (mi := m10) (ir := g10) (fr := mo.2.1 10) (p := 400 * k + 8 + 4 + 8 + 8 + 8 + 1 + 8 + 8 + 10 + 10) (fn := 10) b10 c10 (by omega) (by decide) hF
  obtain ⟨m12, g12, a12, b12, c12, d12, e12, f12⟩ := cq0 (F := F) (mi := m11) (ir := g11) (fr := mo.2.1 11) (p := 400 * k + 8 + 4 + 8 + 8 + 8 + 1 + 8 + 8 + 10 + 10 + 10) (fn := 4) b11 c11 (by omega) (by decide) hF
  obtain ⟨m13, g13, a13, b13, c13, d13, e13, f13⟩ := cq0 (F := F) (mi := m12) (ir := g12) (fr := mo.2.1 39) (p := 400 * k + 8 + 4 + 8 + 8 + 8 + 1 + 8 + 8 + 10 + 10 + 10 + 4) (fn := 260) b12 c12 (by omega) (by decide) hF
  have e400 : (400 : Int32) * nI k = nI (400 * k) := by
    rw [show (400 : Int32) = nI 400 from rfl, pk_mul]
  refine ⟨m13, g13, upd (mo.2.1 40) 0 (m5 41), ?_, fun j p q => ?_, ⟨?_, fun j i hi => ?_⟩, fun j hj => ?_⟩
  · unfold f_X9_carriesAll
    rw [if_pos (Or.inl rfl), e400, a1, bd_some]
    dsimp only
    rw [a2, bd_some]
    dsimp only
    rw [a3, bd_some]
    dsimp only
    rw [a4, bd_some]
    dsimp only
    rw [a5, bd_some]
    dsimp only
    rw [if_neg (show ¬ nI k = 4 from fun z => by have := (nI_eq (b := 4) (show k < 2 ^ 31 by omega) (by decide)).mp z; omega), show Int32.toNatClampNeg 0 = 0 from by decide, a6, bd_some]
    dsimp only
    rw [← hm6, a7, bd_some]
    dsimp only
    rw [a8, bd_some]
    dsimp only
    rw [a9, bd_some]
    dsimp only
    rw [a10, bd_some]
    dsimp only
    rw [a11, bd_some]
    dsimp only
    rw [a12, bd_some]
    dsimp only
    rw [a13, bd_some]
    dsimp only
    rw [uF_id (f := mo.2.1) (i := 1), uF_id (f := mo.2.1) (i := 2), uF_id (f := mo.2.1) (i := 3), uF_id (f := mo.2.1) (i := 4), uF_id (f := mo.2.1) (i := 5), uF_id (f := mo.2.1) (i := 6), uF_id (f := mo.2.1) (i := 7), uF_id (f := mo.2.1) (i := 8), uF_id (f := mo.2.1) (i := 9), uF_id (f := mo.2.1) (i := 10), uF_id (f := mo.2.1) (i := 11), uF_id (f := mo.2.1) (i := 39)]
  · by_cases z : j = 41
    · rw [z, d13 41 (by decide), d12 41 (by decide), d11 41 (by decide), d10 41 (by decide), d9 41 (by decide), d8 41 (by decide), d7 41 (by decide), k41]
    · rw [d13 j p, d12 j p, d11 j p, d10 j p, d9 j p, d8 j p, d7 j p, hm6, uF_n z, d6 j p, d5 j p, d4 j p, d3 j p, d2 j p, d1 j p, uF_n q, uF_n p]
  · show mo.1 41 = g13 (400 * k + 36)
    rw [f13 _ (by omega), f12 _ (by omega), f11 _ (by omega), f10 _ (by omega), f9 _ (by omega), f8 _ (by omega), f7 _ (by omega)]
    have u := e6 0 (by decide)
    rw [pk_us, i41] at u
    exact u.symm
  · show mo.2.1 j i = g13 (400 * k + vo j + i)
    rcases vw_in hi with ⟨z, y⟩ | ⟨z, y⟩ | ⟨z, y⟩ | ⟨z, y⟩ | ⟨z, y⟩ | ⟨z, y⟩ | ⟨z, y⟩ | ⟨z, y⟩ | ⟨z, y⟩ | ⟨z, y⟩ | ⟨z, y⟩ | ⟨z, y⟩ <;> subst z
    · show mo.2.1 1 i = g13 (400 * k + 0 + i)
      rw [f13 _ (by omega), f12 _ (by omega), f11 _ (by omega), f10 _ (by omega), f9 _ (by omega), f8 _ (by omega), f7 _ (by omega), f6 _ (by omega), f5 _ (by omega), f4 _ (by omega), f3 _ (by omega), f2 _ (by omega)]
      exact (e1 i y).symm
    · show mo.2.1 2 i = g13 (400 * k + 8 + i)
      rw [f13 _ (by omega), f12 _ (by omega), f11 _ (by omega), f10 _ (by omega), f9 _ (by omega), f8 _ (by omega), f7 _ (by omega), f6 _ (by omega), f5 _ (by omega), f4 _ (by omega), f3 _ (by omega)]
      exact (e2 i y).symm
    · show mo.2.1 3 i = g13 (400 * k + 12 + i)
      rw [f13 _ (by omega), f12 _ (by omega), f11 _ (by omega), f10 _ (by omega), f9 _ (by omega), f8 _ (by omega), f7 _ (by omega), f6 _ (by omega), f5 _ (by omega), f4 _ (by omega)]
      exact (e3 i y).symm
    · show mo.2.1 4 i = g13 (400 * k + 20 + i)
      rw [f13 _ (by omega), f12 _ (by omega), f11 _ (by omega), f10 _ (by omega), f9 _ (by omega), f8 _ (by omega), f7 _ (by omega), f6 _ (by omega), f5 _ (by omega)]
      exact (e4 i y).symm
    · show mo.2.1 5 i = g13 (400 * k + 28 + i)
      rw [f13 _ (by omega), f12 _ (by omega), f11 _ (by omega), f10 _ (by omega), f9 _ (by omega), f8 _ (by omega), f7 _ (by omega), f6 _ (by omega)]
      exact (e5 i y).symm
    · show mo.2.1 6 i = g13 (400 * k + 37 + i)
      rw [f13 _ (by omega), f12 _ (by omega), f11 _ (by omega), f10 _ (by omega), f9 _ (by omega), f8 _ (by omega)]
      exact (e7 i y).symm
    · show mo.2.1 7 i = g13 (400 * k + 45 + i)
      rw [f13 _ (by omega), f12 _ (by omega), f11 _ (by omega), f10 _ (by omega), f9 _ (by omega)]
      exact (e8 i y).symm
    · show mo.2.1 8 i = g13 (400 * k + 53 + i)
      rw [f13 _ (by omega), f12 _ (by omega), f11 _ (by omega), f10 _ (by omega)]
      exact (e9 i y).symm
    · show mo.2.1 9 i = g13 (400 * k + 63 + i)
      rw [f13 _ (by omega), f12 _ (by omega), f11 _ (by omega)]
      exact (e10 i y).symm
    · show mo.2.1 10 i = g13 (400 * k + 73 + i)
      rw [f13 _ (by omega), f12 _ (by omega)]
      exact (e11 i y).symm
    · show mo.2.1 11 i = g13 (400 * k + 83 + i)
      rw [f13 _ (by omega)]
      exact (e12 i y).symm
    · exact (e13 i y).symm
  · rw [f13 _ (by omega), f12 _ (by omega), f11 _ (by omega), f10 _ (by omega), f9 _ (by omega), f8 _ (by omega), f7 _ (by omega), f6 _ (by omega), f5 _ (by omega), f4 _ (by omega), f3 _ (by omega), f2 _ (by omega), f1 _ (by omega)]
theorem s_carry1 {k : Nat} (hk : k < 4) (hF : 600 ≤ F) : ∃ w : OB, f_X9_carriesAll F (nI k) 1 mo = some w ∧ (∀ j, j ≠ 41 → j ≠ 51 → j ≠ 52 → w.1 j = mo.1 j) ∧ VEQ (vmo (mo.2.1 49) k) w ∧ (∀ j, j = 0 ∨ (11 < j ∧ j ≠ 39 ∧ j ≠ 40) → w.2.1 j = mo.2.1 j) ∧ w.2.2 = mo.2.2 := by
  obtain ⟨m1, g1, a1, b1, c1, d1, e1, f1⟩ := cq1 (F := F) (mi := uF (uF mo.1 51 (nI (400 * k))) 52 1) (ir := mo.2.1 49) (fr := mo.2.1 1) (p := 400 * k) (fn := 8) rfl rfl (by omega) (by decide) hF
  obtain ⟨m2, g2, a2, b2, c2, d2, e2, f2⟩ := cq1 (F := F) (mi := m1) (ir := mo.2.1 49) (fr := mo.2.1 2) (p := 400 * k + 8) (fn := 4) b1 c1 (by omega) (by decide) hF
  obtain ⟨m3, g3, a3, b3, c3, d3, e3, f3⟩ := cq1 (F := F) (mi := m2) (ir := mo.2.1 49) (fr := mo.2.1 3) (p := 400 * k + 8 + 4) (fn := 8) b2 c2 (by omega) (by decide) hF
  obtain ⟨m4, g4, a4, b4, c4, d4, e4, f4⟩ := cq1 (F := F) (mi := m3) (ir := mo.2.1 49) (fr := mo.2.1 4) (p := 400 * k + 8 + 4 + 8) (fn := 8) b3 c3 (by omega) (by decide) hF
  obtain ⟨m5, g5, a5, b5, c5, d5, e5, f5⟩ := cq1 (F := F) (mi := m4) (ir := mo.2.1 49) (fr := mo.2.1 5) (p := 400 * k + 8 + 4 + 8 + 8) (fn := 8) b4 c4 (by omega) (by decide) hF
  obtain ⟨m6, g6, a6, b6, c6, d6, e6, f6⟩ := cq1 (F := F) (mi := m5) (ir := mo.2.1 49) (fr := upd (mo.2.1 40) 0 (m5 41)) (p := 400 * k + 8 + 4 + 8 + 8 + 8) (fn := 1) b5 c5 (by omega) (by decide) hF
  obtain ⟨m6', hm6⟩ : ∃ m6', m6' = uF m6 41 (g6 0) := ⟨_, rfl⟩
  have b6' : m6' 51 = nI (400 * k + 8 + 4 + 8 + 8 + 8 + 1) := by
    rw [hm6, uF_n (by decide)]
    exact b6
  have c6' : m6' 52 = 1 := by
    rw [hm6, uF_n (by decide)]
    exact c6
  obtain ⟨m7, g7, a7, b7, c7, d7, e7, f7⟩ := cq1 (F := F) (mi := m6') (ir := mo.2.1 49) (fr := mo.2.1 6) (p := 400 * k + 8 + 4 + 8 + 8 + 8 + 1) (fn := 8) b6' c6' (by omega) (by decide) hF
  obtain ⟨m8, g8, a8, b8, c8, d8, e8, f8⟩ := cq1 (F := F) (mi := m7) (ir := mo.2.1 49) (fr := mo.2.1 7) (p := 400 * k + 8 + 4 + 8 + 8 + 8 + 1 + 8) (fn := 8) b7 c7 (by omega) (by decide) hF
  obtain ⟨m9, g9, a9, b9, c9, d9, e9, f9⟩ := cq1 (F := F) (mi := m8) (ir := mo.2.1 49) (fr := mo.2.1 8) (p := 400 * k + 8 + 4 + 8 + 8 + 8 + 1 + 8 + 8) (fn := 10) b8 c8 (by omega) (by decide) hF
  obtain ⟨m10, g10, a10, b10, c10, d10, e10, f10⟩ := cq1 (F := F) (mi := m9) (ir := mo.2.1 49) (fr := mo.2.1 9) (p := 400 * k + 8 + 4 + 8 + 8 + 8 + 1 + 8 + 8 + 10) (fn := 10) b9 c9 (by omega) (by decide) hF
  obtain ⟨m11, g11, a11, b11, c11, d11, e11, f11⟩ := cq1 (F := F) (mi := m10) (ir := mo.2.1 49) (fr := mo.2.1 10) (p := 400 * k + 8 + 4 + 8 + 8 + 8 + 1 + 8 + 8 + 10 + 10) (fn := 10) b10 c10 (by omega) (by decide) hF
  obtain ⟨m12, g12, a12, b12, c12, d12, e12, f12⟩ := cq1 (F := F) (mi := m11) (ir := mo.2.1 49) (fr := mo.2.1 11) (p := 400 * k + 8 + 4 + 8 + 8 + 8 + 1 + 8 + 8 + 10 + 10 + 10) (fn := 4) b11 c11 (by omega) (by decide) hF
  obtain ⟨m13, g13, a13, b13, c13, d13, e13, f13⟩ := cq1 (F := F) (mi := m12) (ir := mo.2.1 49) (fr := mo.2.1 39) (p := 400 * k + 8 + 4 + 8 + 8 + 8 + 1 + 8 + 8 + 10 + 10 + 10 + 4) (fn := 260) b12 c12 (by omega) (by decide) hF
  have e400 : (400 : Int32) * nI k = nI (400 * k) := by
    rw [show (400 : Int32) = nI 400 from rfl, pk_mul]
  refine ⟨(m13, uF (uF (uF (uF (uF (uF (uF (uF (uF (uF (uF (uF (uF (uF mo.2.1 1 g1) 2 g2) 3 g3) 4 g4) 5 g5) 6 g7) 7 g8) 8 g9) 9 g10) 10 g11) 11 g12) 39 g13) 40 g6) 49 (mo.2.1 49), mo.2.2), ?_, fun j p q r => ?_, ⟨?_, fun j i hi => ?_⟩, fun j hj => ?_, rfl⟩
  · unfold f_X9_carriesAll
    rw [if_pos (Or.inr rfl), e400, a1, bd_some]
    dsimp only
    rw [a2, bd_some]
    dsimp only
    rw [a3, bd_some]
    dsimp only
    rw [a4, bd_some]
    dsimp only
    rw [a5, bd_some]
    dsimp only
    rw [if_neg (show ¬ nI k = 4 from fun z => by have := (nI_eq (b := 4) (show k < 2 ^ 31 by omega) (by decide)).mp z; omega), show Int32.toNatClampNeg 0 = 0 from by decide, a6, bd_some]
    dsimp only
    rw [← hm6, a7, bd_some]
    dsimp only
    rw [a8, bd_some]
    dsimp only
    rw [a9, bd_some]
    dsimp only
    rw [a10, bd_some]
    dsimp only
    rw [a11, bd_some]
    dsimp only
    rw [a12, bd_some]
    dsimp only
    rw [a13, bd_some]
  · show m13 j = mo.1 j
    rw [d13 j q, d12 j q, d11 j q, d10 j q, d9 j q, d8 j q, d7 j q, hm6, uF_n p, d6 j q, d5 j q, d4 j q, d3 j q, d2 j q, d1 j q, uF_n r, uF_n q]
  · show mo.2.1 49 (400 * k + 36) = m13 41
    rw [d13 41 (by decide), d12 41 (by decide), d11 41 (by decide), d10 41 (by decide), d9 41 (by decide), d8 41 (by decide), d7 41 (by decide), hm6, uF_s, e6 0 (by decide)]
  · show mo.2.1 49 (400 * k + vo j + i) = _
    rcases vw_in hi with ⟨z, y⟩ | ⟨z, y⟩ | ⟨z, y⟩ | ⟨z, y⟩ | ⟨z, y⟩ | ⟨z, y⟩ | ⟨z, y⟩ | ⟨z, y⟩ | ⟨z, y⟩ | ⟨z, y⟩ | ⟨z, y⟩ | ⟨z, y⟩ <;> subst z
    · exact (e1 i y).symm
    · exact (e2 i y).symm
    · exact (e3 i y).symm
    · exact (e4 i y).symm
    · exact (e5 i y).symm
    · exact (e7 i y).symm
    · exact (e8 i y).symm
    · exact (e9 i y).symm
    · exact (e10 i y).symm
    · exact (e11 i y).symm
    · exact (e12 i y).symm
    · exact (e13 i y).symm
  · show uF (uF (uF (uF (uF (uF (uF (uF (uF (uF (uF (uF (uF (uF mo.2.1 1 g1) 2 g2) 3 g3) 4 g4) 5 g5) 6 g7) 7 g8) 8 g9) 9 g10) 10 g11) 11 g12) 39 g13) 40 g6) 49 (mo.2.1 49) j = _
    by_cases z : j = 49
    · rw [z, uF_s]
    · rw [uF_n z, uF_n (by omega), uF_n (by omega), uF_n (by omega), uF_n (by omega), uF_n (by omega), uF_n (by omega), uF_n (by omega), uF_n (by omega), uF_n (by omega), uF_n (by omega), uF_n (by omega), uF_n (by omega), uF_n (by omega)]
end IMG
