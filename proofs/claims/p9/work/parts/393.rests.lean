/-! rests: two play, by both -/
/-- what a minute is worth to one -/
noncomputable def wrt (h : HLd) (cn : Nat → Nat) (S k : Nat) : Int32 := if bS S k then 1 + nI (gvS h cn S k) / 10 else 0
noncomputable def rsP (R : Nat → Nat → Int32) (rl : Option Nat) (He Hd : Nat) (h : HLd) (cn : Nat → Nat) (S D mi k : Nat) : Nat → Int32
  | 0 => 0
  | j + 1 => rsP R rl He Hd h cn S D mi k j + wrt h cn (trj R rl He Hd h cn S D mi (j + 1)).1 k
noncomputable def rsF (R : Nat → Nat → Int32) (rl : Option Nat) (He Hd : Nat) (h : HLd) (cn : Nat → Nat) (S D mi n k : Nat) : Int32 := if bS (trj R rl He Hd h cn S D mi n).2 k then rsP R rl He Hd h cn S D mi k n - 10 else rsP R rl He Hd h cn S D mi k n
noncomputable def heM (a b : Nat) : Nat := 2 ^ a ||| 2 ^ b
noncomputable def hdM (a b c : Nat) : Nat := c / 2 * 2 ^ a ||| c % 2 * 2 ^ b
theorem bS_q2 {q a j : Nat} (hq : q < 2) : bS (q * 2 ^ a) j ↔ j = a ∧ q = 1 := by
  rcases (show q = 0 ∨ q = 1 by omega) with e | e <;> subst e
  · rw [Nat.zero_mul]
    exact ⟨fun z => absurd z (bS_0 j), fun z => absurd z.2 (by decide)⟩
  · rw [Nat.one_mul, bS_2]
    exact ⟨fun z => ⟨z, rfl⟩, fun z => z.1⟩
theorem bS_he {a b j : Nat} : bS (heM a b) j ↔ j = a ∨ j = b := by
  unfold heM
  rw [bS_or, bS_2, bS_2]
theorem bS_hd {a b c j : Nat} (hc : c < 4) : bS (hdM a b c) j ↔ (j = a ∧ c / 2 = 1) ∨ (j = b ∧ c % 2 = 1) := by
  unfold hdM
  rw [bS_or, bS_q2 (by omega), bS_q2 (by omega)]
section RST
variable {F : Nat} {h : HLd} {cn : Nat → Nat} {S D mi : Nat} {rm tm mo : OB} {rz : Nat → OB} {rl : Option Nat} {e : Int32} {xi si : Nat → Int32} {xrr : Nat → Option Nat}
theorem st_c {k : Nat} (H : HOK h) (C : CDd h cn S D mi rm) (B : BDd (h.1 3) S D) (hk : k < h.1 3) : f_X3_stateOf F (nI k) rm = some (nI (stt S D k)) := by
  have hq := H.q8
  rw [c_stateOf H C B, if_pos (show inR (nI k) (h.1 3) from ⟨by rw [nI_toInt (by omega)]; omega, by rw [nI_toInt (by omega)]; omega⟩), (nat_n rfl (show k < 2 ^ 31 by omega)).1]
theorem c_worth {k : Nat} (H : HOK h) (hc : ∀ k, k < h.1 1 → cn k ≤ 99) (C : CDd h cn S D mi rm) (B : BDd (h.1 3) S D) (hk : k < h.1 3) : f_X3_worthTo F (nI k) rm = some (wrt h cn S k) := by
  have hq := H.q8
  have hS8 := l28 B.1 hq
  unfold f_X3_worthTo b_X3_worthTo_22 wrt
  rw [s_isDown C.1.1.2.2.2 C.2.1.1 (by omega) hk hq, bd_some]
  by_cases b : bS S k
  · rw [if_pos b, if_neg (show ¬ (1 : Int32) = 0 by decide), s_gives H hc C (by omega) hk, bd_some, if_pos b]
  · rw [if_neg b, if_pos rfl, if_neg b]
theorem r_earns {k : Nat} (H : HOK h) (hc : ∀ k, k < h.1 1 → cn k ≤ 99) (M : MDd h cn S D mi mo) (B : BDd (h.1 3) S D) (hk : k < h.1 3) (hF : 600 ≤ F) : f_X9_earns F (nI k) mo = some (wrt h cn S k) := by
  have hq := H.q8
  unfold f_X9_earns b_X9_earns_24 wrt
  rw [if_pos (ib_n (show k < 8 by omega) (by decide)), nI_clamp (show k < 2 ^ 31 by omega), M.2.2.2 k hk, r_givesNow H hc M B hk hF, bd_some]
  by_cases b : bS S k
  · rw [if_pos (show nI (stt S D k) = 1 by rw [(stt_1 B).mpr b]; rfl), if_pos b]
  · have hl := stt_lt S D k
    rw [if_neg (show ¬ nI (stt S D k) = 1 from fun z => b ((stt_1 B).mp ((nI_eq (b := 1) (by omega) (by decide)).mp z))), if_neg b]
/-- one play in the class -/
theorem tw_loop {a b c n He Hd : Nat} {xpr xqr : Nat → Int32} (H : HOK h) (hc : ∀ k, k < h.1 1 → cn k ≤ 99) (hF : 600 ≤ F) (hn : n ≤ 20) (B : BDd (h.1 3) S D) (ha : a < h.1 3) (hb : b < h.1 3) (hc4 : c < 4) : ∀ (r j g : Nat) (tm : OB) (rz : Nat → OB), j + r = n → r < g → RLx rl e rz mo → CDd h cn (trj mo.2.1 rl He Hd h cn S D mi j).1 (trj mo.2.1 rl He Hd h cn S D mi j).2 (mi + j) tm → Hld He Hd tm → ∃ tm2 rz2, lp (b_X8_playTwo_63 F xi xrr si rm) g (nI a, nI b, nI n, nI c, e, rsP mo.2.1 rl He Hd h cn S D mi a j, rsP mo.2.1 rl He Hd h cn S D mi b j, nI j, tm, xpr, xqr, rz) = some (tm2, upd xpr c (rsF mo.2.1 rl He Hd h cn S D mi n a), upd xqr c (rsF mo.2.1 rl He Hd h cn S D mi n b), rz2) ∧ KRd tm tm2 ∧ RZk rz rz2
  | 0, j, g, tm, rz, h1, h2, hx, C, L => by
    obtain ⟨g, rfl⟩ : ∃ g', g = g' + 1 := ⟨g - 1, by omega⟩
    have ej : j = n := by omega
    subst ej
    have hq := H.q8
    have Bn := trj_bd (R := mo.2.1) (rl := rl) (He := He) (Hd := Hd) (cn := cn) (mi := mi) H B j
    have i4 := ib_n (n := 4) hc4 (by decide)
    refine ⟨tm, rz, ?_, KRd.rf, RZk.rf⟩
    rw [lp_S, b_X8_playTwo_63]
    unfold b_X8_playTwo_139 b_X8_playTwo_168 rsF
    dsimp only
    rw [if_pos (nI_le (Nat.le_refl _) (by omega)), st_c H C Bn ha, bd_some, st_c H C Bn hb, bd_some, bd_some]
    simp only [if_pos i4]
    rw [nI_clamp (show c < 2 ^ 31 by omega)]
    by_cases za : bS (trj mo.2.1 rl He Hd h cn S D mi j).2 a
    · rw [if_pos (stt_2.mpr za), if_pos za]
      by_cases zb : bS (trj mo.2.1 rl He Hd h cn S D mi j).2 b
      · rw [if_pos (stt_2.mpr zb), if_pos zb]
      · rw [if_neg (fun z => zb (stt_2.mp z)), if_neg zb]
    · rw [if_neg (fun z => za (stt_2.mp z)), if_neg za]
      by_cases zb : bS (trj mo.2.1 rl He Hd h cn S D mi j).2 b
      · rw [if_pos (stt_2.mpr zb), if_pos zb]
      · rw [if_neg (fun z => zb (stt_2.mp z)), if_neg zb]
  | r + 1, j, g, tm, rz, h1, h2, hx, C, L => by
    obtain ⟨g, rfl⟩ : ∃ g', g = g' + 1 := ⟨g - 1, by omega⟩
    obtain ⟨t2, rz2, e1, e2, e3, e4⟩ := pass1 (F := F) (k := j) H hc hF hx B C L
    have B2 := trj_bd (R := mo.2.1) (rl := rl) (He := He) (Hd := Hd) (cn := cn) (mi := mi) H B (j + 1)
    obtain ⟨t3, rz3, f1, f2, f3⟩ := tw_loop H hc hF hn B ha hb hc4 r (j + 1) g t2 rz2 (by omega) (by omega) (hx.kz e4) e2 (L.kr e3)
    refine ⟨t3, rz3, ?_, e3.tr f2, e4.tr f3⟩
    rw [lp_S, b_X8_playTwo_63]
    dsimp only
    rw [if_neg (nI_ge (by omega) (by omega)), e1, bd_some]
    dsimp only
    rw [c_worth H hc e2 B2 ha, bd_some, c_worth H hc e2 B2 hb, bd_some, nI_1]
    exact f1
theorem or_lt8 {A C : Nat} (h1 : A < 256) (h2 : C < 256) : A ||| C < 256 := or_lt (q := 8) h1 h2
theorem p2_8 {a : Nat} (h : a < 8) : 2 ^ a < 256 := show 2 ^ a < 2 ^ 8 from Nat.pow_lt_pow_right (by decide) h
theorem hd_8 {a b c : Nat} (ha : a < 8) (hb : b < 8) (hc : c < 4) : c / 2 * 2 ^ a < 256 ∧ c % 2 * 2 ^ b < 256 ∧ heM a b < 256 ∧ hdM a b c < 256 := by
  have pa := p2_8 ha
  have pb := p2_8 hb
  have h1 : c / 2 * 2 ^ a < 256 := by
    have : c / 2 * 2 ^ a ≤ 1 * 2 ^ a := Nat.mul_le_mul_right _ (by omega)
    omega
  have h2 : c % 2 * 2 ^ b < 256 := by
    have : c % 2 * 2 ^ b ≤ 1 * 2 ^ b := Nat.mul_le_mul_right _ (by omega)
    omega
  exact ⟨h1, h2, or_lt8 pa pb, or_lt8 h1 h2⟩
theorem c_two {a b c n : Nat} {xpr xqr : Nat → Int32} (H : HOK h) (hc : ∀ k, k < h.1 1 → cn k ≤ 99) (C : CDd h cn S D mi rm) (B : BDd (h.1 3) S D) (hF : 600 ≤ F) (hn : n ≤ 20) (ha : a < h.1 3) (hb : b < h.1 3) (hc4 : c < 4) (hw : Rw (rm.2.1 4) 4 99) (hri : f_X8_ruleInForce F xi xrr si = some e) (hx : RLx rl e rz mo) : ∃ t2 rz2, f_X8_playTwo F (nI a) (nI b) (nI n) (nI c) xi xrr si rm tm xpr xqr rz = some (t2, upd xpr c (rsF mo.2.1 rl (heM a b) (hdM a b c) h cn S D mi n a), upd xqr c (rsF mo.2.1 rl (heM a b) (hdM a b c) h cn S D mi n b), rz2) ∧ RZk rz rz2 ∧ Rw (t2.2.1 4) 4 99 := by
  have hq := H.q8
  obtain ⟨p1, p2, p3, p4⟩ := hd_8 (a := a) (b := b) (c := c) (by omega) (by omega) hc4
  obtain ⟨t0, a1, a2, a3, a4, a5⟩ := s_copyFrom (F := F) (rm := tm) H C
  have C0 : CDd h cn S D mi (uF (uF t0.1 15 (nI (heM a b))) 16 (nI (hdM a b c)), t0.2.1, t0.2.2) := a2
  obtain ⟨t1, rz1, b1, b2, b3⟩ := tw_loop (F := F) (rm := rm) (xi := xi) (si := si) (xrr := xrr) (xpr := xpr) (xqr := xqr) (He := heM a b) (Hd := hdM a b c) H hc hF hn B ha hb hc4 n 0 F _ rz (by omega) (by omega) hx C0 ⟨rfl, by omega, by omega, fun _ _ => rfl⟩
  refine ⟨t1, rz1, ?_, b3, fun j hj => ?_⟩
  · unfold f_X8_playTwo
    rw [hri, bd_some, a1, bd_some, n_shl (show a < 31 by omega), n_shl (show b < 31 by omega), n_or, show nI c >>> ((1 : Int32) &&& 31) = nI (c / 2) from pk_shrN (by omega) (1 &&& 31) 1 (by decide), show nI c &&& 1 = nI (c % 2) from pk_andN (by omega) 1 (by decide), pk_shlN (nI a &&& 31) a (rb_l a (by omega)) (by omega), pk_shlN (nI b &&& 31) b (rb_l b (by omega)) (by omega), n_or]
    exact b1
  · rw [b2.2.1 4 (by decide) (by decide)]
    exact (Rw.cp (tm := tm) hw a5) j hj
/-! the reference's plays -/
noncomputable def KWd (c : Nat) (mo w : OB) : Prop := w.1 = mo.1 ∧ (∀ j, j ≠ 3 → j ≠ 1 → j ≠ 45 → j ≠ 46 → w.2.1 j = mo.2.1 j) ∧ (∀ j, j ≠ 4 → w.2.1 1 j = mo.2.1 1 j) ∧ (∀ j, j ≠ 36 → j ≠ 37 → w.2.2 j = mo.2.2 j) ∧ (∀ j, j ≠ c → w.2.1 45 j = mo.2.1 45 j) ∧ ∀ j, j ≠ c → w.2.1 46 j = mo.2.1 46 j
theorem KWd.tr {c : Nat} {x y z : OB} (h1 : KWd c x y) (h2 : KWd c y z) : KWd c x z := ⟨h2.1.trans h1.1, fun j p q r s => (h2.2.1 j p q r s).trans (h1.2.1 j p q r s), fun j p => (h2.2.2.1 j p).trans (h1.2.2.1 j p), fun j p q => (h2.2.2.2.1 j p q).trans (h1.2.2.2.1 j p q), fun j p => (h2.2.2.2.2.1 j p).trans (h1.2.2.2.2.1 j p), fun j p => (h2.2.2.2.2.2 j p).trans (h1.2.2.2.2.2 j p)⟩
theorem KGd.w {c : Nat} {x y : OB} (k : KGd x y) : KWd c x y := ⟨k.1, fun j p q _ _ => k.2.1 j p q, k.2.2.1, k.2.2.2, fun j _ => congrFun (k.2.1 45 (by decide) (by decide)) j, fun j _ => congrFun (k.2.1 46 (by decide) (by decide)) j⟩
theorem KWd.set {c : Nat} {w : OB} {x y : Int32} : KWd c w (w.1, uF (uF w.2.1 45 (upd (w.2.1 45) c x)) 46 (upd (w.2.1 46) c y), w.2.2) := ⟨rfl, fun j _ _ r s => (uF_n s).trans (uF_n r), fun _ _ => rfl, fun _ _ _ => rfl, fun j p => by
  show upd (w.2.1 45) c x j = w.2.1 45 j
  exact pk_un p, fun j p => by
  show upd (w.2.1 46) c y j = w.2.1 46 j
  exact pk_un p⟩
theorem rr_loop {R : Nat → Nat → Int32} {K : (Int32 × Int32 × Int32 × Int32 × OB) → Option OB} {a b c n He Hd : Nat} (H : HOK h) (hc : ∀ k, k < h.1 1 → cn k ≤ 99) (hF : 600 ≤ F) (hn : n ≤ 20) (B : BDd (h.1 3) S D) (ha : a < h.1 3) (hb : b < h.1 3) (hc4 : c < 4) : ∀ (r j g : Nat) (w : OB), j + r = n → r < g → MDd h cn (trj R rl He Hd h cn S D mi j).1 (trj R rl He Hd h cn S D mi j).2 (mi + j) w → FIn rl w → Mus (h.1 3) He Hd w → (∀ j, 29 ≤ j → j ≤ 34 → w.2.1 j = R j) → w.2.1 45 c = rsP R rl He Hd h cn S D mi a j → w.2.1 46 c = rsP R rl He Hd h cn S D mi b j → ∃ w2, lp (b_X9_laysWays_52 F K) g (nI a, nI b, nI n, nI c, nI j, w) = Option.bind (f_X9_laysBack F w2) (fun q2 => K (nI a, nI b, nI n, nI c + 1, q2)) ∧ KWd c w w2 ∧ w2.2.1 45 c = rsF R rl He Hd h cn S D mi n a ∧ w2.2.1 46 c = rsF R rl He Hd h cn S D mi n b
  | 0, j, g, w, h1, h2, M, f, m, hR, v5, v6 => by
    obtain ⟨g, rfl⟩ : ∃ g', g = g' + 1 := ⟨g - 1, by omega⟩
    have ej : j = n := by omega
    subst ej
    have hq := H.q8
    have i4 := ib_n (n := 4) hc4 (by decide)
    have ia := ib_n (n := 8) (show a < 8 by omega) (by decide)
    have ib' := ib_n (n := 8) (show b < 8 by omega) (by decide)
    have ra : rsF R rl He Hd h cn S D mi j a = w.2.1 45 c - (if bS (trj R rl He Hd h cn S D mi j).2 a then 10 else 0) := by
      unfold rsF
      by_cases z : bS (trj R rl He Hd h cn S D mi j).2 a
      · rw [if_pos z, if_pos z, v5]
      · rw [if_neg z, if_neg z, v5, Int32.sub_zero]
    have rb : rsF R rl He Hd h cn S D mi j b = w.2.1 46 c - (if bS (trj R rl He Hd h cn S D mi j).2 b then 10 else 0) := by
      unfold rsF
      by_cases z : bS (trj R rl He Hd h cn S D mi j).2 b
      · rw [if_pos z, if_pos z, v6]
      · rw [if_neg z, if_neg z, v6, Int32.sub_zero]
    refine ⟨(w.1, uF (uF w.2.1 45 (upd (w.2.1 45) c (rsF R rl He Hd h cn S D mi j a))) 46 (upd (w.2.1 46) c (rsF R rl He Hd h cn S D mi j b)), w.2.2), ?_, KWd.set, pk_us, pk_us⟩
    rw [lp_S, b_X9_laysWays_52]
    unfold b_X9_laysWays_123 b_X9_laysWays_149
    dsimp only
    rw [if_pos (nI_le (Nat.le_refl _) (by omega))]
    simp only [if_pos i4, if_pos ia, if_pos ib']
    rw [nI_clamp (show a < 2 ^ 31 by omega), nI_clamp (show b < 2 ^ 31 by omega), nI_clamp (show c < 2 ^ 31 by omega), M.2.2.2 a ha, M.2.2.2 b hb, ra, rb]
    by_cases za : bS (trj R rl He Hd h cn S D mi j).2 a
    · rw [if_pos (stt_2.mpr za), if_pos za]
      by_cases zb : bS (trj R rl He Hd h cn S D mi j).2 b
      · rw [if_pos (stt_2.mpr zb), if_pos zb]
        rfl
      · rw [if_neg (fun z => zb (stt_2.mp z)), if_neg zb]
        rfl
    · rw [if_neg (fun z => za (stt_2.mp z)), if_neg za]
      by_cases zb : bS (trj R rl He Hd h cn S D mi j).2 b
      · rw [if_pos (stt_2.mpr zb), if_pos zb]
        rfl
      · rw [if_neg (fun z => zb (stt_2.mp z)), if_neg zb]
        rfl
  | r + 1, j, g, w, h1, h2, M, f, m, hR, v5, v6 => by
    obtain ⟨g, rfl⟩ : ∃ g', g = g' + 1 := ⟨g - 1, by omega⟩
    have hq := H.q8
    have i4 := ib_n (n := 4) hc4 (by decide)
    obtain ⟨w1, e1, e2, e3⟩ := go1 (F := F) H hc hF B M f m hR
    have B2 := trj_bd (R := R) (rl := rl) (He := He) (Hd := Hd) (cn := cn) (mi := mi) H B (j + 1)
    have r45 : w1.2.1 45 = w.2.1 45 := e3.2.1 45 (by decide) (by decide)
    have r46 : w1.2.1 46 = w.2.1 46 := e3.2.1 46 (by decide) (by decide)
    have M1 : MDd h cn (trj R rl He Hd h cn S D mi (j + 1)).1 (trj R rl He Hd h cn S D mi (j + 1)).2 (mi + (j + 1)) (w1.1, uF w1.2.1 45 (upd (w1.2.1 45) c (w1.2.1 45 c + wrt h cn (trj R rl He Hd h cn S D mi (j + 1)).1 a)), w1.2.2) := e2
    obtain ⟨w2, hw2⟩ : ∃ w2 : OB, w2 = (w1.1, uF (uF w1.2.1 45 (upd (w1.2.1 45) c (w1.2.1 45 c + wrt h cn (trj R rl He Hd h cn S D mi (j + 1)).1 a))) 46 (upd (w1.2.1 46) c (w1.2.1 46 c + wrt h cn (trj R rl He Hd h cn S D mi (j + 1)).1 b)), w1.2.2) := ⟨_, rfl⟩
    have k2 : KWd c w1 w2 := by
      rw [hw2]
      exact KWd.set
    have M2 : MDd h cn (trj R rl He Hd h cn S D mi (j + 1)).1 (trj R rl He Hd h cn S D mi (j + 1)).2 (mi + (j + 1)) w2 := by
      rw [hw2]
      exact e2
    have f2 : FIn rl w2 := by
      rw [hw2]
      have z := f.kg e3
      exact z
    have m2 : Mus (h.1 3) He Hd w2 := by
      rw [hw2]
      have z := m.kg e3
      exact z
    have v5' : w2.2.1 45 c = rsP R rl He Hd h cn S D mi a (j + 1) := by
      rw [hw2]
      show upd (w1.2.1 45) c (w1.2.1 45 c + wrt h cn (trj R rl He Hd h cn S D mi (j + 1)).1 a) c = _
      rw [pk_us, r45, v5]
      rfl
    have v6' : w2.2.1 46 c = rsP R rl He Hd h cn S D mi b (j + 1) := by
      rw [hw2]
      show upd (w1.2.1 46) c (w1.2.1 46 c + wrt h cn (trj R rl He Hd h cn S D mi (j + 1)).1 b) c = _
      rw [pk_us, r46, v6]
      rfl
    obtain ⟨w3, g1, g2, g3, g4⟩ := rr_loop H hc hF hn B ha hb hc4 r (j + 1) g w2 (by omega) (by omega) M2 f2 m2 (fun i p q => (k2.2.1 i (by omega) (by omega) (by omega) (by omega)).trans ((e3.2.1 i (by omega) (by omega)).trans (hR i p q))) v5' v6'
    refine ⟨w3, ?_, (e3.w.tr k2).tr g2, g3, g4⟩
    rw [lp_S, b_X9_laysWays_52]
    dsimp only
    rw [if_neg (nI_ge (by omega) (by omega)), e1, bd_some]
    dsimp only
    rw [if_pos i4, r_earns H hc e2 B2 ha hF, bd_some, nI_clamp (show c < 2 ^ 31 by omega), r_earns H hc M1 B2 hb hF, bd_some, nI_1, ← hw2]
    exact g1
/-- where the reference stands ahead of a play -/
noncomputable def RVd (a b : Nat) (PA PB : Nat → Int32) (c : Nat) (mo w : OB) : Prop := QKd mo (w.1, uF w.2.1 38 (mo.2.1 38), w.2.2) ∧ BLK mo w ∧ (∀ j, j ≠ a → j ≠ b → w.2.1 38 j = mo.2.1 38 j) ∧ ∀ i, i < c → w.2.1 45 i = PA i ∧ w.2.1 46 i = PB i
theorem rw_loop {a b n : Nat} (H : HOK h) (hc : ∀ k, k < h.1 1 → cn k ≤ 99) (M : MDd h cn S D mi mo) (B : BDd (h.1 3) S D) (hF : 600 ≤ F) (hn : n ≤ 20) (ha : a < h.1 3) (hb : b < h.1 3) (hab : a ≠ b) (hf : FIn rl mo) (hmu : Mus (h.1 3) 0 0 mo) : ∀ (r c g : Nat) (w : OB), c + r = 4 → r < g → RVd a b (fun i => rsF mo.2.1 rl (heM a b) (hdM a b i) h cn S D mi n a) (fun i => rsF mo.2.1 rl (heM a b) (hdM a b i) h cn S D mi n b) c mo w → ∃ w2, lp (b_X9_laysWays_7 F) g (nI a, nI b, nI n, nI c, w) = some w2 ∧ QKd mo w2 ∧ ∀ i, i < 4 → w2.2.1 45 i = rsF mo.2.1 rl (heM a b) (hdM a b i) h cn S D mi n a ∧ w2.2.1 46 i = rsF mo.2.1 rl (heM a b) (hdM a b i) h cn S D mi n b
  | 0, c, g, w, h1, h2, V => by
    obtain ⟨g, rfl⟩ : ∃ g', g = g' + 1 := ⟨g - 1, by omega⟩
    have ec : c = 4 := by omega
    subst ec
    have hq := H.q8
    obtain ⟨Q, K, V8, V4⟩ := V
    have z38 : ∀ k, k < h.1 3 → mo.2.1 38 k = -1 := fun k hk => by
      rw [hmu k hk, if_neg (bS_0 k)]
    refine ⟨(w.1, uF w.2.1 38 (upd (upd (w.2.1 38) a (-1)) b (-1)), w.2.2), ?_, ⟨Q.1, fun j hj => ?_, Q.2.2.1, Q.2.2.2.1, fun j i p q r => ?_, fun i hi => ?_, Q.2.2.2.2.2.2⟩, V4⟩
    · rw [lp_S, b_X9_laysWays_7]
      dsimp only
      rw [if_pos (show (4 : Int32) ≤ nI 4 by decide), if_pos (ib_n (show a < 8 by omega) (by decide)), if_pos (ib_n (show b < 8 by omega) (by decide)), nI_clamp (show a < 2 ^ 31 by omega), nI_clamp (show b < 2 ^ 31 by omega)]
    · have q := Q.2.1 j hj
      have q : uF w.2.1 38 (mo.2.1 38) j = mo.2.1 j := q
      rw [uF_n (by omega)] at q
      show uF w.2.1 38 _ j = _
      rw [uF_n (by omega)]
      exact q
    · have s := Q.2.2.2.2.1 j i p q r
      have s : uF w.2.1 38 (mo.2.1 38) j i = mo.2.1 j i := s
      rw [uF_n (by omega)] at s
      show uF w.2.1 38 _ j i = _
      rw [uF_n (by omega)]
      exact s
    · show upd (upd (w.2.1 38) a (-1)) b (-1) i = _
      by_cases zb : i = b
      · rw [zb, pk_us, z38 b hb]
      · rw [pk_un zb]
        by_cases za : i = a
        · rw [za, pk_us, z38 a ha]
        · rw [pk_un za]
          exact V8 i za zb
  | r + 1, c, g, w, h1, h2, V => by
    obtain ⟨g, rfl⟩ : ∃ g', g = g' + 1 := ⟨g - 1, by omega⟩
    have hc4 : c < 4 := by omega
    have hq := H.q8
    obtain ⟨Q, K, V8, V4⟩ := V
    have z38 : ∀ k, k < h.1 3 → mo.2.1 38 k = -1 := fun k hk => by
      rw [hmu k hk, if_neg (bS_0 k)]
    have d1 : nI c / 2 = nI (c / 2) := n_dv (b := 2) (by omega) (by decide) (by decide)
    have d2 : nI c - nI c / 2 * 2 = nI (c % 2) := n_rem (b := 2) (by omega) (by decide) (by decide)
    obtain ⟨w0, hw0⟩ : ∃ w0 : OB, w0 = (w.1, uF (uF (uF w.2.1 38 (upd (upd (w.2.1 38) a (nI (c / 2))) b (nI (c % 2)))) 45 (upd (w.2.1 45) c 0)) 46 (upd (w.2.1 46) c 0), w.2.2) := ⟨_, rfl⟩
    have M0 : MDd h cn S D mi w0 := by
      rw [hw0]
      have z := M.q H Q
      exact z
    have f0 : FIn rl w0 := by
      rw [hw0]
      have z := hf.q Q
      exact z
    have row0 : ∀ j, j ≠ 38 → j ≠ 45 → j ≠ 46 → w0.2.1 j = w.2.1 j := fun j p q r => by
      rw [hw0]
      show uF (uF (uF w.2.1 38 _) 45 _) 46 _ j = w.2.1 j
      rw [uF_n r, uF_n q, uF_n p]
    have Qr : ∀ j, j ≠ 38 → (j = 0 ∨ (5 < j ∧ j < 38) ∨ (38 < j ∧ j < 44) ∨ j = 50) → w.2.1 j = mo.2.1 j := fun j p q => by
      have s := Q.2.1 j q
      have s : uF w.2.1 38 (mo.2.1 38) j = mo.2.1 j := s
      rw [uF_n p] at s
      exact s
    have m0 : Mus (h.1 3) (heM a b) (hdM a b c) w0 := fun k hk => by
      rw [hw0]
      show upd (upd (w.2.1 38) a (nI (c / 2))) b (nI (c % 2)) k = _
      by_cases zb : k = b
      · subst zb
        rw [pk_us, if_pos (bS_he.mpr (Or.inr rfl))]
        by_cases y : c % 2 = 1
        · rw [if_pos ((bS_hd hc4).mpr (Or.inr ⟨rfl, y⟩)), y]
          rfl
        · rw [if_neg (show ¬ bS (hdM a k c) k from fun z => by
            rcases (bS_hd hc4).mp z with u | u
            · exact hab u.1.symm
            · exact y u.2), show c % 2 = 0 by omega]
          rfl
      · rw [pk_un zb]
        by_cases za : k = a
        · subst za
          rw [pk_us, if_pos (bS_he.mpr (Or.inl rfl))]
          by_cases y : c / 2 = 1
          · rw [if_pos ((bS_hd hc4).mpr (Or.inl ⟨rfl, y⟩)), y]
            rfl
          · rw [if_neg (show ¬ bS (hdM k b c) k from fun z => by
              rcases (bS_hd hc4).mp z with u | u
              · exact y u.2
              · exact zb u.1), show c / 2 = 0 by omega]
            rfl
        · rw [pk_un za, if_neg (show ¬ bS (heM a b) k from fun z => by
            rcases bS_he.mp z with u | u
            · exact za u
            · exact zb u), V8 k za zb]
          exact z38 k hk
    have v5 : w0.2.1 45 c = 0 := by
      rw [hw0]
      exact pk_us
    have v6 : w0.2.1 46 c = 0 := by
      rw [hw0]
      exact pk_us
    obtain ⟨w1, b1, b2, b3, b4⟩ := rr_loop (F := F) (R := mo.2.1) (K := lp (b_X9_laysWays_7 F) g) (He := heM a b) (Hd := hdM a b c) H hc hF hn B ha hb hc4 n 0 F w0 (by omega) (by omega) M0 f0 m0 (fun j p q => (row0 j (by omega) (by omega) (by omega)).trans (Qr j (by omega) (by omega))) v5 v6
    have r49 : w1.2.1 49 = w.2.1 49 := (b2.2.1 49 (by decide) (by decide) (by decide) (by decide)).trans (row0 49 (by decide) (by decide) (by decide))
    have K1 : BLK mo w1 := by
      unfold BLK
      rw [r49]
      exact K
    obtain ⟨w2, c1, c2, c3⟩ := s_laysBack (F := F) hF K1
    have i1 : w1.1 = w.1 := by
      rw [b2.1, hw0]
    have e38 : w2.2.1 38 = upd (upd (w.2.1 38) a (nI (c / 2))) b (nI (c % 2)) := by
      rw [c2.2.1 38 (by omega), b2.2.1 38 (by decide) (by decide) (by decide) (by decide), hw0]
      rfl
    have V2 : RVd a b (fun i => rsF mo.2.1 rl (heM a b) (hdM a b i) h cn S D mi n a) (fun i => rsF mo.2.1 rl (heM a b) (hdM a b i) h cn S D mi n b) (c + 1) mo w2 := by
      refine ⟨⟨fun j p q => ?_, fun j hj => ?_, fun i hi => c2.2.2.1 i hi, fun i hi => c2.2.2.2.1 i hi, fun j i p q r => ?_, fun _ _ => rfl, fun i hi => ?_⟩, c3, fun j za zb => ?_, fun i hi => ?_⟩
      · show w2.1 j = mo.1 j
        rw [c2.1 j p q, i1]
        exact Q.1 j p q
      · have n38 : j ≠ 38 := by omega
        show uF w2.2.1 38 (mo.2.1 38) j = mo.2.1 j
        rw [uF_n n38, c2.2.1 j (by omega), b2.2.1 j (by omega) (by omega) (by omega) (by omega), row0 j n38 (by omega) (by omega)]
        exact Qr j n38 hj
      · have n38 : j ≠ 38 := by omega
        show uF w2.2.1 38 (mo.2.1 38) j i = mo.2.1 j i
        rw [uF_n n38]
        rcases (show j = 3 ∨ j = 4 ∨ j = 5 by omega) with z | z | z <;> subst z
        · exact c2.2.2.2.2.1 i r
        · exact c2.2.2.2.2.2.1 i r
        · exact c2.2.2.2.2.2.2.1 i r
      · show w2.2.1 49 i = mo.2.1 49 i
        rw [c2.2.1 49 (by omega), r49]
        exact Q.2.2.2.2.2.2 i hi
      · rw [e38, pk_un zb, pk_un za]
        exact V8 j za zb
      · rw [c2.2.1 45 (by omega), c2.2.1 46 (by omega)]
        by_cases z : i = c
        · rw [z]
          exact ⟨b3, b4⟩
        · rw [b2.2.2.2.2.1 i z, b2.2.2.2.2.2 i z, hw0]
          have u := V4 i (by omega)
          exact ⟨(pk_un z).trans u.1, (pk_un z).trans u.2⟩
    obtain ⟨w3, g1, g2, g3⟩ := rw_loop H hc M B hF hn ha hb hab hf hmu r (c + 1) g w2 (by omega) (by omega) V2
    refine ⟨w3, ?_, g2, g3⟩
    rw [lp_S, b_X9_laysWays_7]
    dsimp only
    rw [if_neg (show ¬ (4 : Int32) ≤ nI c from nI_ge (a := c) (b := 4) hc4 (by decide)), if_pos (ib_n (show a < 8 by omega) (by decide)), if_pos (ib_n (show b < 8 by omega) (by decide)), if_pos (ib_n hc4 (by decide)), nI_clamp (show a < 2 ^ 31 by omega), nI_clamp (show b < 2 ^ 31 by omega), nI_clamp (show c < 2 ^ 31 by omega), d2, d1, ← hw0]
    refine b1.trans ?_
    rw [c1, bd_some, nI_1]
    exact g1
/-! which rests -/
noncomputable def p_ (x y : Nat → Int32) (c c1 c2 : Nat) : Bool := decide (¬ x c < x c2 ∧ ¬ y c < y c1)
theorem step91 {what m f : Int32} {c c1 c2 g : Nat} {xpr xqr : Nat → Int32} (hc : c < 4) (h1 : c1 < 4) (h2 : c2 < 4) (e1 : nI c ^^^ 1 = nI c1) (e2 : nI c ^^^ 2 = nI c2) : lp (b_X8_rests_91 F xi xrr si rm) (g + 1) (what, m, f, nI c, tm, xpr, xqr, rz) = lp (b_X8_rests_91 F xi xrr si rm) g (what, (if p_ xpr xqr c c1 c2 = true then m + 1 else m), (if p_ xpr xqr c c1 c2 = true then nI c else f), nI c + (-1), tm, xpr, xqr, rz) := by
  rw [lp_S, b_X8_rests_91]
  unfold b_X8_rests_141
  dsimp only
  rw [if_neg (nI_pos (by omega)), if_pos (ib_n hc (by decide)), e2, if_pos (ib_n h2 (by decide)), e1, nI_clamp (show c < 2 ^ 31 by omega), nI_clamp (show c1 < 2 ^ 31 by omega), nI_clamp (show c2 < 2 ^ 31 by omega)]
  by_cases u : xpr c < xpr c2
  · have hp : ¬ p_ xpr xqr c c1 c2 = true := by
      unfold p_
      rw [decide_eq_true_eq]
      exact fun z => z.1 u
    rw [if_pos u, if_neg hp, if_neg hp]
  · rw [if_neg u, if_pos (ib_n h1 (by decide))]
    by_cases v : xqr c < xqr c1
    · have hp : ¬ p_ xpr xqr c c1 c2 = true := by
        unfold p_
        rw [decide_eq_true_eq]
        exact fun z => z.2 v
      rw [if_pos v, if_neg hp, if_neg hp]
    · have hp : p_ xpr xqr c c1 c2 = true := decide_eq_true ⟨u, v⟩
      rw [if_neg v, if_pos hp, if_pos hp]
theorem step84 {what m f : Int32} {c c1 c2 g : Nat} {w : OB} (hc : c < 4) (h1 : c1 < 4) (h2 : c2 < 4) (e1 : nI c ^^^ 1 = nI c1) (e2 : nI c ^^^ 2 = nI c2) : lp (b_X9_rests_84 F) (g + 1) (what, m, f, nI c, w) = lp (b_X9_rests_84 F) g (what, (if p_ (w.2.1 45) (w.2.1 46) c c1 c2 = true then m + 1 else m), (if p_ (w.2.1 45) (w.2.1 46) c c1 c2 = true then (if m = 0 then nI c else f) else f), nI c + 1, w) := by
  rw [lp_S, b_X9_rests_84]
  unfold b_X9_rests_140 b_X9_rests_145
  dsimp only
  rw [if_neg (show ¬ (4 : Int32) ≤ nI c from nI_ge (a := c) (b := 4) hc (by decide)), e2, if_pos (ib_n h2 (by decide)), if_pos (ib_n hc (by decide)), e1, nI_clamp (show c < 2 ^ 31 by omega), nI_clamp (show c1 < 2 ^ 31 by omega), nI_clamp (show c2 < 2 ^ 31 by omega)]
  by_cases u : w.2.1 45 c < w.2.1 45 c2
  · have hp : ¬ p_ (w.2.1 45) (w.2.1 46) c c1 c2 = true := by
      unfold p_
      rw [decide_eq_true_eq]
      exact fun z => z.1 u
    rw [if_pos u, if_neg hp, if_neg hp]
  · rw [if_neg u, if_pos (ib_n h1 (by decide))]
    by_cases v : w.2.1 46 c < w.2.1 46 c1
    · have hp : ¬ p_ (w.2.1 45) (w.2.1 46) c c1 c2 = true := by
        unfold p_
        rw [decide_eq_true_eq]
        exact fun z => z.2 v
      rw [if_pos v, if_neg hp, if_neg hp]
    · have hp : p_ (w.2.1 45) (w.2.1 46) c c1 c2 = true := decide_eq_true ⟨u, v⟩
      rw [if_neg v, if_pos hp, if_pos hp]
      by_cases z : m = 0
      · rw [if_pos z, if_pos z]
      · rw [if_neg z, if_neg z]
noncomputable def m1_ (b : Bool) (m : Int32) : Int32 := if b = true then m + 1 else m
noncomputable def f1_ (b : Bool) (c : Nat) (f : Int32) : Int32 := if b = true then nI c else f
noncomputable def g1_ (b : Bool) (c : Nat) (m f : Int32) : Int32 := if b = true then (if m = 0 then nI c else f) else f
theorem fin_16 : ∀ b0 b1 b2 b3 : Bool, m1_ b0 (m1_ b1 (m1_ b2 (m1_ b3 0))) = m1_ b3 (m1_ b2 (m1_ b1 (m1_ b0 0))) ∧ f1_ b0 0 (f1_ b1 1 (f1_ b2 2 (f1_ b3 3 (-1)))) = g1_ b3 3 (m1_ b2 (m1_ b1 (m1_ b0 0))) (g1_ b2 2 (m1_ b1 (m1_ b0 0)) (g1_ b1 1 (m1_ b0 0) (g1_ b0 0 0 (-1)))) ∧ (f1_ b0 0 (f1_ b1 1 (f1_ b2 2 (f1_ b3 3 (-1)))) = -1 ∨ (f1_ b0 0 (f1_ b1 1 (f1_ b2 2 (f1_ b3 3 (-1)))) >>> ((1 : Int32) &&& 31) = f1_ b0 0 (f1_ b1 1 (f1_ b2 2 (f1_ b3 3 (-1)))) / 2 ∧ f1_ b0 0 (f1_ b1 1 (f1_ b2 2 (f1_ b3 3 (-1)))) &&& 1 = f1_ b0 0 (f1_ b1 1 (f1_ b2 2 (f1_ b3 3 (-1)))) - f1_ b0 0 (f1_ b1 1 (f1_ b2 2 (f1_ b3 3 (-1)))) / 2 * 2)) := by decide +kernel
noncomputable def rsR (what m f : Int32) : Int32 := if what = 0 then m else if f = -1 then -2 else if what = 1 then f / 2 else f - f / 2 * 2
/-- both look through the four ways -/
theorem rs_end {what : Int32} {xpr xqr : Nat → Int32} {w : OB} (hF : 600 ≤ F) (hA : ∀ i, i < 4 → xpr i = w.2.1 45 i ∧ xqr i = w.2.1 46 i) : ∃ r, lp (b_X8_rests_91 F xi xrr si rm) F (what, 0, -1, 3, tm, xpr, xqr, rz) = some (r, tm, xpr, xqr, rz) ∧ lp (b_X9_rests_84 F) F (what, 0, -1, 0, w) = some (r, w) := by
  obtain ⟨G, rfl⟩ : ∃ G, F = G + 1 + 1 + 1 + 1 + 1 := ⟨F - 5, by omega⟩
  have pc : ∀ c c1 c2, c < 4 → c1 < 4 → c2 < 4 → p_ (w.2.1 45) (w.2.1 46) c c1 c2 = p_ xpr xqr c c1 c2 := fun c c1 c2 u v z => by
    unfold p_
    rw [(hA c u).1, (hA c2 z).1, (hA c u).2, (hA c1 v).2]
  have c3 := step91 (F := G + 1 + 1 + 1 + 1 + 1) (rm := rm) (tm := tm) (rz := rz) (xi := xi) (si := si) (xrr := xrr) (what := what) (m := 0) (f := -1) (c := 3) (c1 := 2) (c2 := 1) (g := G + 1 + 1 + 1 + 1) (xpr := xpr) (xqr := xqr) (by decide) (by decide) (by decide) (by decide) (by decide)
  rw [show nI 3 + (-1) = nI 2 from pk_m1 2, step91 (c := 2) (c1 := 3) (c2 := 0) (by decide) (by decide) (by decide) (by decide) (by decide), show nI 2 + (-1) = nI 1 from pk_m1 1, step91 (c := 1) (c1 := 0) (c2 := 3) (by decide) (by decide) (by decide) (by decide) (by decide), show nI 1 + (-1) = nI 0 from pk_m1 0, step91 (c := 0) (c1 := 1) (c2 := 2) (by decide) (by decide) (by decide) (by decide) (by decide), show nI 0 + (-1) = -1 from by decide] at c3
  have r0 := step84 (F := G + 1 + 1 + 1 + 1 + 1) (what := what) (m := 0) (f := -1) (c := 0) (c1 := 1) (c2 := 2) (g := G + 1 + 1 + 1 + 1) (w := w) (by decide) (by decide) (by decide) (by decide) (by decide)
  rw [nI_1, step84 (c := 0 + 1) (c1 := 0) (c2 := 3) (by decide) (by decide) (by decide) (by decide) (by decide), nI_1, step84 (c := 0 + 1 + 1) (c1 := 3) (c2 := 0) (by decide) (by decide) (by decide) (by decide) (by decide), nI_1, step84 (c := 0 + 1 + 1 + 1) (c1 := 2) (c2 := 1) (by decide) (by decide) (by decide) (by decide) (by decide), nI_1, pc 0 1 2 (by decide) (by decide) (by decide), pc (0 + 1) 0 3 (by decide) (by decide) (by decide), pc (0 + 1 + 1) 3 0 (by decide) (by decide) (by decide), pc (0 + 1 + 1 + 1) 2 1 (by decide) (by decide) (by decide)] at r0
  obtain ⟨k1, k2, k3⟩ := fin_16 (p_ xpr xqr 0 1 2) (p_ xpr xqr 1 0 3) (p_ xpr xqr 2 3 0) (p_ xpr xqr 3 2 1)
  have ce : ∀ m f : Int32, (f = -1 ∨ (f >>> ((1 : Int32) &&& 31) = f / 2 ∧ f &&& 1 = f - f / 2 * 2)) → lp (b_X8_rests_91 (G + 1 + 1 + 1 + 1 + 1) xi xrr si rm) (G + 1) (what, m, f, -1, tm, xpr, xqr, rz) = some (rsR what m f, tm, xpr, xqr, rz) := fun m f hf => by
    rw [lp_S, b_X8_rests_91]
    unfold b_X8_rests_181 rsR
    dsimp only
    rw [if_pos (show (-1 : Int32) < 0 by decide)]
    by_cases w0 : what = 0
    · rw [if_pos w0, if_pos w0]
    · rw [if_neg w0, if_neg w0]
      by_cases f0 : f = -1
      · rw [if_pos f0, if_pos f0]
      · rw [if_neg f0, if_neg f0]
        have hf := hf.resolve_left f0
        by_cases w1 : what = 1
        · rw [if_pos w1, if_pos w1, hf.1]
        · rw [if_neg w1, if_neg w1, hf.2]
  have re : ∀ m f : Int32, lp (b_X9_rests_84 (G + 1 + 1 + 1 + 1 + 1)) (G + 1) (what, m, f, nI (0 + 1 + 1 + 1 + 1), w) = some (rsR what m f, w) := fun m f => by
    rw [lp_S, b_X9_rests_84]
    unfold b_X9_rests_187 rsR
    dsimp only
    rw [if_pos (show (4 : Int32) ≤ nI (0 + 1 + 1 + 1 + 1) by decide)]
    by_cases w0 : what = 0
    · rw [if_pos w0, if_pos w0]
    · rw [if_neg w0, if_neg w0]
      by_cases f0 : f = -1
      · rw [if_pos f0, if_pos f0]
      · rw [if_neg f0, if_neg f0]
        by_cases w1 : what = 1
        · rw [if_pos w1, if_pos w1]
        · rw [if_neg w1, if_neg w1]
  refine ⟨rsR what (m1_ (p_ xpr xqr 0 1 2) (m1_ (p_ xpr xqr 1 0 3) (m1_ (p_ xpr xqr 2 3 0) (m1_ (p_ xpr xqr 3 2 1) 0)))) (f1_ (p_ xpr xqr 0 1 2) 0 (f1_ (p_ xpr xqr 1 0 3) 1 (f1_ (p_ xpr xqr 2 3 0) 2 (f1_ (p_ xpr xqr 3 2 1) 3 (-1))))), ?_, ?_⟩
  · exact c3.trans (ce _ _ k3)
  · refine r0.trans ((re _ _).trans ?_)
    rw [k1, k2]
    rfl
/-- the class's four plays -/
theorem rc_loop {a b n : Nat} {what : Int32} (H : HOK h) (hc : ∀ k, k < h.1 1 → cn k ≤ 99) (C : CDd h cn S D mi rm) (B : BDd (h.1 3) S D) (hF : 600 ≤ F) (hn : n ≤ 20) (ha : a < h.1 3) (hb : b < h.1 3) (hw : Rw (rm.2.1 4) 4 99) (hri : f_X8_ruleInForce F xi xrr si = some e) : ∀ (r c g : Nat) (tm : OB) (xpr xqr : Nat → Int32) (rz : Nat → OB), c + r = 4 → r < g → RLx rl e rz mo → (∀ i, i < c → xpr i = rsF mo.2.1 rl (heM a b) (hdM a b i) h cn S D mi n a ∧ xqr i = rsF mo.2.1 rl (heM a b) (hdM a b i) h cn S D mi n b) → ∃ (tm2 : OB) (xpr2 xqr2 : Nat → Int32) (rz2 : Nat → OB), lp (b_X8_rests_61 F xi xrr si rm) g (nI a, nI b, nI n, what, nI c, tm, xpr, xqr, rz) = lp (b_X8_rests_91 F xi xrr si rm) F (what, 0, -1, 3, tm2, xpr2, xqr2, rz2) ∧ (∀ i, i < 4 → xpr2 i = rsF mo.2.1 rl (heM a b) (hdM a b i) h cn S D mi n a ∧ xqr2 i = rsF mo.2.1 rl (heM a b) (hdM a b i) h cn S D mi n b) ∧ RZk rz rz2 ∧ (Rw (tm.2.1 4) 4 99 → Rw (tm2.2.1 4) 4 99)
  | 0, c, g, tm, xpr, xqr, rz, h1, h2, hx, V => by
    obtain ⟨g, rfl⟩ : ∃ g', g = g' + 1 := ⟨g - 1, by omega⟩
    have ec : c = 4 := by omega
    subst ec
    refine ⟨tm, xpr, xqr, rz, ?_, V, RZk.rf, fun z => z⟩
    rw [lp_S, b_X8_rests_61]
    dsimp only
    rw [if_pos (show (4 : Int32) ≤ nI 4 by decide)]
  | r + 1, c, g, tm, xpr, xqr, rz, h1, h2, hx, V => by
    obtain ⟨g, rfl⟩ : ∃ g', g = g' + 1 := ⟨g - 1, by omega⟩
    have hc4 : c < 4 := by omega
    obtain ⟨t1, rz1, b1, b2, b3⟩ := c_two (F := F) (tm := tm) (xpr := xpr) (xqr := xqr) (a := a) (b := b) (c := c) (n := n) H hc C B hF hn ha hb hc4 hw hri hx
    obtain ⟨t2, xp2, xq2, rz2, d1, d2, d3, d4⟩ := rc_loop (what := what) H hc C B hF hn ha hb hw hri r (c + 1) g t1 (upd xpr c (rsF mo.2.1 rl (heM a b) (hdM a b c) h cn S D mi n a)) (upd xqr c (rsF mo.2.1 rl (heM a b) (hdM a b c) h cn S D mi n b)) rz1 (by omega) (by omega) (hx.kz b2) (fun i hi => by
      by_cases z : i = c
      · rw [z, pk_us, pk_us]
        exact ⟨rfl, rfl⟩
      · rw [pk_un z, pk_un z]
        exact V i (by omega))
    refine ⟨t2, xp2, xq2, rz2, ?_, d2, b2.tr d3, fun _ => d4 b3⟩
    rw [lp_S, b_X8_rests_61]
    dsimp only
    rw [if_neg (show ¬ (4 : Int32) ≤ nI c from nI_ge (a := c) (b := 4) hc4 (by decide)), b1, bd_some, nI_1]
    exact d1
noncomputable def AskR (mo tm : OB) (rz : Nat → OB) (cl : Option (Int32 × OB × (Nat → Int32) × (Nat → Int32) × (Nat → OB))) (rr : Option (Int32 × OB)) : Prop := ∃ (r : Int32) (tm2 w : OB) (xpr2 xqr2 : Nat → Int32) (rz2 : Nat → OB), cl = some (r, tm2, xpr2, xqr2, rz2) ∧ rr = some (r, w) ∧ QKd mo w ∧ RZk rz rz2 ∧ (Rw (tm.2.1 4) 4 99 → Rw (tm2.2.1 4) 4 99)
theorem q_rests {x1 x2 x3 x4 : Int32} {xpr xqr : Nat → Int32} (H : HOK h) (hc : ∀ k, k < 4 → cn k ≤ 99) (C : CDd h cn S D mi rm) (M : MDd h cn S D mi mo) (B : BDd (h.1 3) S D) (hF : 600 ≤ F) (hw : Rw (rm.2.1 4) 4 99) (hri : f_X8_ruleInForce F xi xrr si = some e) (hx : RLx rl e rz mo) (hf : FIn rl mo) (hm : Mus (h.1 3) 0 0 mo) : AskR mo tm rz (f_X8_rests F x1 x2 x3 x4 xi xrr si rm tm xpr xqr rz) (f_X9_rests F x1 x2 x3 x4 mo) := by
  have hq := H.q8
  have hcs : ∀ k, k < h.1 1 → cn k ≤ 99 := fun k hk => hc k (by have := H.2.1; omega)
  have e1 := c_isUp (F := F) (x := x1) H C B
  have e2 := c_isUp (F := F) (x := x2) H C B
  have e3 := r_isSitter (F := F) (x := x1) H M.1
  have e4 := r_isSitter (F := F) (x := x2) H M.1
  have e5 := in_c (F := F) (x := x3) (a := 1) (b := 20) (la := 1) (lb := 20) (by decide) (by decide)
  have e6 := in_c (F := F) (x := x4) (a := 0) (b := 2) (la := 0) (lb := 2) (by decide) (by decide)
  have y1 : (1 : Int32).toInt = 1 := by decide
  have y2 : (2 : Int32).toInt = 2 := by decide
  have y20 : (20 : Int32).toInt = 20 := by decide
  by_cases c : (inR x1 (h.1 3) ∧ ¬ bS D (nat_ x1)) ∧ (inR x2 (h.1 3) ∧ ¬ bS D (nat_ x2)) ∧ ¬ x1 = x2 ∧ (1 ≤ x3.toInt ∧ x3.toInt ≤ 20) ∧ 0 ≤ x4.toInt ∧ x4.toInt ≤ 2
  · obtain ⟨c1, c2, c3, c4, c5⟩ := c
    obtain ⟨a, ha, rfl⟩ := ix_of c1.1
    obtain ⟨b, hb, rfl⟩ := ix_of c2.1
    obtain ⟨n, hnn, rfl⟩ := ix_of (n := 21) (x := x3) (by omega)
    have n1 : 1 ≤ n := by
      have := c4.1
      rw [nI_toInt (by omega)] at this
      omega
    have hab : a ≠ b := fun z => c3 (by rw [z])
    have da := c1.2
    have db := c2.2
    rw [(nat_n rfl (show a < 2 ^ 31 by omega)).1] at da
    rw [(nat_n rfl (show b < 2 ^ 31 by omega)).1] at db
    obtain ⟨t2, xp2, xq2, rz2, a1, a2, a3, a4⟩ := rc_loop (F := F) (mo := mo) (rl := rl) (a := a) (b := b) (n := n) (what := x4) H hcs C B hF (by omega) ha hb hw hri 4 0 F tm xpr xqr rz (by omega) (by omega) hx (fun i hi => absurd hi (Nat.not_lt_zero _))
    obtain ⟨w0, b1, b2, b3, b4⟩ := try_r (F := F) M hF
    have V0 : RVd a b (fun i => rsF mo.2.1 rl (heM a b) (hdM a b i) h cn S D mi n a) (fun i => rsF mo.2.1 rl (heM a b) (hdM a b i) h cn S D mi n b) 0 mo w0 := by
      have Q := b4.q
      refine ⟨⟨Q.1, fun j hj => ?_, Q.2.2.1, Q.2.2.2.1, fun j i p q r => ?_, fun _ _ => rfl, Q.2.2.2.2.2.2⟩, b3, fun j _ _ => congrFun (b4.2.1 38 (by decide)) j, fun i hi => absurd hi (Nat.not_lt_zero _)⟩
      · show uF w0.2.1 38 (mo.2.1 38) j = _
        rw [uF_n (by omega)]
        exact Q.2.1 j hj
      · show uF w0.2.1 38 (mo.2.1 38) j i = _
        rw [uF_n (by omega)]
        exact Q.2.2.2.2.1 j i p q r
    obtain ⟨w2, d1, d2, d3⟩ := rw_loop (F := F) (n := n) H hcs M B hF (by omega) ha hb hab hf hm 4 0 F w0 (by omega) (by omega) V0
    obtain ⟨r, g1, g2⟩ := rs_end (F := F) (what := x4) (xpr := xp2) (xqr := xq2) (w := w2) (tm := t2) (rz := rz2) (rm := rm) (xi := xi) (si := si) (xrr := xrr) hF (fun i hi => ⟨(a2 i hi).1.trans (d3 i hi).1.symm, (a2 i hi).2.trans (d3 i hi).2.symm⟩)
    refine ⟨r, t2, w2, xp2, xq2, rz2, ?_, ?_, d2, a3, a4⟩
    · unfold f_X8_rests
      rw [e1, bd_some, if_pos c1, if_neg (show ¬ (1 : Int32) = 0 by decide), e2, bd_some, if_pos c2, if_neg (show ¬ (1 : Int32) = 0 by decide), if_neg c3, if_neg (show ¬ nI n < 1 from nI_nlt (a := n) (b := 1) (by omega) (by omega)), if_neg (show ¬ (20 : Int32) < nI n from nI_nlt (a := 20) (b := n) (by omega) (by omega)), if_neg (show ¬ x4 < 0 from fun z => by rw [sp_lt, sp0] at z; omega), if_pos (show x4 ≤ 2 by rw [sp_le, y2]; omega)]
      exact a1.trans g1
    · have lw : f_X9_laysWays F (nI a) (nI b) (nI n) mo = some w2 := by
        unfold f_X9_laysWays
        rw [b1, bd_some]
        exact d1
      unfold f_X9_rests
      rw [e3, bd_some, if_pos c1.1, if_neg (show ¬ (1 : Int32) = 0 by decide), e4, bd_some, if_pos c2.1, if_neg (show ¬ (1 : Int32) = 0 by decide), if_neg c3, if_pos (ib_n (show a < 8 by omega) (by decide)), nI_clamp (show a < 2 ^ 31 by omega), M.2.2.2 a ha, if_neg (show ¬ nI (stt S D a) = 2 from fun z => da (stt_2.mp z)), if_pos (ib_n (show b < 8 by omega) (by decide)), nI_clamp (show b < 2 ^ 31 by omega), M.2.2.2 b hb, if_neg (show ¬ nI (stt S D b) = 2 from fun z => db (stt_2.mp z)), e5, bd_some, if_pos (show 1 ≤ (nI n).toInt ∧ (nI n).toInt ≤ 20 from c4), if_neg (show ¬ (1 : Int32) = 0 by decide), e6, bd_some, if_pos (show 0 ≤ x4.toInt ∧ x4.toInt ≤ 2 from c5), if_neg (show ¬ (1 : Int32) = 0 by decide), lw, bd_some]
      exact g2
  · refine ⟨-1, tm, mo, xpr, xqr, rz, ?_, ?_, QKd.rf, RZk.rf, fun z => z⟩
    · unfold f_X8_rests b_X8_rests_32 b_X8_rests_56
      rw [e1, bd_some]
      refine ite_no (fun _ => rfl) (fun a0 => ?_)
      rw [e2, bd_some]
      refine ite_no (fun _ => rfl) (fun a1 => ite_no (fun _ => rfl) (fun a2 => ite_no (fun _ => rfl) (fun a3 => ite_no (fun _ => rfl) (fun a4 => ite_no (fun _ => rfl) (fun a5 => ite_no (fun a6 => absurd ?_ c) (fun _ => rfl))))))
      rw [sp_lt, y1] at a3
      rw [sp_lt, y20] at a4
      rw [sp_lt, sp0] at a5
      rw [sp_le, y2] at a6
      exact ⟨one_of a0, one_of a1, a2, ⟨by omega, by omega⟩, by omega, by omega⟩
    · unfold f_X9_rests b_X9_rests_66
      rw [e3, bd_some]
      refine ite_no (fun _ => rfl) (fun a0 => ?_)
      rw [e4, bd_some]
      refine ite_no (fun _ => rfl) (fun a1 => ite_no (fun _ => rfl) (fun a2 => ?_))
      have i1 := one_of a0
      have i2 := one_of a1
      obtain ⟨a, ha, rfl⟩ := ix_of i1
      obtain ⟨b, hb, rfl⟩ := ix_of i2
      rw [if_pos (ib_n (show a < 8 by omega) (by decide)), nI_clamp (show a < 2 ^ 31 by omega), M.2.2.2 a ha]
      refine ite_no (fun _ => rfl) (fun a3 => ?_)
      rw [if_pos (ib_n (show b < 8 by omega) (by decide)), nI_clamp (show b < 2 ^ 31 by omega), M.2.2.2 b hb]
      refine ite_no (fun _ => rfl) (fun a4 => ?_)
      rw [e5, bd_some]
      refine ite_no (fun _ => rfl) (fun a5 => ?_)
      rw [e6, bd_some]
      refine ite_no (fun _ => rfl) (fun a6 => ?_)
      refine absurd ⟨⟨i1, ?_⟩, ⟨i2, ?_⟩, a2, one_of a5, one_of a6⟩ c
      · rw [(nat_n rfl (show a < 2 ^ 31 by omega)).1]
        exact fun z => a3 (stt_2.mpr z)
      · rw [(nat_n rfl (show b < 2 ^ 31 by omega)).1]
        exact fun z => a4 (stt_2.mpr z)
end RST
