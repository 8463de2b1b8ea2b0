/-! it settles: by both -/
noncomputable def stl (h : HLd) (cn : Nat → Nat) : Nat → Nat → Nat → Nat → Nat × Nat × Nat
  | 0, S, D, f => (S, D, f)
  | n + 1, S, D, f => if flS h cn S = 0 then (S, D, f) else stl h cn n (difS S (flS h cn S)) (D ||| flS h cn S) (f ||| flS h cn S)
theorem stl_S (h : HLd) (cn : Nat → Nat) (n S D f : Nat) : stl h cn (n + 1) S D f = if flS h cn S = 0 then (S, D, f) else stl h cn n (difS S (flS h cn S)) (D ||| flS h cn S) (f ||| flS h cn S) := rfl
/-- who sits and who is dropped, of so many -/
noncomputable def BDd (q S D : Nat) : Prop := S < 2 ^ q ∧ D < 2 ^ q ∧ ∀ j, ¬ (bS S j ∧ bS D j)
theorem BDd.out {h : HLd} {cn : Nat → Nat} {S D x : Nat} (B : BDd (h.1 3) S D) (hx : ∀ j, bS x j → bS S j) : BDd (h.1 3) (difS S x) (D ||| x) := by
  obtain ⟨b1, b2, b3⟩ := B
  refine ⟨lt_bS (fun j hj z => bS_lt b1 hj (bS_dif.mp z).1), lt_bS (fun j hj z => ?_), fun j z => ?_⟩
  · rcases bS_or.mp z with w | w
    · exact bS_lt b2 hj w
    · exact bS_lt b1 hj (hx j w)
  · have z1 := bS_dif.mp z.1
    rcases bS_or.mp z.2 with w | w
    · exact b3 j ⟨z1.1, w⟩
    · exact z1.2 w
theorem stl_bd {h : HLd} {cn : Nat → Nat} (H : HOK h) : ∀ (n S D f : Nat), BDd (h.1 3) S D → f < 2 ^ h.1 3 → BDd (h.1 3) (stl h cn n S D f).1 (stl h cn n S D f).2.1 ∧ (stl h cn n S D f).2.2 < 2 ^ h.1 3
  | 0, S, D, f, B, hf => ⟨B, hf⟩
  | n + 1, S, D, f, B, hf => by
    rw [stl_S]
    by_cases e : flS h cn S = 0
    · rw [if_pos e]
      exact ⟨B, hf⟩
    · rw [if_neg e]
      refine stl_bd H n _ _ _ (B.out (h := h) (cn := cn) (fun j z => fl_sub H z)) (lt_bS (fun j hj z => ?_))
      rcases bS_or.mp z with w | w
      · exact bS_lt hf hj w
      · exact bS_lt B.1 hj (fl_sub H w)
/-- what of a room stays when it settles -/
noncomputable def KRd (rm rm2 : OB) : Prop := (∀ j, j ≠ 10 → j ≠ 11 → j ≠ 12 → rm2.1 j = rm.1 j) ∧ (∀ j, j ≠ 13 → j ≠ 14 → rm2.2.1 j = rm.2.1 j) ∧ rm2.2.2 = rm.2.2
theorem KRd.rf {rm : OB} : KRd rm rm := ⟨fun _ _ _ _ => rfl, fun _ _ _ => rfl, rfl⟩
theorem KRd.tr {a b c : OB} (h1 : KRd a b) (h2 : KRd b c) : KRd a c := ⟨fun j p q r => (h2.1 j p q r).trans (h1.1 j p q r), fun j p q => (h2.2.1 j p q).trans (h1.2.1 j p q), h2.2.2.trans h1.2.2⟩
theorem HKd.kr {h : HLd} {rm rm2 : OB} (K : HKd h rm) (k : KRd rm rm2) : HKd h rm2 := by
  obtain ⟨⟨a0, a1, a2, a3⟩, a4, a5, a6⟩ := K
  obtain ⟨k1, k2, k3⟩ := k
  refine ⟨⟨?_, ?_, ?_, ?_⟩, ?_, ?_, ?_⟩
  · rw [k1 0 (by decide) (by decide) (by decide)]; exact a0
  · rw [k1 1 (by decide) (by decide) (by decide)]; exact a1
  · rw [k1 2 (by decide) (by decide) (by decide)]; exact a2
  · rw [k1 3 (by decide) (by decide) (by decide)]; exact a3
  · rw [k2 4 (by decide) (by decide)]; exact a4
  · rw [k2 5 (by decide) (by decide), k2 6 (by decide) (by decide)]; exact a5
  · rw [k2 7 (by decide) (by decide), k2 8 (by decide) (by decide)]; exact a6
section SET
variable {F : Nat} {h : HLd} {cn : Nat → Nat} {mi : Nat}
/-- who sits is told anew, and weighed -/
theorem s_reweigh {rm : OB} {S D S2 D2 m2 : Nat} {I : Nat → Int32} (H : HOK h) (C : CDd h cn S D mi rm) (hI : ∀ j, j ≠ 10 → j ≠ 11 → j ≠ 12 → I j = rm.1 j) (h10 : I 10 = nI S2) (h11 : I 11 = nI D2) (h12 : I 12 = nI m2) (hS : S2 < 2 ^ 31) (hF : 600 ≤ F) : ∃ rm2, f_X3_weigh F (I, rm.2.1, rm.2.2) = some rm2 ∧ CDd h cn S2 D2 m2 rm2 ∧ KRd rm rm2 := by
  have k0 : KRd rm (I, rm.2.1, rm.2.2) := ⟨hI, fun _ _ _ => rfl, rfl⟩
  have K := C.1.kr k0
  obtain ⟨l2, e2, g1, g2⟩ := s_weigh (F := F) H K h10 hS hF
  have k1 : KRd (I, rm.2.1, rm.2.2) (rmw (I, rm.2.1, rm.2.2) l2 e2) := ⟨fun _ _ _ _ => rfl, fun j p q => by
    show uF (uF rm.2.1 13 l2) 14 e2 j = rm.2.1 j
    rw [uF_n q, uF_n p], rfl⟩
  exact ⟨_, g1, ⟨K.kr k1, ⟨h10, h11, h12⟩, C.2.2.1, g2⟩, k0.tr k1⟩
theorem st_loop (H : HOK h) (hc : ∀ k, k < h.1 1 → cn k ≤ 99) (hF : 600 ≤ F) : ∀ (n r g f S D : Nat) (rm : OB), r + n = 9 → n < g → CDd h cn S D mi rm → BDd (h.1 3) S D → ∃ rm2, lp (b_X3_settle_4 F) g (nI f, nI r, rm) = some (nI (stl h cn n S D f).2.2, rm2) ∧ CDd h cn (stl h cn n S D f).1 (stl h cn n S D f).2.1 mi rm2 ∧ KRd rm rm2 := by
  have hq := H.q8
  intro n
  induction n with
  | zero =>
    intro r g f S D rm h1 h2 C B
    obtain ⟨g, rfl⟩ : ∃ g', g = g' + 1 := ⟨g - 1, by omega⟩
    refine ⟨rm, ?_, C, KRd.rf⟩
    rw [lp_S, b_X3_settle_4]
    dsimp only
    rw [if_pos (show (8 : Int32) < nI r from nI_lt (a := 8) (b := r) (by omega) (by omega))]
    rfl
  | succ n ih =>
    intro r g f S D rm h1 h2 C B
    obtain ⟨g, rfl⟩ : ∃ g', g = g' + 1 := ⟨g - 1, by omega⟩
    have hS8 := l28 B.1 hq
    rw [lp_S, b_X3_settle_4]
    dsimp only
    rw [if_neg (show ¬ (8 : Int32) < nI r from nI_nlt (a := 8) (b := r) (by omega) (by omega)), s_out H hc C (by omega) hF, bd_some, stl_S]
    have hfl := l28 (mk_lt (c := flc h cn S) (h.1 3)) hq
    by_cases e : flS h cn S = 0
    · rw [e, if_pos rfl, if_pos (show nI 0 = 0 from rfl)]
      exact ⟨rm, rfl, C, KRd.rf⟩
    · rw [if_neg e, if_neg (nI_ne0 (Nat.pos_of_ne_zero e) (show mk_ (flc h cn S) (h.1 3) < 2 ^ 31 by omega)), C.2.1.1, C.2.1.2.1, n_dif, n_or, n_or, nI_1]
      have B2 := B.out (h := h) (cn := cn) (x := flS h cn S) (fun j z => fl_sub H z)
      have hd8 := l28 B2.1 hq
      obtain ⟨rm2, e1, e2, e3⟩ := s_reweigh (F := F) (S2 := difS S (flS h cn S)) (D2 := D ||| flS h cn S) (m2 := mi) (I := uF (uF rm.1 10 (nI (difS S (flS h cn S)))) 11 (nI (D ||| flS h cn S))) H C (fun j p q _ => by rw [uF_n q, uF_n p]) rfl rfl C.2.1.2.2 (by omega) hF
      rw [e1, bd_some]
      obtain ⟨rm3, g1, g2, g3⟩ := ih (r + 1) g (f ||| flS h cn S) _ _ rm2 (by omega) (by omega) e2 B2
      exact ⟨rm3, g1, g2, e3.tr g3⟩
theorem s_settle {S D : Nat} {rm : OB} (H : HOK h) (hc : ∀ k, k < h.1 1 → cn k ≤ 99) (hF : 600 ≤ F) (C : CDd h cn S D mi rm) (B : BDd (h.1 3) S D) : ∃ rm2, f_X3_settle F rm = some (nI (stl h cn 9 S D 0).2.2, rm2) ∧ CDd h cn (stl h cn 9 S D 0).1 (stl h cn 9 S D 0).2.1 mi rm2 ∧ KRd rm rm2 := st_loop H hc hF 9 0 F 0 S D rm (by omega) (by omega) C B
/-! the reference -/
noncomputable def KMd (mo mo2 : OB) : Prop := mo2.1 = mo.1 ∧ (∀ j, j ≠ 3 → mo2.2.1 j = mo.2.1 j) ∧ mo2.2.2 = mo.2.2
theorem KMd.rf {mo : OB} : KMd mo mo := ⟨rfl, fun _ _ => rfl, rfl⟩
theorem KMd.tr {a b c : OB} (h1 : KMd a b) (h2 : KMd b c) : KMd a c := ⟨h2.1.trans h1.1, fun j p => (h2.2.1 j p).trans (h1.2.1 j p), h2.2.2.trans h1.2.2⟩
theorem MKd.km {mo mo2 : OB} (M : MKd h mo) (k : ∀ j, j ≠ 3 → mo2.2.1 j = mo.2.1 j) : MKd h mo2 := by
  unfold MKd
  rw [k 1 (by decide), k 11 (by decide), k 6 (by decide), k 4 (by decide), k 7 (by decide), k 5 (by decide)]
  exact M
theorem those1 {S D : Nat} (B : BDd (h.1 3) S D) : mk_ (fun j => decide (stt S D j = 1)) (h.1 3) = S := mk_eq B.1 (fun j hj => by
  rw [decide_eq_true_eq]
  unfold stt
  by_cases a : bS D j
  · rw [if_pos a]
    exact ⟨fun z => absurd z (by decide), fun z => absurd ⟨z, a⟩ (B.2.2 j)⟩
  · rw [if_neg a]
    by_cases b : bS S j
    · rw [if_pos b]
      exact ⟨fun _ => b, fun _ => rfl⟩
    · rw [if_neg b]
      exact ⟨fun z => absurd z (by decide), fun z => absurd z b⟩)
theorem those2 {S D : Nat} (B : BDd (h.1 3) S D) : mk_ (fun j => decide (stt S D j = 2)) (h.1 3) = D := mk_eq B.2.1 (fun j hj => by
  rw [decide_eq_true_eq]
  unfold stt
  by_cases a : bS D j
  · rw [if_pos a]
    exact ⟨fun _ => a, fun _ => rfl⟩
  · rw [if_neg a]
    by_cases b : bS S j
    · rw [if_pos b]
      exact ⟨fun z => absurd z (by decide), fun z => absurd z a⟩
    · rw [if_neg b]
      exact ⟨fun z => absurd z (by decide), fun z => absurd z a⟩)
theorem s_sits {S D : Nat} {mo : OB} (H : HOK h) (M : MDd h cn S D mi mo) (B : BDd (h.1 3) S D) (hF : 600 ≤ F) : f_X9_those F 1 mo = some (nI S) := (s_those (st := 1) H M hF (by decide)).trans (by rw [those1 B])
theorem s_drpd {S D : Nat} {mo : OB} (H : HOK h) (M : MDd h cn S D mi mo) (B : BDd (h.1 3) S D) (hF : 600 ≤ F) : f_X9_those F 2 mo = some (nI D) := (s_those (st := 2) H M hF (by decide)).trans (by rw [those2 B])
/-- those of a set are marked as dropped, up to one -/
noncomputable def mrk (mo : OB) (x k : Nat) : OB := (mo.1, uF mo.2.1 3 (fun j => if j < k ∧ bS x j then nI 2 else mo.2.1 3 j), mo.2.2)
theorem mrk_0 {mo : OB} {x : Nat} : mrk mo x 0 = mo := by
  unfold mrk
  rw [show (fun j => if j < 0 ∧ bS x j then nI 2 else mo.2.1 3 j) = mo.2.1 3 from funext (fun j => if_neg (fun z => absurd z.1 (Nat.not_lt_zero _))), uF_id]
theorem mrk_S {mo : OB} {x k : Nat} : (((mrk mo x k).1, uF (mrk mo x k).2.1 3 (upd ((mrk mo x k).2.1 3) k (if bS x k then nI 2 else mo.2.1 3 k)), (mrk mo x k).2.2) : OB) = mrk mo x (k + 1) := by
  unfold mrk
  dsimp only
  rw [uF_uF, uF_s]
  refine Prod.ext rfl (Prod.ext (congrArg (uF mo.2.1 3) (funext (fun j => ?_))) rfl)
  by_cases e : j = k
  · rw [e, pk_us]
    by_cases b : bS x k
    · rw [if_pos b, if_pos ⟨by omega, b⟩]
    · rw [if_neg b, if_neg (fun z => b z.2)]
  · rw [pk_un e]
    by_cases b : j < k ∧ bS x j
    · rw [if_pos b, if_pos ⟨by omega, b.2⟩]
    · rw [if_neg b, if_neg (fun z => b ⟨by omega, z.2⟩)]
theorem stt_out {S D x j : Nat} (hx : bS x j → bS S j) : stt (difS S x) (D ||| x) j = if bS x j then 2 else stt S D j := by
  unfold stt
  by_cases b : bS x j
  · rw [if_pos b, if_pos (bS_or.mpr (Or.inr b))]
  · rw [if_neg b]
    by_cases a : bS D j
    · rw [if_pos a, if_pos (bS_or.mpr (Or.inl a))]
    · rw [if_neg a, if_neg (fun z => (bS_or.mp z).elim a b)]
      by_cases c : bS S j
      · rw [if_pos c, if_pos (bS_dif.mpr ⟨c, b⟩)]
      · rw [if_neg c, if_neg (fun z => c (bS_dif.mp z).1)]
theorem mrk_md {S D x : Nat} {mo : OB} (M : MDd h cn S D mi mo) (hx : ∀ j, bS x j → bS S j) : MDd h cn (difS S x) (D ||| x) mi (mrk mo x (h.1 3)) ∧ KMd mo (mrk mo x (h.1 3)) := by
  have k : KMd mo (mrk mo x (h.1 3)) := ⟨rfl, fun j hj => uF_n hj, rfl⟩
  refine ⟨⟨M.1.km k.2.1, M.2.1, M.2.2.1, fun j hj => ?_⟩, k⟩
  show (if j < h.1 3 ∧ bS x j then nI 2 else mo.2.1 3 j) = _
  rw [stt_out (hx j)]
  by_cases b : bS x j
  · rw [if_pos ⟨hj, b⟩, if_pos b]
  · rw [if_neg (fun z => b z.2), if_neg b]
    exact M.2.2.2 j hj
/-- one round of the reference's settling -/
theorem st9_step {S D f g : Nat} {mo : OB} (H : HOK h) (hc : ∀ k, k < h.1 1 → cn k ≤ 99) (hF : 600 ≤ F) (M : MDd h cn S D mi mo) (B : BDd (h.1 3) S D) (e : ¬ flS h cn S = 0) : lp (b_X9_settles_12 F) (g + 1) (nI f, nI (flS h cn S), mo) = lp (b_X9_settles_12 F) g (nI (f ||| flS h cn S), nI (flS h cn (difS S (flS h cn S))), mrk mo (flS h cn S) (h.1 3)) := by
  have hq := H.q8
  have hfl : flS h cn S < 256 := l28 (mk_lt (c := flc h cn S) (h.1 3)) hq
  have B2 := B.out (h := h) (cn := cn) (x := flS h cn S) (fun j z => fl_sub H z)
  obtain ⟨M2, K2⟩ := mrk_md (x := flS h cn S) M (fun j z => fl_sub H z)
  have hd8 := l28 B2.1 hq
  rw [lp_S, b_X9_settles_12]
  dsimp only
  rw [if_neg (nI_ne0 (Nat.pos_of_ne_zero e) (by omega))]
  have z : lp (b_X9_settles_18 F (lp (b_X9_settles_12 F) g)) F (nI f, nI (flS h cn S), nI 0, mrk mo (flS h cn S) 0) = lp (b_X9_settles_12 F) g (nI (f ||| flS h cn S), nI (flS h cn (difS S (flS h cn S))), mrk mo (flS h cn S) (h.1 3)) := by
    refine lp_for (body := b_X9_settles_18 F (lp (b_X9_settles_12 F) g)) (st := fun k => (nI f, nI (flS h cn S), nI k, mrk mo (flS h cn S) k)) (q := h.1 3) (res := lp (b_X9_settles_12 F) g (nI (f ||| flS h cn S), nI (flS h cn (difS S (flS h cn S))), mrk mo (flS h cn S) (h.1 3))) (fun kk k hk => ?_) (fun kk => ?_) (h.1 3) F 0 (by omega) (by omega)
    · unfold b_X9_settles_18 b_X9_settles_51
      dsimp only
      rw [t3, show (mrk mo (flS h cn S) k).2.1 1 3 = nI (h.1 3) from M.1.1.2.2.2, if_neg (nI_ge hk (by omega)), s_has (by omega) (by omega), bd_some, nI_1, ← mrk_S (k := k)]
      have e3 : (mrk mo (flS h cn S) k).2.1 3 k = mo.2.1 3 k := if_neg (fun z => absurd z.1 (Nat.lt_irrefl _))
      by_cases b : bS (flS h cn S) k
      · rw [if_pos b, if_neg (show ¬ (1 : Int32) = 0 by decide), if_pos (ib_n (show k < 8 by omega) (by decide)), nI_clamp (show k < 2 ^ 31 by omega), if_pos b]
        rfl
      · rw [if_neg b, if_pos rfl, if_pos (ib_n (show k < 8 by omega) (by decide)), if_pos (ib_n (show k < 8 by omega) (by decide)), nI_clamp (show k < 2 ^ 31 by omega), e3, if_neg b]
    · unfold b_X9_settles_18
      dsimp only
      rw [t3, show (mrk mo (flS h cn S) (h.1 3)).2.1 1 3 = nI (h.1 3) from M.1.1.2.2.2, if_pos (nI_le (Nat.le_refl _) (by omega)), s_sits H M2 B2 hF, bd_some, s_drops H hc M2.c (by omega) hF, bd_some, n_or]
  rw [mrk_0] at z
  exact z
noncomputable def cntN (S : Nat) : Nat := sumB 8 (fun k => if bS S k then 1 else 0)
theorem sumB_lt {f g : Nat → Nat} {j : Nat} : ∀ n, (∀ k, k < n → f k ≤ g k) → j < n → f j < g j → sumB n f < sumB n g
  | 0, _, h, _ => absurd h (Nat.not_lt_zero _)
  | n + 1, h1, h2, h3 => by
    rw [sumB_S, sumB_S]
    by_cases e : j = n
    · have := sumB_mono n (fun k hk => h1 k (by omega))
      rw [e] at h3
      omega
    · have := sumB_lt n (fun k hk => h1 k (by omega)) (show j < n by omega) h3
      have := h1 n (by omega)
      omega
theorem cnt_out {S x : Nat} (hx : ∀ j, bS x j → bS S j) (h8 : x < 2 ^ 8) (h0 : ¬ x = 0) : cntN (difS S x) < cntN S := by
  have hj : ∃ j, bS x j := Classical.byContradiction (fun z => h0 (eq_bS (fun j => ⟨fun w => absurd ⟨j, w⟩ z, fun w => absurd w (bS_0 j)⟩)))
  obtain ⟨j, hj⟩ := hj
  have hj8 : j < 8 := by
    by_cases q : j < 8
    · exact q
    · exact absurd hj (bS_lt h8 (by omega))
  refine sumB_lt (j := j) 8 (fun k _ => ?_) hj8 ?_
  · by_cases a : bS (difS S x) k
    · rw [if_pos a, if_pos (bS_dif.mp a).1]
      exact Nat.le_refl _
    · rw [if_neg a]
      exact Nat.zero_le _
  · rw [if_neg (fun z => (bS_dif.mp z).2 hj), if_pos (hx j hj)]
    decide
theorem st9_loop (H : HOK h) (hc : ∀ k, k < h.1 1 → cn k ≤ 99) (hF : 600 ≤ F) : ∀ (n g f S D : Nat) (mo : OB), cntN S ≤ n → n < g → MDd h cn S D mi mo → BDd (h.1 3) S D → ∃ mo2, lp (b_X9_settles_12 F) g (nI f, nI (flS h cn S), mo) = some (nI (stl h cn (n + 1) S D f).2.2, mo2) ∧ MDd h cn (stl h cn (n + 1) S D f).1 (stl h cn (n + 1) S D f).2.1 mi mo2 ∧ KMd mo mo2 := by
  have hq := H.q8
  intro n
  induction n with
  | zero =>
    intro g f S D mo h1 h2 M B
    obtain ⟨g, rfl⟩ : ∃ g', g = g' + 1 := ⟨g - 1, by omega⟩
    have e : flS h cn S = 0 := Classical.byContradiction (fun z => by
      have := cnt_out (S := S) (x := flS h cn S) (fun j w => fl_sub H w) (l28 (mk_lt (c := flc h cn S) (h.1 3)) hq) z
      omega)
    rw [stl_S, if_pos e, e]
    refine ⟨mo, ?_, M, KMd.rf⟩
    rw [lp_S, b_X9_settles_12]
    dsimp only
    rw [if_pos (show nI 0 = 0 from rfl)]
  | succ n ih =>
    intro g f S D mo h1 h2 M B
    obtain ⟨g, rfl⟩ : ∃ g', g = g' + 1 := ⟨g - 1, by omega⟩
    by_cases e : flS h cn S = 0
    · rw [stl_S, if_pos e, e]
      refine ⟨mo, ?_, M, KMd.rf⟩
      rw [lp_S, b_X9_settles_12]
      dsimp only
      rw [if_pos (show nI 0 = 0 from rfl)]
    · have hlt := cnt_out (S := S) (x := flS h cn S) (fun j w => fl_sub H w) (l28 (mk_lt (c := flc h cn S) (h.1 3)) hq) e
      obtain ⟨M2, K2⟩ := mrk_md (x := flS h cn S) M (fun j z => fl_sub H z)
      obtain ⟨mo3, g1, g2, g3⟩ := ih g (f ||| flS h cn S) _ _ _ (by omega) (by omega) M2 (B.out (h := h) (cn := cn) (x := flS h cn S) (fun j z => fl_sub H z))
      rw [st9_step H hc hF M B e, stl_S, if_neg e]
      exact ⟨mo3, g1, g2, K2.tr g3⟩
theorem cnt_8 (S : Nat) : cntN S ≤ 8 := by
  have := sumB_le (f := fun k => if bS S k then 1 else 0) (M := 1) 8 (fun k _ => by
    by_cases a : bS S k
    · rw [if_pos a]
      exact Nat.le_refl _
    · rw [if_neg a]
      exact Nat.zero_le _)
  unfold cntN
  omega
theorem s_settles {S D : Nat} {mo : OB} (H : HOK h) (hc : ∀ k, k < h.1 1 → cn k ≤ 99) (hF : 600 ≤ F) (M : MDd h cn S D mi mo) (B : BDd (h.1 3) S D) : ∃ mo2, f_X9_settles F mo = some (nI (stl h cn 9 S D 0).2.2, mo2) ∧ MDd h cn (stl h cn 9 S D 0).1 (stl h cn 9 S D 0).2.1 mi mo2 ∧ KMd mo mo2 := by
  have hq := H.q8
  have hS8 := l28 B.1 hq
  unfold f_X9_settles
  rw [s_sits H M B hF, bd_some, s_drops H hc M.c (by omega) hF, bd_some]
  exact st9_loop H hc hF 8 F 0 S D mo (cnt_8 S) (by omega) M B
end SET
