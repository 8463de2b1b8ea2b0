/-! what a chair gives, who is dropped: by both -/
/-- how much the chair of one of a set gives -/
noncomputable def gvS (h : HLd) (cn : Nat → Nat) (A k : Nat) : Nat := if bS A k then cn (sq_ h k) * h.2 8 k / ldS h A (sq_ h k) else 0
noncomputable def flc (h : HLd) (cn : Nat → Nat) (A k : Nat) : Bool := decide (h.2 5 (h.2 7 k) ≤ gvS h cn A k)
/-- who of a set is dropped at once -/
noncomputable def flS (h : HLd) (cn : Nat → Nat) (A : Nat) : Nat := mk_ (flc h cn A) (h.1 3)
theorem ld_pos {h : HLd} {A k : Nat} (H : HOK h) (hk : k < h.1 3) (hb : bS A k) : 0 < ldS h A (sq_ h k) := by
  have e : ldT h A (sq_ h k) k = h.2 8 k := if_pos ⟨hb, rfl⟩
  have h1 := sumB_one (f := ldT h A (sq_ h k)) (h.1 3) hk
  have h2 := (H.2.2.2.2.2.2 k hk).2.1
  unfold ldS
  omega
theorem ld_31 {h : HLd} (H : HOK h) (A s : Nat) : ldS h A s ≤ 160 := by
  have h1 := ld_le H A s (h.1 3) (Nat.le_refl _)
  have h2 := H.q8
  unfold ldS
  omega
theorem hd_31 {h : HLd} (H : HOK h) (A s : Nat) : hdS h A s ≤ 8 := by
  have h1 := hd_le (h := h) A s (h.1 3)
  have h2 := H.q8
  unfold hdS
  omega
theorem gv_le {h : HLd} {cn : Nat → Nat} {A k : Nat} (H : HOK h) (hc : ∀ k, k < h.1 1 → cn k ≤ 99) (hk : k < h.1 3) : gvS h cn A k ≤ 1980 ∧ cn (sq_ h k) * h.2 8 k ≤ 1980 := by
  have h1 := hc _ (H.sq hk)
  have h2 := (H.2.2.2.2.2.2 k hk).2.2
  have h3 : cn (sq_ h k) * h.2 8 k ≤ 99 * 20 := Nat.mul_le_mul h1 h2
  refine ⟨?_, h3⟩
  unfold gvS
  by_cases e : bS A k
  · rw [if_pos e]
    have := Nat.div_le_self (cn (sq_ h k) * h.2 8 k) (ldS h A (sq_ h k))
    omega
  · rw [if_neg e]
    omega
/-- who is dropped sits, and their chair gives as much as it is high -/
theorem flc_iff {h : HLd} {cn : Nat → Nat} {A k : Nat} (H : HOK h) (hk : k < h.1 3) : flc h cn A k = true ↔ bS A k ∧ h.2 5 (h.2 7 k) ≤ gvS h cn A k := by
  unfold flc
  rw [decide_eq_true_eq]
  constructor
  · intro z
    refine ⟨?_, z⟩
    by_cases e : bS A k
    · exact e
    · have h1 := (H.2.2.2.2.2.1 _ (H.2.2.2.2.2.2 k hk).1).1
      unfold gvS at z
      rw [if_neg e] at z
      omega
  · intro z
    exact z.2
theorem fl_sub {h : HLd} {cn : Nat → Nat} {A j : Nat} (H : HOK h) (hb : bS (flS h cn A) j) : bS A j := by
  have z := (bS_mk (h.1 3)).mp hb
  exact ((flc_iff H z.1).mp z.2).1
section CGV
variable {F : Nat} {rm mo : OB} {h : HLd} {cn : Nat → Nat} {S D mi A k : Nat}
theorem s_gives (H : HOK h) (hc : ∀ k, k < h.1 1 → cn k ≤ 99) (C : CDd h cn S D mi rm) (h31 : S < 2 ^ 31) (hk : k < h.1 3) : f_X3_givesUnder F (nI k) rm = some (nI (gvS h cn S k)) := by
  obtain ⟨K, ⟨c1, c2, c3⟩, C4, C5⟩ := C
  have hq := H.q8
  have h7 := (K.2.2.2 k hk).1
  have h8 := (K.2.2.2 k hk).2
  have hcb := (H.2.2.2.2.2.2 k hk).1
  have h6' : rm.2.1 6 (h.2 7 k) = nI (sq_ h k) := (K.2.2.1 _ hcb).2
  have hs4 : sq_ h k < 4 := H.sq4 hk
  have hc8 : h.2 7 k < 8 := Nat.lt_of_lt_of_le hcb H.2.2.1
  have hl := ld_31 H S (sq_ h k)
  have hg := gv_le (A := S) H hc hk
  unfold f_X3_givesUnder b_X3_givesUnder_23 b_X3_givesUnder_70 gvS
  rw [if_neg (nI_pos (by omega)), K.1.2.2.2, if_neg (nI_ge hk (by omega)), c1]
  by_cases e : bS S k
  · have hp := ld_pos H hk e
    rw [if_neg (fun z => (r_bit0 h31 (by omega)).mp z e), if_pos (ib_n (show k < 8 by omega) (by decide)), nI_clamp (show k < 2 ^ 31 by omega), h7, nI_clamp (show h.2 7 k < 2 ^ 31 by omega), h6', nI_clamp (show sq_ h k < 2 ^ 31 by omega), if_pos (ib_n hc8 (by decide)), if_pos (ib_n hs4 (by decide)), (C5 _ (H.sq hk)).1, if_neg (nI_nle hp (by omega)), if_pos (nI_ne0 hp (by omega)), C4 _ hs4, h8, pk_mul, pk_div (by omega) hp (by omega), if_pos e]
  · rw [if_pos ((r_bit0 h31 (by omega)).mpr e), if_neg e]
    rfl
theorem s_out (H : HOK h) (hc : ∀ k, k < h.1 1 → cn k ≤ 99) (C : CDd h cn S D mi rm) (h31 : S < 2 ^ 31) (hF : 600 ≤ F) : f_X3_givenOut F rm = some (nI (flS h cn S)) := by
  have hq := H.q8
  have K := C.1
  unfold f_X3_givenOut flS
  refine lp_for (st := fun k => (nI (mk_ (flc h cn S) k), nI k)) (q := h.1 3) (fun kk k hk => ?_) (fun kk => ?_) (h.1 3) F 0 (by omega) (by omega)
  · have h7 := (K.2.2.2 k hk).1
    have hcb := (H.2.2.2.2.2.2 k hk).1
    have hc8 : h.2 7 k < 8 := Nat.lt_of_lt_of_le hcb H.2.2.1
    have hg := (gv_le (A := S) H hc hk).1
    have hh := H.2.2.2.2.2.1 _ hcb
    unfold b_X3_givenOut_4 b_X3_givenOut_37
    dsimp only
    rw [K.1.2.2.2, if_neg (nI_ge hk (by omega)), s_gives H hc C h31 hk, bd_some, if_pos (ib_n (show k < 8 by omega) (by decide)), nI_clamp (show k < 2 ^ 31 by omega), h7, nI_clamp (show h.2 7 k < 2 ^ 31 by omega), if_pos (ib_n hc8 (by decide)), (K.2.2.1 _ hcb).1, nI_1, ← mk_step (c := flc h cn S) (show k < 31 by omega)]
    by_cases e : flc h cn S k = true
    · have e' := e
      unfold flc at e'
      rw [decide_eq_true_eq] at e'
      rw [if_neg (nI_nlt (by omega) (by omega)), if_pos e]
    · have e' := e
      unfold flc at e'
      rw [decide_eq_true_eq] at e'
      rw [if_pos (nI_lt (by omega) (by omega)), if_neg e, show (0 : Int32) = nI 0 from rfl, n_or, Nat.or_zero]
  · unfold b_X3_givenOut_4
    dsimp only
    rw [K.1.2.2.2, if_pos (nI_le (Nat.le_refl _) (by omega))]
/-- the reference holds the hall and the cane -/
noncomputable def MCd (h : HLd) (cn : Nat → Nat) (mo : OB) : Prop := MKd h mo ∧ ∀ k, k < h.1 1 → mo.2.1 2 k = nI (cn k)
theorem MDd.c (M : MDd h cn S D mi mo) : MCd h cn mo := ⟨M.1, M.2.2.1⟩
theorem t3 : Int32.toNatClampNeg 3 = 3 := by decide
theorem s_has (hA : A < 2 ^ 31) (hk : k < 31) : f_X9_has F (nI A) (nI k) = some (if bS A k then 1 else 0) := by
  unfold f_X9_has b_X9_has_14
  have h2 : A / 2 ^ k % 2 < 2 := Nat.mod_lt _ (by decide)
  rw [r_bit hA (by omega)]
  by_cases e : bS A k
  · have e1 : A / 2 ^ k % 2 = 1 := e
    rw [if_pos (show nI (A / 2 ^ k % 2) = 1 by rw [e1]; rfl), if_pos (Or.inr rfl), if_pos e]
  · have e1 : ¬ A / 2 ^ k % 2 = 1 := e
    have e0 : A / 2 ^ k % 2 = 0 := by omega
    rw [if_neg (show ¬ nI (A / 2 ^ k % 2) = 1 by rw [e0]; decide), if_pos (Or.inl rfl), if_neg e]
theorem s_those {st : Nat} (H : HOK h) (M : MDd h cn S D mi mo) (hF : 600 ≤ F) (hst : st < 3) : f_X9_those F (nI st) mo = some (nI (mk_ (fun j => decide (stt S D j = st)) (h.1 3))) := by
  have hq := H.q8
  unfold f_X9_those
  have h2 : ∀ j, stt S D j < 3 := fun j => by
    unfold stt
    by_cases a : bS D j
    · rw [if_pos a]
      decide
    · rw [if_neg a]
      by_cases b : bS S j
      · rw [if_pos b]
        decide
      · rw [if_neg b]
        decide
  refine lp_for (st := fun k => (nI st, nI (mk_ (fun j => decide (stt S D j = st)) k), nI k)) (q := h.1 3) (fun kk k hk => ?_) (fun kk => ?_) (h.1 3) F 0 (by omega) (by omega)
  · unfold b_X9_those_4 b_X9_those_32
    dsimp only
    rw [t3, M.1.1.2.2.2, if_neg (nI_ge hk (by omega)), if_pos (ib_n (show k < 8 by omega) (by decide)), nI_clamp (show k < 2 ^ 31 by omega), M.2.2.2 k hk, nI_1, ← mk_step (c := fun j => decide (stt S D j = st)) (show k < 31 by omega)]
    have h3 := h2 k
    by_cases e : stt S D k = st
    · rw [if_pos (by rw [e]), if_pos (decide_eq_true e)]
    · rw [if_neg (fun z => e ((nI_eq (by omega) (by omega)).mp z)), if_neg (by rw [decide_eq_true_eq]; exact e)]
  · unfold b_X9_those_4
    dsimp only
    rw [t3, M.1.1.2.2.2, if_pos (nI_le (Nat.le_refl _) (by omega))]
theorem s_onStrand {s : Nat} (H : HOK h) (M : MCd h cn mo) (hA : A < 2 ^ 31) (hs : s < 4) (hF : 600 ≤ F) : f_X9_onStrand F (nI A) (nI s) mo = some (nI (mk_ (fun j => decide (bS A j ∧ sq_ h j = s)) (h.1 3))) := by
  have hq := H.q8
  unfold f_X9_onStrand
  refine lp_for (st := fun k => (nI A, nI s, nI (mk_ (fun j => decide (bS A j ∧ sq_ h j = s)) k), nI k)) (q := h.1 3) (fun kk k hk => ?_) (fun kk => ?_) (h.1 3) F 0 (by omega) (by omega)
  · have hcb := (H.2.2.2.2.2.2 k hk).1
    have hc8 : h.2 7 k < 8 := Nat.lt_of_lt_of_le hcb H.2.2.1
    have hs4 : sq_ h k < 4 := H.sq4 hk
    have h6' : mo.2.1 4 (h.2 7 k) = nI (sq_ h k) := (M.1.2.2.1 _ hcb).2
    have z0 : ∀ x : Nat, nI x ||| 0 = nI x := fun x => by
      rw [show (0 : Int32) = nI 0 from rfl, n_or, Nat.or_zero]
    unfold b_X9_onStrand_5 b_X9_onStrand_49 b_X9_onStrand_50
    dsimp only
    rw [t3, M.1.1.2.2.2, if_neg (nI_ge hk (by omega)), s_has hA (by omega), bd_some, nI_1, ← mk_step (c := fun j => decide (bS A j ∧ sq_ h j = s)) (show k < 31 by omega)]
    by_cases e1 : bS A k
    · rw [if_pos e1, if_neg (show ¬ (1 : Int32) = 0 by decide), if_pos (ib_n (show k < 8 by omega) (by decide)), nI_clamp (show k < 2 ^ 31 by omega), (M.1.2.2.2 k hk).1, nI_clamp (show h.2 7 k < 2 ^ 31 by omega), if_pos (ib_n hc8 (by decide)), h6']
      by_cases e2 : sq_ h k = s
      · rw [if_pos (by rw [e2]), if_pos (decide_eq_true ⟨e1, e2⟩)]
      · rw [if_neg (fun z => e2 ((nI_eq (by omega) (by omega)).mp z)), if_neg (by rw [decide_eq_true_eq]; exact fun z => e2 z.2)]
    · rw [if_neg e1, if_pos rfl, if_neg (show ¬ decide (bS A k ∧ sq_ h k = s) = true by rw [decide_eq_true_eq]; exact fun z => e1 z.1)]
  · unfold b_X9_onStrand_5
    dsimp only
    rw [t3, M.1.1.2.2.2, if_pos (nI_le (Nat.le_refl _) (by omega))]
theorem s_weightOf (H : HOK h) (M : MCd h cn mo) (hA : A < 2 ^ 31) (hF : 600 ≤ F) : f_X9_weightOf F (nI A) mo = some (nI (sumB (h.1 3) (fun j => if bS A j then h.2 8 j else 0))) := by
  have hq := H.q8
  unfold f_X9_weightOf
  refine lp_for (st := fun k => (nI A, nI (sumB k (fun j => if bS A j then h.2 8 j else 0)), nI k)) (q := h.1 3) (fun kk k hk => ?_) (fun kk => ?_) (h.1 3) F 0 (by omega) (by omega)
  · unfold b_X9_weightOf_4 b_X9_weightOf_33
    dsimp only
    rw [t3, M.1.1.2.2.2, if_neg (nI_ge hk (by omega)), s_has hA (by omega), bd_some, nI_1, sumB_S]
    by_cases e1 : bS A k
    · rw [if_pos e1, if_neg (show ¬ (1 : Int32) = 0 by decide), if_pos (ib_n (show k < 8 by omega) (by decide)), nI_clamp (show k < 2 ^ 31 by omega), (M.1.2.2.2 k hk).2, nI_add, if_pos e1]
    · rw [if_neg e1, if_pos rfl, if_neg e1, show (0 : Int32) = nI 0 from rfl, nI_add]
  · unfold b_X9_weightOf_4
    dsimp only
    rw [t3, M.1.1.2.2.2, if_pos (nI_le (Nat.le_refl _) (by omega))]
theorem s_gives9 (H : HOK h) (hc : ∀ k, k < h.1 1 → cn k ≤ 99) (M : MCd h cn mo) (hA : A < 2 ^ 31) (hk : k < h.1 3) (hF : 600 ≤ F) : f_X9_gives F (nI A) (nI k) mo = some (nI (gvS h cn A k)) := by
  have hq := H.q8
  have hcb := (H.2.2.2.2.2.2 k hk).1
  have hc8 : h.2 7 k < 8 := Nat.lt_of_lt_of_le hcb H.2.2.1
  have hs4 : sq_ h k < 4 := H.sq4 hk
  have h6' : mo.2.1 4 (h.2 7 k) = nI (sq_ h k) := (M.1.2.2.1 _ hcb).2
  have hl := ld_31 H A (sq_ h k)
  have hg := gv_le (A := A) H hc hk
  unfold f_X9_gives b_X9_gives_48 gvS
  rw [if_pos (ib_n (show k < 8 by omega) (by decide)), nI_clamp (show k < 2 ^ 31 by omega), (M.1.2.2.2 k hk).1, nI_clamp (show h.2 7 k < 2 ^ 31 by omega), if_pos (ib_n hc8 (by decide)), s_has hA (by omega), bd_some, h6', nI_clamp (show sq_ h k < 2 ^ 31 by omega)]
  by_cases e : bS A k
  · have hp := ld_pos H hk e
    have el : sumB (h.1 3) (fun j => if bS (mk_ (fun j => decide (bS A j ∧ sq_ h j = sq_ h k)) (h.1 3)) j then h.2 8 j else 0) = ldS h A (sq_ h k) := sumB_cg _ (fun j hj => by
      unfold ldT
      by_cases z : bS A j ∧ sq_ h j = sq_ h k
      · rw [if_pos z, if_pos ((bS_mk _).mpr ⟨hj, decide_eq_true z⟩)]
      · rw [if_neg z, if_neg (fun w => z (of_decide_eq_true ((bS_mk _).mp w).2))])
    have hm := mk_lt (c := fun j => decide (bS A j ∧ sq_ h j = sq_ h k)) (h.1 3)
    have hm8 := l28 hm hq
    rw [if_pos e, if_neg (show ¬ (1 : Int32) = 0 by decide), if_pos (ib_n hs4 (by decide)), s_onStrand H M hA hs4 hF, bd_some, s_weightOf H M (by omega) hF, bd_some, el, if_pos (nI_ne0 hp (by omega)), M.2 _ (H.sq hk), (M.1.2.2.2 k hk).2, pk_mul, pk_div (by omega) hp (by omega), if_pos e]
  · rw [if_neg e, if_pos rfl, if_neg e]
    rfl
theorem s_drops (H : HOK h) (hc : ∀ k, k < h.1 1 → cn k ≤ 99) (M : MCd h cn mo) (hA : A < 2 ^ 31) (hF : 600 ≤ F) : f_X9_dropsOf F (nI A) mo = some (nI (flS h cn A)) := by
  have hq := H.q8
  unfold f_X9_dropsOf flS
  refine lp_for (st := fun k => (nI A, nI (mk_ (flc h cn A) k), nI k)) (q := h.1 3) (fun kk k hk => ?_) (fun kk => ?_) (h.1 3) F 0 (by omega) (by omega)
  · have hcb := (H.2.2.2.2.2.2 k hk).1
    have hc8 : h.2 7 k < 8 := Nat.lt_of_lt_of_le hcb H.2.2.1
    have hg := (gv_le (A := A) H hc hk).1
    have hh := H.2.2.2.2.2.1 _ hcb
    unfold b_X9_dropsOf_4 b_X9_dropsOf_49 b_X9_dropsOf_50
    dsimp only
    rw [t3, M.1.1.2.2.2, if_neg (nI_ge hk (by omega)), s_has hA (by omega), bd_some, nI_1, ← mk_step (c := flc h cn A) (show k < 31 by omega)]
    by_cases e1 : bS A k
    · rw [if_pos e1, if_neg (show ¬ (1 : Int32) = 0 by decide), s_gives9 H hc M hA hk hF, bd_some, if_pos (ib_n (show k < 8 by omega) (by decide)), nI_clamp (show k < 2 ^ 31 by omega), (M.1.2.2.2 k hk).1, nI_clamp (show h.2 7 k < 2 ^ 31 by omega), if_pos (ib_n hc8 (by decide)), (M.1.2.2.1 _ hcb).1]
      by_cases e2 : flc h cn A k = true
      · have e' := ((flc_iff H hk).mp e2).2
        rw [if_neg (nI_nlt (by omega) (by omega)), if_pos e2]
      · have e' : ¬ h.2 5 (h.2 7 k) ≤ gvS h cn A k := fun z => e2 (decide_eq_true z)
        rw [if_pos (nI_lt (by omega) (by omega)), if_neg e2]
    · rw [if_neg e1, if_pos rfl, if_neg (fun z => e1 ((flc_iff H hk).mp z).1)]
  · unfold b_X9_dropsOf_4
    dsimp only
    rw [t3, M.1.1.2.2.2, if_pos (nI_le (Nat.le_refl _) (by omega))]
end CGV
