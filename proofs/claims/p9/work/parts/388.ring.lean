/-! ring: by both -/
theorem lp_all {α : Type} {body : (α → Option Int32) → α → Option Int32} {st : Nat → α} {q : Nat} {P : Nat → Prop} (hs : ∀ kk k, k < q → (P k → body kk (st k) = kk (st (k + 1))) ∧ (¬ P k → body kk (st k) = some 0)) (he : ∀ kk, body kk (st q) = some 1) : ∀ (r g k : Nat), k + r = q → r < g → ((∀ j, k ≤ j → j < q → P j) → lp body g (st k) = some 1) ∧ ((¬ ∀ j, k ≤ j → j < q → P j) → lp body g (st k) = some 0)
  | 0, g, k, h1, h2 => by
    obtain ⟨g, rfl⟩ : ∃ g', g = g' + 1 := ⟨g - 1, by omega⟩
    rw [lp_S, show k = q by omega, he]
    exact ⟨fun _ => rfl, fun z => absurd (fun j a b => absurd a (by omega)) z⟩
  | r + 1, g, k, h1, h2 => by
    obtain ⟨g, rfl⟩ : ∃ g', g = g' + 1 := ⟨g - 1, by omega⟩
    obtain ⟨s1, s2⟩ := hs (lp body g) k (by omega)
    obtain ⟨i1, i2⟩ := lp_all hs he r g (k + 1) (by omega) (by omega)
    rw [lp_S]
    refine ⟨fun z => ?_, fun z => ?_⟩
    · rw [s1 (z k (Nat.le_refl _) (by omega))]
      exact i1 (fun j a b => z j (by omega) b)
    · by_cases e : P k
      · rw [s1 e]
        exact i2 (fun w => z (fun j a b => by
          by_cases y : j = k
          · rw [y]
            exact e
          · exact w j (by omega) b))
      · rw [s2 e]
/-- what stays while all minutes are laid -/
noncomputable def KLd (w w2 : OB) : Prop := w2.1 = w.1 ∧ (∀ j, j ≠ 1 → j ≠ 3 → j ≠ 47 → w2.2.1 j = w.2.1 j) ∧ ∀ j, j ≠ 4 → w2.2.1 1 j = w.2.1 1 j
theorem KLd.rf {w : OB} : KLd w w := ⟨rfl, fun _ _ _ _ => rfl, fun _ _ => rfl⟩
theorem KLd.tr {a b c : OB} (h1 : KLd a b) (h2 : KLd b c) : KLd a c := ⟨h2.1.trans h1.1, fun j p q r => (h2.2.1 j p q r).trans (h1.2.1 j p q r), fun j p => (h2.2.2 j p).trans (h1.2.2 j p)⟩
theorem KGd.l {a b : OB} (k : KGd a b) : KLd a b := ⟨k.1, fun j p q _ => k.2.1 j q p, k.2.2.1⟩
theorem FIn.kl {rl : Option Nat} {mo mo2 : OB} (f : FIn rl mo) (k : KLd mo mo2) : FIn rl mo2 := by
  rcases f with ⟨h1, h2⟩ | ⟨s, h1, h2, h3, ru, h4⟩
  · exact Or.inl ⟨h1, (k.2.2 7 (by decide)).trans h2⟩
  · exact Or.inr ⟨s, h1, h2, (k.2.2 7 (by decide)).trans h3, ru, h4.cg rfl rfl (fun j a b => k.2.1 j (by omega) (by omega) (by omega))⟩
theorem Mus.kl {q He Hd : Nat} {mo mo2 : OB} (m : Mus q He Hd mo) (k : KLd mo mo2) : Mus q He Hd mo2 := fun j hj => by
  rw [k.2.1 38 (by decide) (by decide) (by decide)]
  exact m j hj
theorem KLd.go {mo w w2 : OB} (g : GOd mo w) (k : KLd w w2) : GOd mo w2 := ⟨fun j a b => (congrFun k.1 j).trans (g.1 j a b), fun j p => (k.2.1 j (by omega) (by omega) (by omega)).trans (g.2.1 j p), fun i p => (congrFun (k.2.1 49 (by decide) (by decide) (by decide)) i).trans (g.2.2 i p)⟩
theorem KLd.blk {mo w w2 : OB} (b : BLK mo w) (k : KLd w w2) : BLK mo w2 := by
  unfold BLK
  rw [k.2.1 49 (by decide) (by decide) (by decide)]
  exact b
section RNG
variable {F : Nat} {h : HLd} {cn : Nat → Nat} {S D mi : Nat} {rm tm mo : OB} {rz : Nat → OB} {rl : Option Nat} {x e : Int32} {xi si : Nat → Int32} {xrr : Nat → Option Nat}
theorem wa_loop (H : HOK h) (hc : ∀ k, k < h.1 1 → cn k ≤ 99) (hF : 600 ≤ F) (B : BDd (h.1 3) S D) : ∀ (r k g : Nat) (tm : OB) (xer : Nat → Int32) (rz : Nat → OB), k + r = 61 → r < g → RLx rl e rz mo → CDd h cn (trj mo.2.1 rl 0 0 h cn S D mi k).1 (trj mo.2.1 rl 0 0 h cn S D mi k).2 (mi + k) tm → Hld 0 0 tm → (∀ j, j < k → xer j = nI ((trj mo.2.1 rl 0 0 h cn S D mi j).1 + 256 * (trj mo.2.1 rl 0 0 h cn S D mi j).2)) → ∃ (tm2 : OB) (xer2 : Nat → Int32) (rz2 : Nat → OB), lp (b_X8_watchSixty_21 F xi xrr si rm) g (e, nI k, tm, xer, rz) = some (tm2, xer2, rz2) ∧ KRd tm tm2 ∧ RZk rz rz2 ∧ ∀ j, j < 61 → xer2 j = nI ((trj mo.2.1 rl 0 0 h cn S D mi j).1 + 256 * (trj mo.2.1 rl 0 0 h cn S D mi j).2)
  | 0, k, g, tm, xer, rz, h1, h2, hx, C, L, hxe => by
    obtain ⟨g, rfl⟩ : ∃ g', g = g' + 1 := ⟨g - 1, by omega⟩
    refine ⟨tm, xer, rz, ?_, KRd.rf, RZk.rf, fun j hj => hxe j (by omega)⟩
    rw [lp_S, b_X8_watchSixty_21]
    dsimp only
    rw [if_pos (show (60 : Int32) < nI k from nI_lt (a := 60) (b := k) (by omega) (by omega))]
  | r + 1, k, g, tm, xer, rz, h1, h2, hx, C, L, hxe => by
    obtain ⟨g, rfl⟩ : ∃ g', g = g' + 1 := ⟨g - 1, by omega⟩
    have hq := H.q8
    have Bk := trj_bd (R := mo.2.1) (rl := rl) (He := 0) (Hd := 0) (cn := cn) (mi := mi) H B k
    have hS8 := l28 Bk.1 hq
    have hD8 := l28 Bk.2.1 hq
    obtain ⟨t2, rz2, e1, e2, e3, e4⟩ := pass1 (F := F) H hc hF hx B C L
    obtain ⟨t3', xer3, rz3, i1, i2, i3, i4⟩ := wa_loop H hc hF B r (k + 1) g t2 (upd xer k (nI ((trj mo.2.1 rl 0 0 h cn S D mi k).1 + 256 * (trj mo.2.1 rl 0 0 h cn S D mi k).2))) rz2 (by omega) (by omega) (hx.kz e4) e2 (L.kr e3) (fun j hj => by
      by_cases z : j = k
      · rw [z, pk_us]
      · rw [pk_un z]
        exact hxe j (by omega))
    refine ⟨t3', xer3, rz3, ?_, e3.tr i2, e4.tr i3, i4⟩
    rw [lp_S, b_X8_watchSixty_21]
    dsimp only
    rw [if_neg (show ¬ (60 : Int32) < nI k from nI_nlt (a := 60) (b := k) (by omega) (by omega)), if_pos (ib_n (show k < 61 by omega) (by decide)), e1, bd_some, nI_clamp (show k < 2 ^ 31 by omega), C.2.1.1, C.2.1.2.1, sh8 (by omega) (by omega), nI_1]
    exact i1
/-- all minutes are laid -/
theorem la_loop {R : Nat → Nat → Int32} (H : HOK h) (hc : ∀ k, k < h.1 1 → cn k ≤ 99) (hF : 600 ≤ F) (B : BDd (h.1 3) S D) : ∀ (r k g : Nat) (w : OB), k + r = 61 → r < g → MDd h cn (trj R rl 0 0 h cn S D mi k).1 (trj R rl 0 0 h cn S D mi k).2 (mi + k) w → FIn rl w → Mus (h.1 3) 0 0 w → (∀ j, 29 ≤ j → j ≤ 34 → w.2.1 j = R j) → (∀ j q, j < k → q < h.1 3 → w.2.1 47 (8 * j + q) = nI (stt (trj R rl 0 0 h cn S D mi j).1 (trj R rl 0 0 h cn S D mi j).2 q)) → ∃ w2, lp (b_X9_laysAll_2 F) g (nI k, w) = some w2 ∧ KLd w w2 ∧ ∀ j q, j < 61 → q < h.1 3 → w2.2.1 47 (8 * j + q) = nI (stt (trj R rl 0 0 h cn S D mi j).1 (trj R rl 0 0 h cn S D mi j).2 q)
  | 0, k, g, w, h1, h2, M, f, m, hR, hl => by
    obtain ⟨g, rfl⟩ : ∃ g', g = g' + 1 := ⟨g - 1, by omega⟩
    refine ⟨w, ?_, KLd.rf, fun j q hj hq => hl j q (by omega) hq⟩
    rw [lp_S, b_X9_laysAll_2]
    dsimp only
    rw [if_pos (show (60 : Int32) < nI k from nI_lt (a := 60) (b := k) (by omega) (by omega))]
  | r + 1, k, g, w, h1, h2, M, f, m, hR, hl => by
    obtain ⟨g, rfl⟩ : ∃ g', g = g' + 1 := ⟨g - 1, by omega⟩
    have hq := H.q8
    have M1 : MDd h cn (trj R rl 0 0 h cn S D mi k).1 (trj R rl 0 0 h cn S D mi k).2 (mi + k) (w.1, uF w.2.1 47 (fun j => if 8 * k ≤ j ∧ j < 8 * k + 8 then w.2.1 3 (j - 8 * k) else w.2.1 47 j), w.2.2) := M
    have k1 : KLd w (w.1, uF w.2.1 47 (fun j => if 8 * k ≤ j ∧ j < 8 * k + 8 then w.2.1 3 (j - 8 * k) else w.2.1 47 j), w.2.2) := ⟨rfl, fun j _ _ q => uF_n q, fun _ _ => rfl⟩
    obtain ⟨w2, g1, g2, g3⟩ := go1 (F := F) H hc hF B M1 (f.kl k1) (m.kl k1) (fun j p q => (k1.2.1 j (by omega) (by omega) (by omega)).trans (hR j p q))
    have kk := k1.tr g3.l
    obtain ⟨w3, i1, i2, i3⟩ := la_loop H hc hF B r (k + 1) g w2 (by omega) (by omega) g2 (f.kl kk) (m.kl kk) (fun j p q => (kk.2.1 j (by omega) (by omega) (by omega)).trans (hR j p q)) (fun j q hj hq2 => by
      rw [g3.2.1 47 (by decide) (by decide)]
      show (if 8 * k ≤ 8 * j + q ∧ 8 * j + q < 8 * k + 8 then w.2.1 3 (8 * j + q - 8 * k) else w.2.1 47 (8 * j + q)) = _
      by_cases z : j = k
      · rw [z, if_pos (by omega), show 8 * k + q - 8 * k = q by omega]
        exact M.2.2.2 q hq2
      · rw [if_neg (by omega)]
        exact hl j q (by omega) hq2)
    refine ⟨w3, ?_, kk.tr i2, i3⟩
    have inner : lp (b_X9_laysAll_10 F (lp (b_X9_laysAll_2 F) g)) F (nI k, nI 0, (w.1, uF w.2.1 47 (fun j => if 8 * k ≤ j ∧ j < 8 * k + 0 then w.2.1 3 (j - 8 * k) else w.2.1 47 j), w.2.2)) = some w3 := by
      refine lp_for (st := fun i => (nI k, nI i, (w.1, uF w.2.1 47 (fun j => if 8 * k ≤ j ∧ j < 8 * k + i then w.2.1 3 (j - 8 * k) else w.2.1 47 j), w.2.2))) (q := 8) (fun kk i hi => ?_) (fun kk => ?_) 8 F 0 (by omega) (by omega)
      · unfold b_X9_laysAll_10
        dsimp only
        rw [if_neg (show ¬ (8 : Int32) ≤ nI i from nI_ge (a := i) (b := 8) hi (by decide)), if_pos (ib_n hi (by decide)), show (8 : Int32) = nI 8 from rfl, pk_mul, nI_add, if_pos (ib_n (show 8 * k + i < 488 by omega) (by decide)), nI_clamp (show 8 * k + i < 2 ^ 31 by omega), nI_clamp (show i < 2 ^ 31 by omega), nI_1, uF_uF, uF_s, uF_n (show 3 ≠ 47 by decide)]
        rw [show upd (fun j => if 8 * k ≤ j ∧ j < 8 * k + i then w.2.1 3 (j - 8 * k) else w.2.1 47 j) (8 * k + i) (w.2.1 3 i) = (fun j => if 8 * k ≤ j ∧ j < 8 * k + (i + 1) then w.2.1 3 (j - 8 * k) else w.2.1 47 j) from funext (fun j => by
          by_cases z : j = 8 * k + i
          · rw [z, pk_us, if_pos ⟨by omega, by omega⟩, show 8 * k + i - 8 * k = i by omega]
          · rw [pk_un z]
            by_cases y : 8 * k ≤ j ∧ j < 8 * k + i
            · rw [if_pos y, if_pos ⟨y.1, by omega⟩]
            · rw [if_neg y, if_neg (fun u => y ⟨u.1, by omega⟩)])]
      · unfold b_X9_laysAll_10
        dsimp only
        rw [if_pos (show (8 : Int32) ≤ nI 8 by decide), g1, bd_some, nI_1]
        exact i1
    rw [show (fun j => if 8 * k ≤ j ∧ j < 8 * k + 0 then w.2.1 3 (j - 8 * k) else w.2.1 47 j) = w.2.1 47 from funext (fun j => if_neg (fun z => by omega)), uF_id] at inner
    rw [lp_S, b_X9_laysAll_2]
    dsimp only
    rw [if_neg (show ¬ (60 : Int32) < nI k from nI_nlt (a := 60) (b := k) (by omega) (by omega))]
    exact inner
/-- two pairs of sets are the same if all are the same in them -/
theorem stt_inj {q S D S2 D2 : Nat} (B : BDd q S D) (B2 : BDd q S2 D2) : (∀ j, j < q → stt S D j = stt S2 D2 j) ↔ S = S2 ∧ D = D2 := by
  constructor
  · intro z
    have zD : D = D2 := eq_bS (fun j => by
      by_cases hj : j < q
      · have := z j hj
        rw [← stt_2' (S := S), ← stt_2' (S := S2) (D := D2), this]
      · exact ⟨fun w => absurd w (bS_lt B.2.1 (by omega)), fun w => absurd w (bS_lt B2.2.1 (by omega))⟩)
    refine ⟨eq_bS (fun j => ?_), zD⟩
    by_cases hj : j < q
    · have := z j hj
      rw [← stt_1 B, ← stt_1 B2, this]
    · exact ⟨fun w => absurd w (bS_lt B.1 (by omega)), fun w => absurd w (bS_lt B2.1 (by omega))⟩
  · rintro ⟨rfl, rfl⟩ j _
    rfl
/-- the first two minutes that are alike -/
noncomputable def inS (al : Nat → Nat → Bool) (a : Nat) : Nat → Nat → Option (Nat × Nat)
  | 0, _ => none
  | r + 1, b => if al a b = true then some (a, b) else inS al a r (b + 1)
noncomputable def ouS (al : Nat → Nat → Bool) : Nat → Nat → Option (Nat × Nat)
  | 0, _ => none
  | r + 1, a => match inS al a (60 - a) (a + 1) with
    | some p => some p
    | none => ouS al r (a + 1)
noncomputable def rgS (what : Int32) (mi : Nat) : Option (Nat × Nat) → Int32
  | none => -2
  | some p => if what = 0 then nI mi + nI p.1 else nI p.2 - nI p.1
theorem rg_ci {al : Nat → Nat → Bool} {what : Int32} {a g0 : Nat} {tm : OB} {xer : Nat → Int32} {rz : Nat → OB} (h12 : rm.1 12 = nI mi) (ha : a < 60) (hal : ∀ i j, i < 61 → j < 61 → (xer i = xer j ↔ al i j = true)) : ∀ (r b g : Nat), b + r = 61 → r < g → lp (b_X8_ring_40 F xi xrr si rm (lp (b_X8_ring_30 F xi xrr si rm) g0)) g (what, nI a, nI b, tm, xer, rz) = match inS al a r b with
    | some p => some (rgS what mi (some p), tm, xer, rz)
    | none => lp (b_X8_ring_30 F xi xrr si rm) g0 (what, nI (a + 1), tm, xer, rz)
  | 0, b, g, h1, h2 => by
    obtain ⟨g, rfl⟩ : ∃ g', g = g' + 1 := ⟨g - 1, by omega⟩
    rw [lp_S, b_X8_ring_40]
    dsimp only
    rw [if_pos (show (60 : Int32) < nI b from nI_lt (a := 60) (b := b) (by omega) (by omega)), nI_1]
    rfl
  | r + 1, b, g, h1, h2 => by
    obtain ⟨g, rfl⟩ : ∃ g', g = g' + 1 := ⟨g - 1, by omega⟩
    rw [lp_S, b_X8_ring_40]
    unfold b_X8_ring_83
    dsimp only
    rw [if_neg (show ¬ (60 : Int32) < nI b from nI_nlt (a := 60) (b := b) (by omega) (by omega)), if_pos (ib_n (show a < 61 by omega) (by decide)), if_pos (ib_n (show b < 61 by omega) (by decide)), nI_clamp (show a < 2 ^ 31 by omega), nI_clamp (show b < 2 ^ 31 by omega), nI_1, h12]
    show _ = match (if al a b = true then some (a, b) else inS al a r (b + 1)) with
      | some p => some (rgS what mi (some p), tm, xer, rz)
      | none => lp (b_X8_ring_30 F xi xrr si rm) g0 (what, nI (a + 1), tm, xer, rz)
    by_cases z : al a b = true
    · rw [if_pos ((hal a b (by omega) (by omega)).mpr z), if_pos z]
      show (if what = 0 then _ else _) = some ((if what = 0 then nI mi + nI a else nI b - nI a), tm, xer, rz)
      split <;> rfl
    · rw [if_neg (fun w => z ((hal a b (by omega) (by omega)).mp w)), if_neg z]
      exact rg_ci h12 ha hal r (b + 1) g (by omega) (by omega)
theorem rg_co {al : Nat → Nat → Bool} {what : Int32} {tm : OB} {xer : Nat → Int32} {rz : Nat → OB} (h12 : rm.1 12 = nI mi) (hF : 600 ≤ F) (hal : ∀ i j, i < 61 → j < 61 → (xer i = xer j ↔ al i j = true)) : ∀ (r a g : Nat), a + r = 60 → r < g → lp (b_X8_ring_30 F xi xrr si rm) g (what, nI a, tm, xer, rz) = some (rgS what mi (ouS al r a), tm, xer, rz)
  | 0, a, g, h1, h2 => by
    obtain ⟨g, rfl⟩ : ∃ g', g = g' + 1 := ⟨g - 1, by omega⟩
    rw [lp_S, b_X8_ring_30]
    dsimp only
    rw [if_pos (show (60 : Int32) ≤ nI a from nI_le (a := 60) (b := a) (by omega) (by omega))]
    rfl
  | r + 1, a, g, h1, h2 => by
    obtain ⟨g, rfl⟩ : ∃ g', g = g' + 1 := ⟨g - 1, by omega⟩
    rw [lp_S, b_X8_ring_30]
    dsimp only
    rw [if_neg (show ¬ (60 : Int32) ≤ nI a from nI_ge (a := a) (b := 60) (by omega) (by decide)), nI_1, rg_ci h12 (by omega) hal (60 - a) (a + 1) F (by omega) (by omega)]
    show _ = some (rgS what mi (match inS al a (60 - a) (a + 1) with
      | some p => some p
      | none => ouS al r (a + 1)), tm, xer, rz)
    cases inS al a (60 - a) (a + 1) with
    | some p => rfl
    | none => exact rg_co h12 hF hal r (a + 1) g (by omega) (by omega)
theorem rg_ri {al : Nat → Nat → Bool} {what : Int32} {a g0 : Nat} {w : OB} (h4 : w.2.1 1 4 = nI mi) (ha : a < 60) (hal : ∀ i j, i < 61 → j < 61 → f_X9_isAlike F (nI i) (nI j) w = some (if al i j = true then 1 else 0)) : ∀ (r b g : Nat), b + r = 61 → r < g → lp (b_X9_ring_43 F (lp (b_X9_ring_33 F) g0)) g (what, nI a, nI b, w) = match inS al a r b with
    | some p => some (rgS what mi (some p), w)
    | none => lp (b_X9_ring_33 F) g0 (what, nI (a + 1), w)
  | 0, b, g, h1, h2 => by
    obtain ⟨g, rfl⟩ : ∃ g', g = g' + 1 := ⟨g - 1, by omega⟩
    rw [lp_S, b_X9_ring_43]
    dsimp only
    rw [if_pos (show (60 : Int32) < nI b from nI_lt (a := 60) (b := b) (by omega) (by omega)), nI_1]
    rfl
  | r + 1, b, g, h1, h2 => by
    obtain ⟨g, rfl⟩ : ∃ g', g = g' + 1 := ⟨g - 1, by omega⟩
    rw [lp_S, b_X9_ring_43]
    unfold b_X9_ring_76
    dsimp only
    rw [if_neg (show ¬ (60 : Int32) < nI b from nI_nlt (a := 60) (b := b) (by omega) (by omega)), hal a b (by omega) (by omega), bd_some, nI_1, show Int32.toNatClampNeg 4 = 4 from by decide, h4]
    show _ = match (if al a b = true then some (a, b) else inS al a r (b + 1)) with
      | some p => some (rgS what mi (some p), w)
      | none => lp (b_X9_ring_33 F) g0 (what, nI (a + 1), w)
    by_cases z : al a b = true
    · rw [if_pos z, if_neg (show ¬ (1 : Int32) = 0 by decide), if_pos z]
      show (if what = 0 then _ else _) = some ((if what = 0 then nI mi + nI a else nI b - nI a), w)
      split <;> rfl
    · rw [if_neg z, if_pos rfl, if_neg z]
      exact rg_ri h4 ha hal r (b + 1) g (by omega) (by omega)
theorem rg_ro {al : Nat → Nat → Bool} {what : Int32} {w : OB} (h4 : w.2.1 1 4 = nI mi) (hF : 600 ≤ F) (hal : ∀ i j, i < 61 → j < 61 → f_X9_isAlike F (nI i) (nI j) w = some (if al i j = true then 1 else 0)) : ∀ (r a g : Nat), a + r = 60 → r < g → lp (b_X9_ring_33 F) g (what, nI a, w) = some (rgS what mi (ouS al r a), w)
  | 0, a, g, h1, h2 => by
    obtain ⟨g, rfl⟩ : ∃ g', g = g' + 1 := ⟨g - 1, by omega⟩
    rw [lp_S, b_X9_ring_33]
    dsimp only
    rw [if_pos (show (60 : Int32) ≤ nI a from nI_le (a := 60) (b := a) (by omega) (by omega))]
    rfl
  | r + 1, a, g, h1, h2 => by
    obtain ⟨g, rfl⟩ : ∃ g', g = g' + 1 := ⟨g - 1, by omega⟩
    rw [lp_S, b_X9_ring_33]
    dsimp only
    rw [if_neg (show ¬ (60 : Int32) ≤ nI a from nI_ge (a := a) (b := 60) (by omega) (by decide)), nI_1, rg_ri h4 (by omega) hal (60 - a) (a + 1) F (by omega) (by omega)]
    show _ = some (rgS what mi (match inS al a (60 - a) (a + 1) with
      | some p => some p
      | none => ouS al r (a + 1)), w)
    cases inS al a (60 - a) (a + 1) with
    | some p => rfl
    | none => exact rg_ro h4 hF hal r (a + 1) g (by omega) (by omega)
theorem q_ring {xer : Nat → Int32} (H : HOK h) (hc : ∀ k, k < 4 → cn k ≤ 99) (C : CDd h cn S D mi rm) (M : MDd h cn S D mi mo) (B : BDd (h.1 3) S D) (hF : 600 ≤ F) (hw : Rw (rm.2.1 4) 4 99) (hri : f_X8_ruleInForce F xi xrr si = some e) (hx : RLx rl e rz mo) (hf : FIn rl mo) (hm : Mus (h.1 3) 0 0 mo) : ∃ (r : Int32) (tm2 w : OB) (xer2 : Nat → Int32) (rz2 : Nat → OB), f_X8_ring F x xi xrr si rm tm xer rz = some (r, tm2, xer2, rz2) ∧ f_X9_ring F x mo = some (r, w) ∧ QKd mo w ∧ RZk rz rz2 ∧ (Rw (tm.2.1 4) 4 99 → Rw (tm2.2.1 4) 4 99) := by
  have t01 := H.1
  have hq := H.q8
  have hcs : ∀ k, k < h.1 1 → cn k ≤ 99 := fun k hk => hc k (by have := H.2.1; omega)
  have e0 := r_isHall (F := F) H M.1
  have e3 := in_c (F := F) (x := x) (a := 0) (b := 1) (la := 0) (lb := 1) (by decide) (by decide)
  have y1 : (1 : Int32).toInt = 1 := by decide
  by_cases c : h.1 0 = 1 ∧ 0 ≤ x.toInt ∧ x.toInt ≤ 1
  · obtain ⟨c1, c2⟩ := c
    obtain ⟨t0, w0, a1, a2, a3, a4, a5, a6, a7, a8⟩ := try_b (F := F) (tm := tm) H C M hF
    obtain ⟨t1, xer1, rz1, b1, b2, b3, b4⟩ := wa_loop (F := F) (rm := rm) (xi := xi) (si := si) (xrr := xrr) H hcs hF B 61 0 F t0 xer rz (by omega) (by omega) hx a3 (hld0 a4) (fun j hj => absurd hj (Nat.not_lt_zero _))
    obtain ⟨w1, d1, d2, d3⟩ := la_loop (F := F) (R := mo.2.1) H hcs hF B 61 0 F w0 (by omega) (by omega) a6 (a8.f hf) (a8.m hm) (fun j p q => a8.2.1 j (by omega)) (fun j q hj => absurd hj (Nat.not_lt_zero _))
    obtain ⟨w2, f1, f2, f3, f4⟩ := lays_q (F := F) hF (d2.blk a7) (KLd.go a8.go d2) (fun i hi => by rw [d2.2.1 38 (by decide) (by decide) (by decide), a8.2.1 38 (by decide)])
    have M2 := M.q H f2
    have bd := fun k => trj_bd (R := mo.2.1) (rl := rl) (He := 0) (Hd := 0) (cn := cn) (mi := mi) H B k
    have hal : ∀ i j, i < 61 → j < 61 → (xer1 i = xer1 j ↔ (fun i j => decide (trj mo.2.1 rl 0 0 h cn S D mi i = trj mo.2.1 rl 0 0 h cn S D mi j)) i j = true) := fun i j hi hj => by
      have s1 := l28 (bd i).1 hq
      have s2 := l28 (bd i).2.1 hq
      have s3 := l28 (bd j).1 hq
      have s4 := l28 (bd j).2.1 hq
      rw [b4 i hi, b4 j hj, nI_eq (by omega) (by omega)]
      show _ ↔ decide (trj mo.2.1 rl 0 0 h cn S D mi i = trj mo.2.1 rl 0 0 h cn S D mi j) = true
      rw [decide_eq_true_eq]
      constructor
      · intro z
        exact Prod.ext (by omega) (by omega)
      · intro z
        rw [z]
    have hal9 : ∀ i j, i < 61 → j < 61 → f_X9_isAlike F (nI i) (nI j) w2 = some (if (fun i j => decide (trj mo.2.1 rl 0 0 h cn S D mi i = trj mo.2.1 rl 0 0 h cn S D mi j)) i j = true then 1 else 0) := fun i j hi hj => by
      have l47 : w2.2.1 47 = w1.2.1 47 := f4.2.1 47 (by omega)
      have key := lp_all (body := b_X9_isAlike_2 F w2) (st := fun q => (nI i, nI j, nI q)) (q := h.1 3) (P := fun q => stt (trj mo.2.1 rl 0 0 h cn S D mi i).1 (trj mo.2.1 rl 0 0 h cn S D mi i).2 q = stt (trj mo.2.1 rl 0 0 h cn S D mi j).1 (trj mo.2.1 rl 0 0 h cn S D mi j).2 q) (fun kk q hq2 => ?_) (fun kk => ?_) (h.1 3) F 0 (by omega) (by omega)
      · have eqv := stt_inj (bd i) (bd j)
        unfold f_X9_isAlike
        by_cases z : trj mo.2.1 rl 0 0 h cn S D mi i = trj mo.2.1 rl 0 0 h cn S D mi j
        · rw [if_pos (decide_eq_true z)]
          exact key.1 (fun q _ _ => by rw [z])
        · rw [if_neg (by show ¬ decide (trj mo.2.1 rl 0 0 h cn S D mi i = trj mo.2.1 rl 0 0 h cn S D mi j) = true; rw [decide_eq_true_eq]; exact z)]
          exact key.2 (fun y => z (Prod.ext_iff.mpr (eqv.mp (fun q hq2 => y q (Nat.zero_le _) hq2))))
      · have s1 := stt_lt (trj mo.2.1 rl 0 0 h cn S D mi i).1 (trj mo.2.1 rl 0 0 h cn S D mi i).2 q
        have s2 := stt_lt (trj mo.2.1 rl 0 0 h cn S D mi j).1 (trj mo.2.1 rl 0 0 h cn S D mi j).2 q
        unfold b_X9_isAlike_2
        dsimp only
        rw [t3, M2.1.1.2.2.2, if_neg (nI_ge hq2 (by omega)), show (8 : Int32) = nI 8 from rfl, pk_mul, pk_mul, nI_add, nI_add, if_pos (ib_n (show 8 * i + q < 488 by omega) (by decide)), if_pos (ib_n (show 8 * j + q < 488 by omega) (by decide)), nI_clamp (show 8 * i + q < 2 ^ 31 by omega), nI_clamp (show 8 * j + q < 2 ^ 31 by omega), l47, d3 i q hi hq2, d3 j q hj hq2, nI_1]
        exact ⟨fun z => if_pos (by rw [z]), fun z => if_neg (fun y => z ((nI_eq (by omega) (by omega)).mp y))⟩
      · unfold b_X9_isAlike_2
        dsimp only
        rw [t3, M2.1.1.2.2.2, if_pos (nI_le (Nat.le_refl _) (by omega))]
    have r1 := rg_co (F := F) (rm := rm) (xi := xi) (si := si) (xrr := xrr) (what := x) (tm := t1) (xer := xer1) (rz := rz1) C.2.1.2.2 hF hal 60 0 F (by omega) (by omega)
    have r2 := rg_ro (F := F) (what := x) M2.2.1 hF hal9 60 0 F (by omega) (by omega)
    refine ⟨rgS x mi (ouS (fun i j => decide (trj mo.2.1 rl 0 0 h cn S D mi i = trj mo.2.1 rl 0 0 h cn S D mi j)) 60 0), t1, w2, xer1, rz1, ?_, ?_, f2, b3, fun _ j hj => ?_⟩
    rotate_left 1
    · unfold f_X9_ring f_X9_laysAll
      rw [e0, bd_some, if_pos c1, if_neg (show ¬ (1 : Int32) = 0 by decide), e3, bd_some, if_pos c2, if_neg (show ¬ (1 : Int32) = 0 by decide), a2, bd_some, show lp (b_X9_laysAll_2 F) F (0, w0) = some w1 from d1, bd_some, f1, bd_some]
      exact r2
    · rw [b2.2.1 4 (by decide) (by decide)]
      exact (Rw.cp (tm := tm) hw a5) j hj
    · unfold f_X8_ring f_X8_watchSixty
      rw [C.1.1.1, c1, if_neg (show ¬ nI 1 = 0 by decide), if_neg (fun z => by rw [sp_lt, sp0] at z; omega), if_pos (by rw [sp_le, y1]; omega), hri, bd_some, a1, bd_some, show lp (b_X8_watchSixty_21 F xi xrr si rm) F (e, 0, t0, xer, rz) = some (t1, xer1, rz1) from b1, bd_some]
      exact r1
  · refine ⟨-1, tm, mo, xer, rz, ?_, ?_, QKd.rf, RZk.rf, fun z => z⟩
    · unfold f_X8_ring b_X8_ring_22
      rw [C.1.1.1]
      by_cases d1 : h.1 0 = 1
      · rw [d1, if_neg (show ¬ nI 1 = 0 by decide)]
        by_cases d2 : x < 0
        · rw [if_pos d2]
        · rw [if_neg d2, if_neg (fun d3 => c ⟨d1, by
            rw [sp_lt, sp0] at d2
            rw [sp_le, y1] at d3
            omega⟩)]
      · rw [show h.1 0 = 0 by omega, if_pos (show nI 0 = 0 from rfl)]
    · unfold f_X9_ring b_X9_ring_17
      rw [e0, bd_some]
      by_cases d1 : h.1 0 = 1
      · rw [if_pos d1, if_neg (show ¬ (1 : Int32) = 0 by decide), e3, bd_some, if_neg (fun z => c ⟨d1, z⟩), if_pos rfl]
      · rw [if_neg d1, if_pos rfl]
end RNG
