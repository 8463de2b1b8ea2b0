/-! a minute: by the reference -/
noncomputable def KGd (mo mo2 : OB) : Prop := mo2.1 = mo.1 ∧ (∀ j, j ≠ 3 → j ≠ 1 → mo2.2.1 j = mo.2.1 j) ∧ (∀ j, j ≠ 4 → mo2.2.1 1 j = mo.2.1 1 j) ∧ ∀ j, j ≠ 36 → j ≠ 37 → mo2.2.2 j = mo.2.2 j
theorem KGd.rf {mo : OB} : KGd mo mo := ⟨rfl, fun _ _ _ => rfl, fun _ _ => rfl, fun _ _ _ => rfl⟩
theorem KGd.tr {a b c : OB} (h1 : KGd a b) (h2 : KGd b c) : KGd a c := ⟨h2.1.trans h1.1, fun j p q => (h2.2.1 j p q).trans (h1.2.1 j p q), fun j p => (h2.2.2.1 j p).trans (h1.2.2.1 j p), fun j p q => (h2.2.2.2 j p q).trans (h1.2.2.2 j p q)⟩
theorem KMd.g {a b : OB} (h1 : KMd a b) : KGd a b := ⟨h1.1, fun j p _ => h1.2.1 j p, fun j _ => congrFun (h1.2.1 1 (by decide)) j, fun j _ _ => congrFun h1.2.2 j⟩
/-- which rule is in force in the reference -/
noncomputable def FIn (rl : Option Nat) (mo : OB) : Prop := (rl = none ∧ mo.2.1 1 7 = -1) ∨ ∃ s, rl = some s ∧ s < 6 ∧ mo.2.1 1 7 = nI s ∧ ∃ ru, RLk s ru mo
theorem FIn.kg {rl : Option Nat} {mo mo2 : OB} (f : FIn rl mo) (k : KGd mo mo2) : FIn rl mo2 := by
  rcases f with ⟨h1, h2⟩ | ⟨s, h1, h2, h3, ru, h4⟩
  · exact Or.inl ⟨h1, (k.2.2.1 7 (by decide)).trans h2⟩
  · exact Or.inr ⟨s, h1, h2, (k.2.2.1 7 (by decide)).trans h3, ru, h4.cg rfl rfl (fun j a b => k.2.1 j (by omega) (by omega))⟩
/-- who must do what in the reference -/
noncomputable def Mus (q He Hd : Nat) (mo : OB) : Prop := ∀ k, k < q → mo.2.1 38 k = if bS He k then (if bS Hd k then 1 else 0) else -1
theorem Mus.kg {q He Hd : Nat} {mo mo2 : OB} (m : Mus q He Hd mo) (k : KGd mo mo2) : Mus q He Hd mo2 := fun j hj => by
  rw [k.2.1 38 (by decide) (by decide)]
  exact m j hj
section GOS
variable {F : Nat} {h : HLd} {cn : Nat → Nat} {S D mi : Nat}
theorem stt_lt (S D j : Nat) : stt S D j < 3 := by
  unfold stt
  by_cases a : bS D j
  · rw [if_pos a]
    decide
  · rw [if_neg a]
    by_cases b : bS S j
    · rw [if_pos b]
      decide
    · rw [if_neg b]
      decide
theorem stt_2 {S D j : Nat} : nI (stt S D j) = 2 ↔ bS D j := by
  have hl := stt_lt S D j
  have e : nI (stt S D j) = 2 ↔ stt S D j = 2 := nI_eq (b := 2) (by omega) (by decide)
  rw [e]
  unfold stt
  by_cases a : bS D j
  · rw [if_pos a]
    exact ⟨fun _ => a, fun _ => rfl⟩
  · rw [if_neg a]
    by_cases b : bS S j
    · rw [if_pos b]
      exact ⟨fun z => absurd z (by decide), fun z => absurd z a⟩
    · rw [if_neg b]
      exact ⟨fun z => absurd z (by decide), fun z => absurd z a⟩
/-- one is told how they are -/
theorem MDd.set {mo mo' : OB} {k : Nat} {b : Bool} {v : Int32} (M : MDd h cn S D mi mo) (hm : mo'.2.1 = mo.2.1) (hv : v = if bS D k then 2 else if b = true then 1 else 0) : MDd h cn (sT1 D k b S) D mi (mo'.1, uF mo'.2.1 3 (upd (mo'.2.1 3) k v), mo'.2.2) := by
  rw [hm]
  refine ⟨M.1.km (fun j hj => uF_n hj), M.2.1, M.2.2.1, fun j hj => ?_⟩
  show uF mo.2.1 3 (upd (mo.2.1 3) k v) 3 j = _
  rw [uF_s]
  by_cases e : j = k
  · rw [e, pk_us, hv]
    unfold stt
    by_cases hd : bS D k
    · rw [if_pos hd, if_pos hd]
      rfl
    · rw [if_neg hd, if_neg hd]
      by_cases hb : b = true
      · rw [if_pos hb, if_pos (by rw [sT1_bit, if_pos ⟨rfl, hd⟩]; exact hb)]
        rfl
      · rw [if_neg hb, if_neg (by rw [sT1_bit, if_pos ⟨rfl, hd⟩]; exact hb)]
        rfl
  · rw [pk_un e, M.2.2.2 j hj]
    unfold stt
    have hb : bS (sT1 D k b S) j ↔ bS S j := by
      rw [sT1_bit, if_neg (fun z => e z.1)]
    by_cases hd : bS D j
    · rw [if_pos hd, if_pos hd]
    · rw [if_neg hd, if_neg hd]
      by_cases z : bS S j
      · rw [if_pos z, if_pos (hb.mpr z)]
      · rw [if_neg z, if_neg (fun w => z (hb.mp w))]
theorem go_loop {R : Nat → Nat → Int32} {rl : Option Nat} {He Hd : Nat} (H : HOK h) (hc : ∀ k, k < h.1 1 → cn k ≤ 99) (hF : 600 ≤ F) (B : BDd (h.1 3) S D) : ∀ (r k g : Nat) (mo : OB), k + r = h.1 3 → r < g → MDd h cn (spN (chS R rl He Hd h cn D mi) D k S) D mi mo → FIn rl mo → Mus (h.1 3) He Hd mo → (∀ j, 29 ≤ j → j ≤ 34 → mo.2.1 j = R j) → ∃ mo2, lp (b_X9_goes_2 F) g (nI k, mo) = Option.bind (f_X9_settles F (mo2.1, uF mo2.2.1 1 (upd (mo2.2.1 1) 4 (mo2.2.1 1 4 + 1)), mo2.2.2)) (fun q3 => some (q3.1, q3.2)) ∧ MDd h cn (spN (chS R rl He Hd h cn D mi) D (h.1 3) S) D mi mo2 ∧ KGd mo mo2
  | 0, k, g, mo, h1, h2, M, f, m, hR => by
    obtain ⟨g, rfl⟩ : ∃ g', g = g' + 1 := ⟨g - 1, by omega⟩
    have hq := H.q8
    have ek : k = h.1 3 := by omega
    subst ek
    refine ⟨mo, ?_, M, KGd.rf⟩
    rw [lp_S, b_X9_goes_2]
    dsimp only
    rw [t3, M.1.1.2.2.2, if_pos (nI_le (Nat.le_refl _) (by omega)), show Int32.toNatClampNeg 4 = 4 from by decide]
  | r + 1, k, g, mo, h1, h2, M, f, m, hR => by
    obtain ⟨g, rfl⟩ : ∃ g', g = g' + 1 := ⟨g - 1, by omega⟩
    have hq := H.q8
    have hk : k < h.1 3 := by omega
    have Bk := spN_bd (ch := chS R rl He Hd h cn D mi) B k (by omega)
    have i8 : ib (nI k) 8 := ib_n (show k < 8 by omega) (by decide)
    have kc : Int32.toNatClampNeg (nI k) = k := nI_clamp (by omega)
    -- what is told is told
    have put : ∀ (v : Int32) (b : Bool) (mo' : OB), mo'.1 = mo.1 → mo'.2.1 = mo.2.1 → (∀ j, j ≠ 36 → j ≠ 37 → mo'.2.2 j = mo.2.2 j) → (v = if bS D k then 2 else if b = true then 1 else 0) → (bS D k ∨ chS R rl He Hd h cn D mi k (spN (chS R rl He Hd h cn D mi) D k S) = b) → ∃ mo2, b_X9_goes_36 F (lp (b_X9_goes_2 F) g) (nI k) v (nI k) mo' = Option.bind (f_X9_settles F (mo2.1, uF mo2.2.1 1 (upd (mo2.2.1 1) 4 (mo2.2.1 1 4 + 1)), mo2.2.2)) (fun q3 => some (q3.1, q3.2)) ∧ MDd h cn (spN (chS R rl He Hd h cn D mi) D (h.1 3) S) D mi mo2 ∧ KGd mo mo2 := fun v b mo' e1 e2 e3 hv hch => by
      have M2 := M.set (k := k) (b := b) (v := v) e2 hv
      have K2 : KGd mo (mo'.1, uF mo'.2.1 3 (upd (mo'.2.1 3) k v), mo'.2.2) := ⟨e1, fun j p _ => by
        show uF mo'.2.1 3 (upd (mo'.2.1 3) k v) j = _
        rw [uF_n p, e2], fun j _ => by
        show uF mo'.2.1 3 (upd (mo'.2.1 3) k v) 1 j = _
        rw [uF_n (by decide), e2], e3⟩
      have e4 : sT1 D k b (spN (chS R rl He Hd h cn D mi) D k S) = spN (chS R rl He Hd h cn D mi) D (k + 1) S := by
        show _ = sT1 D k (chS R rl He Hd h cn D mi k (spN (chS R rl He Hd h cn D mi) D k S)) (spN (chS R rl He Hd h cn D mi) D k S)
        rcases hch with z | z
        · rw [sT1_dr z, sT1_dr z]
        · rw [z]
      rw [e4] at M2
      obtain ⟨mo3, g1, g2, g3⟩ := go_loop H hc hF B r (k + 1) g _ (by omega) (by omega) M2 (f.kg K2) (m.kg K2) (fun j a b => (K2.2.1 j (by omega) (by omega)).trans (hR j a b))
      refine ⟨mo3, ?_, g2, K2.tr g3⟩
      unfold b_X9_goes_36
      rw [if_pos i8, kc, nI_1]
      exact g1
    rw [lp_S, b_X9_goes_2]
    dsimp only
    rw [t3, M.1.1.2.2.2, if_neg (nI_ge hk (by omega)), if_pos i8, kc, M.2.2.2 k hk]
    by_cases hd : bS D k
    · rw [if_pos (stt_2.mpr hd)]
      exact put 2 true mo rfl rfl (fun _ _ _ => rfl) (by rw [if_pos hd]) (Or.inl hd)
    · rw [if_neg (fun z => hd (stt_2.mp z))]
      by_cases hb : bS He k
      · have em : mo.2.1 38 k = if bS Hd k then 1 else 0 := by rw [m k hk, if_pos hb]
        have ech : f_X9_choice F (nI k) mo = some (if bS Hd k then 1 else 0, mo) := by
          unfold f_X9_choice
          rw [if_pos i8, kc, if_neg (by
            rw [em]
            by_cases z : bS Hd k
            · rw [if_pos z]
              decide
            · rw [if_neg z]
              decide), em]
        rw [ech, bd_some]
        exact put (if bS Hd k then 1 else 0) (decide (bS Hd k)) mo rfl rfl (fun _ _ _ => rfl) (by
          rw [if_neg hd]
          by_cases z : bS Hd k
          · rw [if_pos z, if_pos (decide_eq_true z)]
          · rw [if_neg z, if_neg (by rw [decide_eq_true_eq]; exact z)]) (Or.inr (by
          unfold chS
          rw [if_pos hb]))
      · have em : mo.2.1 38 k = -1 := by rw [m k hk, if_neg hb]
        have f0 := f
        rcases f with ⟨hn, h7⟩ | ⟨s, hn, hs, h7, ru, hru⟩
        · subst hn
          have ech : f_X9_choice F (nI k) mo = some (nI (stt (spN (chS R none He Hd h cn D mi) D k S) D k), mo) := by
            unfold f_X9_choice
            rw [if_pos i8, kc, if_pos em, show Int32.toNatClampNeg 7 = 7 from by decide, if_pos h7, M.2.2.2 k hk]
          rw [ech, bd_some]
          exact put _ (decide (bS (spN (chS R none He Hd h cn D mi) D k S) k)) mo rfl rfl (fun _ _ _ => rfl) (by
            rw [if_neg hd]
            unfold stt
            rw [if_neg hd]
            by_cases z : bS (spN (chS R none He Hd h cn D mi) D k S) k
            · rw [if_pos z, if_pos (decide_eq_true z)]
              rfl
            · rw [if_neg z, if_neg (by rw [decide_eq_true_eq]; exact z)]
              rfl) (Or.inr (by
            unfold chS
            rw [if_neg hb]))
        · subst hn
          have h7' : ¬ mo.2.1 1 7 = -1 := by
            rw [h7]
            exact nI_nm1 (by omega)
          obtain ⟨A, hA, e1⟩ := choice_w (F := F) H hc M Bk hk hd hF em h7'
          obtain ⟨rs2, e2⟩ := wanted_r (F := F) (A := A) H hc hF hs hru h7 Bk hk hA
          have eW : wnt mo.2.1 s (wvS h cn (spN (chS R (some s) He Hd h cn D mi) D k S) D mi k) = wnt R s (wvS h cn (spN (chS R (some s) He Hd h cn D mi) D k S) D mi k) := wnt_cg hR
          rw [eW] at e2
          have ech : f_X9_choice F (nI k) mo = some (if lg_cmp (wnt R s (wvS h cn (spN (chS R (some s) He Hd h cn D mi) D k S) D mi k)) 0 ≤ 0 then 0 else 1, mst (mas mo A) rs2) := by
            rw [e1]
            unfold b_X9_choice_218 b_X9_choice_232
            rw [e2, bd_some]
            dsimp only
            split <;> rfl
          rw [ech, bd_some]
          exact put _ (decide (¬ lg_cmp (wnt R s (wvS h cn (spN (chS R (some s) He Hd h cn D mi) D k S) D mi k)) 0 ≤ 0)) (mst (mas mo A) rs2) rfl rfl (fun j p q => by
            show uF (uF mo.2.2 36 A) 37 rs2 j = _
            rw [uF_n q, uF_n p]) (by
            rw [if_neg hd]
            by_cases z : lg_cmp (wnt R s (wvS h cn (spN (chS R (some s) He Hd h cn D mi) D k S) D mi k)) 0 ≤ 0
            · rw [if_pos z, if_neg (by rw [decide_eq_true_eq]; exact fun w => w z)]
            · rw [if_neg z, if_pos (decide_eq_true z)]) (Or.inr (by
            show (if bS He k then decide (bS Hd k) else decide (¬ lg_cmp (wnt R s (wvS h cn (spN (chS R (some s) He Hd h cn D mi) D k S) D mi k)) 0 ≤ 0)) = _
            rw [if_neg hb]))
theorem MDd.min {mo : OB} (M : MDd h cn S D mi mo) : MDd h cn S D (mi + 1) (mo.1, uF mo.2.1 1 (upd (mo.2.1 1) 4 (mo.2.1 1 4 + 1)), mo.2.2) ∧ KGd mo (mo.1, uF mo.2.1 1 (upd (mo.2.1 1) 4 (mo.2.1 1 4 + 1)), mo.2.2) := by
  obtain ⟨⟨⟨a0, a1, a2, a3⟩, M4, M5, M6⟩, M7, M8, M9⟩ := M
  have e4 : (uF mo.2.1 1 (upd (mo.2.1 1) 4 (mo.2.1 1 4 + 1)) : Nat → Nat → Int32) 1 = upd (mo.2.1 1) 4 (mo.2.1 1 4 + 1) := uF_s
  have u4 : ∀ j, j ≠ 4 → (uF mo.2.1 1 (upd (mo.2.1 1) 4 (mo.2.1 1 4 + 1)) : Nat → Nat → Int32) 1 j = mo.2.1 1 j := fun j hj => by
    rw [e4]
    exact pk_un hj
  refine ⟨⟨⟨⟨(u4 0 (by decide)).trans a0, (u4 1 (by decide)).trans a1, (u4 2 (by decide)).trans a2, (u4 3 (by decide)).trans a3⟩, M4, M5, M6⟩, ?_, M8, M9⟩, rfl, fun j _ q => uF_n q, fun j p => u4 j p, fun _ _ _ => rfl⟩
  show (uF mo.2.1 1 (upd (mo.2.1 1) 4 (mo.2.1 1 4 + 1)) : Nat → Nat → Int32) 1 4 = nI (mi + 1)
  rw [e4]
  refine pk_us.trans ?_
  rw [M7, nI_1]
theorem s_goes9 {R : Nat → Nat → Int32} {rl : Option Nat} {He Hd : Nat} {mo : OB} (H : HOK h) (hc : ∀ k, k < h.1 1 → cn k ≤ 99) (hF : 600 ≤ F) (M : MDd h cn S D mi mo) (B : BDd (h.1 3) S D) (f : FIn rl mo) (m : Mus (h.1 3) He Hd mo) (hR : ∀ j, 29 ≤ j → j ≤ 34 → mo.2.1 j = R j) : ∃ mo2, f_X9_goes F mo = some (nI (mnS R rl He Hd h cn S D mi).2.2, mo2) ∧ MDd h cn (mnS R rl He Hd h cn S D mi).1 (mnS R rl He Hd h cn S D mi).2.1 (mi + 1) mo2 ∧ KGd mo mo2 := by
  have hq := H.q8
  obtain ⟨mo2, e1, e2, e3⟩ := go_loop (F := F) (R := R) (rl := rl) (He := He) (Hd := Hd) H hc hF B (h.1 3) 0 F mo (by omega) (by omega) M f m hR
  obtain ⟨M3, K3⟩ := e2.min
  obtain ⟨mo4, f1, f2, f3⟩ := s_settles H hc hF M3 (spN_bd B _ (Nat.le_refl _))
  refine ⟨mo4, ?_, f2, (e3.tr K3).tr f3.g⟩
  have e1 : f_X9_goes F mo = _ := e1
  rw [e1, f1, bd_some]
  rfl
end GOS
