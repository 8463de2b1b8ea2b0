/-! toasts: by both -/
/-- one minute of toasts -/
noncomputable def ts1 (R : Nat → Nat → Int32) (rl : Option Nat) (h : HLd) (cn : Nat → Nat) (mi od j : Nat) (p : Nat × Nat × Nat) : Nat × Nat × Nat := if drO p.1 100 < od ∧ 0 < h.1 3 then (drN (drN p.1), (mnS R rl 0 0 h cn (tnS h cn p.2.1 p.2.2 (drO (drN p.1) (h.1 3))).1 (tnS h cn p.2.1 p.2.2 (drO (drN p.1) (h.1 3))).2.1 (mi + j)).1, (mnS R rl 0 0 h cn (tnS h cn p.2.1 p.2.2 (drO (drN p.1) (h.1 3))).1 (tnS h cn p.2.1 p.2.2 (drO (drN p.1) (h.1 3))).2.1 (mi + j)).2.1) else (drN p.1, (mnS R rl 0 0 h cn p.2.1 p.2.2 (mi + j)).1, (mnS R rl 0 0 h cn p.2.1 p.2.2 (mi + j)).2.1)
noncomputable def tsS (R : Nat → Nat → Int32) (rl : Option Nat) (h : HLd) (cn : Nat → Nat) (mi od : Nat) (p : Nat × Nat × Nat) : Nat → Nat × Nat × Nat
  | 0 => p
  | j + 1 => ts1 R rl h cn mi od j (tsS R rl h cn mi od p j)
/-- what of the reference stays in a minute of toasts -/
noncomputable def KTd (mo w : OB) : Prop := w.1 = mo.1 ∧ (∀ j, j ≠ 3 → j ≠ 1 → w.2.1 j = mo.2.1 j) ∧ (∀ j, j ≠ 4 → j ≠ 6 → w.2.1 1 j = mo.2.1 1 j) ∧ ∀ j, j ≠ 36 → j ≠ 37 → w.2.2 j = mo.2.2 j
theorem KTd.rf {a : OB} : KTd a a := ⟨rfl, fun _ _ _ => rfl, fun _ _ _ => rfl, fun _ _ _ => rfl⟩
theorem KTd.tr {a b c : OB} (h1 : KTd a b) (h2 : KTd b c) : KTd a c := ⟨h2.1.trans h1.1, fun j p q => (h2.2.1 j p q).trans (h1.2.1 j p q), fun j p q => (h2.2.2.1 j p q).trans (h1.2.2.1 j p q), fun j p q => (h2.2.2.2 j p q).trans (h1.2.2.2 j p q)⟩
theorem KGd.t {a b : OB} (k : KGd a b) : KTd a b := ⟨k.1, k.2.1, fun j p _ => k.2.2.1 j p, k.2.2.2⟩
theorem KTd.set {mo : OB} {v : Int32} : KTd mo (mo.1, uF mo.2.1 1 (upd (mo.2.1 1) 6 v), mo.2.2) := ⟨rfl, fun j _ q => uF_n q, fun j _ q => by
  show uF mo.2.1 1 (upd (mo.2.1 1) 6 v) 1 j = _
  rw [uF_s]
  exact pk_un q, fun _ _ _ => rfl⟩
theorem KTd.go {mo w w2 : OB} (g : GOd mo w) (k : KTd w w2) : GOd mo w2 := ⟨fun j a b => (congrFun k.1 j).trans (g.1 j a b), fun j p => (k.2.1 j (by omega) (by omega)).trans (g.2.1 j p), fun i p => (congrFun (k.2.1 49 (by decide) (by decide)) i).trans (g.2.2 i p)⟩
theorem KTd.blk {mo w w2 : OB} (b : BLK mo w) (k : KTd w w2) : BLK mo w2 := by
  unfold BLK
  rw [k.2.1 49 (by decide) (by decide)]
  exact b
theorem FIn.kt {rl : Option Nat} {mo mo2 : OB} (f : FIn rl mo) (k : KTd mo mo2) : FIn rl mo2 := by
  rcases f with ⟨h1, h2⟩ | ⟨s, h1, h2, h3, ru, h4⟩
  · exact Or.inl ⟨h1, (k.2.2.1 7 (by decide) (by decide)).trans h2⟩
  · exact Or.inr ⟨s, h1, h2, (k.2.2.1 7 (by decide) (by decide)).trans h3, ru, h4.cg rfl rfl (fun j a b => k.2.1 j (by omega) (by omega))⟩
theorem Mus.kt {q He Hd : Nat} {mo mo2 : OB} (m : Mus q He Hd mo) (k : KTd mo mo2) : Mus q He Hd mo2 := fun j hj => by
  rw [k.2.1 38 (by decide) (by decide)]
  exact m j hj
section TSS
variable {F : Nat} {h : HLd} {cn : Nat → Nat} {S D mi od : Nat} {rm tm mo : OB} {rz : Nat → OB} {rl : Option Nat} {x e : Int32} {xi si : Nat → Int32} {xrr : Nat → Option Nat}
theorem MDd.s6 {v : Int32} (M : MDd h cn S D mi mo) : MDd h cn S D mi (mo.1, uF mo.2.1 1 (upd (mo.2.1 1) 6 v), mo.2.2) := by
  have k : ∀ j, j ≠ 6 → uF mo.2.1 1 (upd (mo.2.1 1) 6 v) 1 j = mo.2.1 1 j := fun j hj => by
    rw [uF_s]
    exact pk_un hj
  exact ⟨⟨⟨(k 0 (by decide)).trans M.1.1.1, (k 1 (by decide)).trans M.1.1.2.1, (k 2 (by decide)).trans M.1.1.2.2.1, (k 3 (by decide)).trans M.1.1.2.2.2⟩, M.1.2.1, M.1.2.2.1, M.1.2.2.2⟩, (k 4 (by decide)).trans M.2.1, M.2.2.1, M.2.2.2⟩
theorem ts_bd {R : Nat → Nat → Int32} {p : Nat × Nat × Nat} (H : HOK h) (hp : p.1 < 2 ^ 31) (B : BDd (h.1 3) p.2.1 p.2.2) : ∀ j, (tsS R rl h cn mi od p j).1 < 2 ^ 31 ∧ BDd (h.1 3) (tsS R rl h cn mi od p j).2.1 (tsS R rl h cn mi od p j).2.2
  | 0 => ⟨hp, B⟩
  | j + 1 => by
    have ih := ts_bd (R := R) H hp B j
    show (ts1 R rl h cn mi od j (tsS R rl h cn mi od p j)).1 < 2 ^ 31 ∧ BDd (h.1 3) (ts1 R rl h cn mi od j (tsS R rl h cn mi od p j)).2.1 (ts1 R rl h cn mi od j (tsS R rl h cn mi od p j)).2.2
    unfold ts1
    by_cases c : drO (tsS R rl h cn mi od p j).1 100 < od ∧ 0 < h.1 3
    · rw [if_pos c]
      exact ⟨dr_lt _, (mn_bd H (tn_bd H ih.2 (Nat.mod_lt _ c.2))).1⟩
    · rw [if_neg c]
      exact ⟨dr_lt _, (mn_bd H ih.2).1⟩
/-- a play of toasts in the class -/
theorem tsc_loop {p : Nat × Nat × Nat} {n : Nat} (H : HOK h) (hc : ∀ k, k < h.1 1 → cn k ≤ 99) (hF : 600 ≤ F) (hn : n ≤ 60) (ho : od ≤ 100) (hp : p.1 < 2 ^ 31) (B : BDd (h.1 3) p.2.1 p.2.2) : ∀ (r j g : Nat) (tm : OB) (rz : Nat → OB), j + r = n → r < g → RLx rl e rz mo → CDd h cn (tsS mo.2.1 rl h cn mi od p j).2.1 (tsS mo.2.1 rl h cn mi od p j).2.2 (mi + j) tm → Hld 0 0 tm → ∃ tm2 rz2, lp (b_X8_playToasts_26 F xi xrr si rm) g (nI n, nI od, e, nI (tsS mo.2.1 rl h cn mi od p j).1, nI j, tm, rz) = some (nI (tsS mo.2.1 rl h cn mi od p n).1, tm2, rz2) ∧ CDd h cn (tsS mo.2.1 rl h cn mi od p n).2.1 (tsS mo.2.1 rl h cn mi od p n).2.2 (mi + n) tm2 ∧ KRd tm tm2 ∧ RZk rz rz2
  | 0, j, g, tm, rz, h1, h2, hx, C, L => by
    obtain ⟨g, rfl⟩ : ∃ g', g = g' + 1 := ⟨g - 1, by omega⟩
    have ej : j = n := by omega
    subst ej
    refine ⟨tm, rz, ?_, C, KRd.rf, RZk.rf⟩
    rw [lp_S, b_X8_playToasts_26]
    dsimp only
    rw [if_pos (nI_le (Nat.le_refl _) (by omega))]
  | r + 1, j, g, tm, rz, h1, h2, hx, C, L => by
    obtain ⟨g, rfl⟩ : ∃ g', g = g' + 1 := ⟨g - 1, by omega⟩
    have hq := H.q8
    have bd := ts_bd (R := mo.2.1) (rl := rl) (cn := cn) (mi := mi) (od := od) H hp B j
    have e1 : tsS mo.2.1 rl h cn mi od p (j + 1) = ts1 mo.2.1 rl h cn mi od j (tsS mo.2.1 rl h cn mi od p j) := rfl
    obtain ⟨q, d1, d2⟩ := c_draw (F := F) (v := (tsS mo.2.1 rl h cn mi od p j).1) (m := 100) (by decide) (by decide)
    have d2 : q - q / 100 * 100 = nI (drO (tsS mo.2.1 rl h cn mi od p j).1 100) := d2
    have hdl : drO (tsS mo.2.1 rl h cn mi od p j).1 100 < 100 := Nat.mod_lt _ (by decide)
    have h3 := C.1.1.2.2.2
    by_cases c : drO (tsS mo.2.1 rl h cn mi od p j).1 100 < od ∧ 0 < h.1 3
    · unfold ts1 at e1
      rw [if_pos c] at e1
      obtain ⟨q', d3, d4⟩ := c_draw (F := F) (v := drN (tsS mo.2.1 rl h cn mi od p j).1) (m := h.1 3) (by omega) c.2
      have hk : drO (drN (tsS mo.2.1 rl h cn mi od p j).1) (h.1 3) < h.1 3 := Nat.mod_lt _ c.2
      obtain ⟨t2, f1, f2, f3⟩ := c_turn (F := F) H hc C bd.2 hk hF
      obtain ⟨t3, rz3, g1, g2, g3, g4⟩ := s_pass (F := F) (He := 0) (Hd := 0) H hc hF hx f2 (tn_bd H bd.2 hk) (L.kr f3)
      obtain ⟨t4, rz4, i1, i2, i3, i4⟩ := tsc_loop H hc hF hn ho hp B r (j + 1) g t3 rz3 (by omega) (by omega) (hx.kz g4) (by rw [e1]; exact g2) ((L.kr f3).kr g3)
      refine ⟨t4, rz4, ?_, i2, (f3.tr g3).tr i3, g4.tr i4⟩
      rw [lp_S, b_X8_playToasts_26]
      unfold b_X8_playToasts_88
      dsimp only
      rw [if_neg (nI_ge (by omega) (by omega)), c_next bd.1, bd_some, d1, bd_some, d2, if_neg (nI_ge c.1 (by omega)), h3, if_neg (show ¬ nI (h.1 3) ≤ 0 from nI_ge (a := 0) c.2 (by omega)), c_next (dr_lt _), bd_some, d3, bd_some, if_pos (nI_ne0 c.2 (by omega)), d4, f1, bd_some, g1, bd_some, nI_1]
      rw [e1] at i1
      exact i1
    · unfold ts1 at e1
      rw [if_neg c] at e1
      obtain ⟨t3, rz3, g1, g2, g3, g4⟩ := s_pass (F := F) (He := 0) (Hd := 0) H hc hF hx C bd.2 L
      obtain ⟨t4, rz4, i1, i2, i3, i4⟩ := tsc_loop H hc hF hn ho hp B r (j + 1) g t3 rz3 (by omega) (by omega) (hx.kz g4) (by rw [e1]; exact g2) (L.kr g3)
      refine ⟨t4, rz4, ?_, i2, g3.tr i3, g4.tr i4⟩
      rw [lp_S, b_X8_playToasts_26]
      unfold b_X8_playToasts_88
      dsimp only
      rw [if_neg (nI_ge (by omega) (by omega)), c_next bd.1, bd_some, d1, bd_some, d2]
      rw [e1] at i1
      by_cases z : drO (tsS mo.2.1 rl h cn mi od p j).1 100 < od
      · rw [if_neg (nI_ge z (by omega)), h3, if_pos (show nI (h.1 3) ≤ 0 from nI_le (b := 0) (by omega) (by decide)), g1, bd_some, nI_1]
        exact i1
      · rw [if_pos (nI_le (by omega) (by omega)), g1, bd_some, nI_1]
        exact i1
/-- a play of toasts in the reference -/
theorem tsr_loop {R : Nat → Nat → Int32} {K : (Int32 × Int32 × Int32 × Int32 × Int32 × Int32 × Int32 × Int32 × OB) → Option (Int32 × OB)} {p : Nat × Nat × Nat} {n : Nat} {N what was acc run : Int32} (H : HOK h) (hc : ∀ k, k < h.1 1 → cn k ≤ 99) (hF : 600 ≤ F) (hn : n ≤ 60) (ho : od ≤ 100) (hp : p.1 < 2 ^ 31) (B : BDd (h.1 3) p.2.1 p.2.2) : ∀ (r j g : Nat) (w : OB), j + r = n → r < g → MDd h cn (tsS R rl h cn mi od p j).2.1 (tsS R rl h cn mi od p j).2.2 (mi + j) w → w.2.1 1 6 = nI (tsS R rl h cn mi od p j).1 → FIn rl w → Mus (h.1 3) 0 0 w → (∀ j, 29 ≤ j → j ≤ 34 → w.2.1 j = R j) → ∃ w2, lp (b_X9_toasts_97 F K) g (N, nI n, nI od, what, was, acc, run, nI j, w) = (if what = 0 then b_X9_toasts_160 F K N (nI n) (nI od) what was run 2 acc w2 else b_X9_toasts_160 F K N (nI n) (nI od) what was run 1 acc w2) ∧ MDd h cn (tsS R rl h cn mi od p n).2.1 (tsS R rl h cn mi od p n).2.2 (mi + n) w2 ∧ w2.2.1 1 6 = nI (tsS R rl h cn mi od p n).1 ∧ KTd w w2
  | 0, j, g, w, h1, h2, M, h6, f, m, hR => by
    obtain ⟨g, rfl⟩ : ∃ g', g = g' + 1 := ⟨g - 1, by omega⟩
    have ej : j = n := by omega
    subst ej
    refine ⟨w, ?_, M, h6, KTd.rf⟩
    rw [lp_S, b_X9_toasts_97]
    dsimp only
    rw [if_pos (nI_le (Nat.le_refl _) (by omega))]
  | r + 1, j, g, w, h1, h2, M, h6, f, m, hR => by
    obtain ⟨g, rfl⟩ : ∃ g', g = g' + 1 := ⟨g - 1, by omega⟩
    have hq := H.q8
    have bd := ts_bd (R := R) (rl := rl) (cn := cn) (mi := mi) (od := od) H hp B j
    have e1 : tsS R rl h cn mi od p (j + 1) = ts1 R rl h cn mi od j (tsS R rl h cn mi od p j) := rfl
    have d1 := r_draw (F := F) (m := 100) (mo := w) bd.1 (by decide) (by decide) h6
    have d1 : f_X9_draws F 100 w = _ := d1
    have hdl : drO (tsS R rl h cn mi od p j).1 100 < 100 := Nat.mod_lt _ (by decide)
    have k1 : KTd w (w.1, uF w.2.1 1 (upd (w.2.1 1) 6 (nI (drN (tsS R rl h cn mi od p j).1))), w.2.2) := KTd.set
    have M1 := M.s6 (v := nI (drN (tsS R rl h cn mi od p j).1))
    have h61 : uF w.2.1 1 (upd (w.2.1 1) 6 (nI (drN (tsS R rl h cn mi od p j).1))) 1 6 = nI (drN (tsS R rl h cn mi od p j).1) := by rw [uF_s, pk_us]
    by_cases c : drO (tsS R rl h cn mi od p j).1 100 < od ∧ 0 < h.1 3
    · unfold ts1 at e1
      rw [if_pos c] at e1
      have hk : drO (drN (tsS R rl h cn mi od p j).1) (h.1 3) < h.1 3 := Nat.mod_lt _ c.2
      obtain ⟨w1, hw1⟩ : ∃ w1 : OB, w1 = (w.1, uF w.2.1 1 (upd (w.2.1 1) 6 (nI (drN (tsS R rl h cn mi od p j).1))), w.2.2) := ⟨_, rfl⟩
      rw [← hw1] at d1 k1 M1
      have h61 : w1.2.1 1 6 = nI (drN (tsS R rl h cn mi od p j).1) := by rw [hw1]; exact h61
      have d2 := r_draw (F := F) (m := h.1 3) (mo := w1) (dr_lt _) (by omega) c.2 h61
      have k2 : KTd w1 (w1.1, uF w1.2.1 1 (upd (w1.2.1 1) 6 (nI (drN (drN (tsS R rl h cn mi od p j).1)))), w1.2.2) := KTd.set
      have M2 := M1.s6 (v := nI (drN (drN (tsS R rl h cn mi od p j).1)))
      have h62 : uF w1.2.1 1 (upd (w1.2.1 1) 6 (nI (drN (drN (tsS R rl h cn mi od p j).1)))) 1 6 = nI (drN (drN (tsS R rl h cn mi od p j).1)) := by rw [uF_s, pk_us]
      obtain ⟨w2, hw2⟩ : ∃ w2 : OB, w2 = (w1.1, uF w1.2.1 1 (upd (w1.2.1 1) 6 (nI (drN (drN (tsS R rl h cn mi od p j).1)))), w1.2.2) := ⟨_, rfl⟩
      rw [← hw2] at d2 k2 M2
      have h62 : w2.2.1 1 6 = nI (drN (drN (tsS R rl h cn mi od p j).1)) := by rw [hw2]; exact h62
      obtain ⟨w3, f1, f2, f3⟩ := r_turn (F := F) H hc M2 bd.2 hk hF
      have k3 := (k1.tr k2).tr f3.t
      obtain ⟨w4, g1, g2, g3⟩ := s_goes9 (F := F) (R := R) H hc hF f2 (tn_bd H bd.2 hk) (f.kt k3) (m.kt k3) (fun j p q => (k3.2.1 j (by omega) (by omega)).trans (hR j p q))
      have k4 := k3.tr g3.t
      have h64 : w4.2.1 1 6 = nI (drN (drN (tsS R rl h cn mi od p j).1)) := (g3.2.2.1 6 (by decide)).trans ((f3.2.2.1 6 (by decide)).trans h62)
      obtain ⟨w5, i1, i2, i3, i4⟩ := tsr_loop (K := K) (N := N) (what := what) (was := was) (acc := acc) (run := run) H hc hF hn ho hp B r (j + 1) g w4 (by omega) (by omega) (by rw [e1]; exact g2) (by rw [e1]; exact h64) (f.kt k4) (m.kt k4) (fun j p q => (k4.2.1 j (by omega) (by omega)).trans (hR j p q))
      refine ⟨w5, ?_, i2, i3, k4.tr i4⟩
      rw [lp_S, b_X9_toasts_97]
      unfold b_X9_toasts_136
      dsimp only
      rw [if_neg (nI_ge (by omega) (by omega)), d1, bd_some]
      dsimp only
      rw [if_neg (nI_ge c.1 (by omega)), t3, M1.1.1.2.2.2, if_neg (show ¬ nI (h.1 3) ≤ 0 from nI_ge (a := 0) c.2 (by omega)), d2, bd_some]
      dsimp only
      rw [f1, bd_some, g1, bd_some, nI_1]
      exact i1
    · unfold ts1 at e1
      rw [if_neg c] at e1
      obtain ⟨w1, hw1⟩ : ∃ w1 : OB, w1 = (w.1, uF w.2.1 1 (upd (w.2.1 1) 6 (nI (drN (tsS R rl h cn mi od p j).1))), w.2.2) := ⟨_, rfl⟩
      rw [← hw1] at d1 k1 M1
      have h61 : w1.2.1 1 6 = nI (drN (tsS R rl h cn mi od p j).1) := by rw [hw1]; exact h61
      obtain ⟨w4, g1, g2, g3⟩ := s_goes9 (F := F) (R := R) H hc hF M1 bd.2 (f.kt k1) (m.kt k1) (fun j p q => (k1.2.1 j (by omega) (by omega)).trans (hR j p q))
      have k4 := k1.tr g3.t
      have h64 : w4.2.1 1 6 = nI (drN (tsS R rl h cn mi od p j).1) := (g3.2.2.1 6 (by decide)).trans h61
      obtain ⟨w5, i1, i2, i3, i4⟩ := tsr_loop (K := K) (N := N) (what := what) (was := was) (acc := acc) (run := run) H hc hF hn ho hp B r (j + 1) g w4 (by omega) (by omega) (by rw [e1]; exact g2) (by rw [e1]; exact h64) (f.kt k4) (m.kt k4) (fun j p q => (k4.2.1 j (by omega) (by omega)).trans (hR j p q))
      refine ⟨w5, ?_, i2, i3, k4.tr i4⟩
      rw [lp_S, b_X9_toasts_97]
      unfold b_X9_toasts_136
      dsimp only
      rw [if_neg (nI_ge (by omega) (by omega)), d1, bd_some]
      dsimp only
      by_cases z : drO (tsS R rl h cn mi od p j).1 100 < od
      · rw [if_neg (nI_ge z (by omega)), t3, M1.1.1.2.2.2, if_pos (show nI (h.1 3) ≤ 0 from nI_le (b := 0) (by omega) (by decide)), g1, bd_some, nI_1]
        exact i1
      · rw [if_pos (nI_le (by omega) (by omega)), g1, bd_some, nI_1]
        exact i1
end TSS
