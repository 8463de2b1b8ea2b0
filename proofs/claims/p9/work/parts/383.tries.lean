/-! what is tried: minutes on end, by both -/
/-- who sits and who is dropped, so many minutes on -/
noncomputable def trj (R : Nat → Nat → Int32) (rl : Option Nat) (He Hd : Nat) (h : HLd) (cn : Nat → Nat) (S D mi : Nat) : Nat → Nat × Nat
  | 0 => (S, D)
  | k + 1 => ((mnS R rl He Hd h cn (trj R rl He Hd h cn S D mi k).1 (trj R rl He Hd h cn S D mi k).2 (mi + k)).1, (mnS R rl He Hd h cn (trj R rl He Hd h cn S D mi k).1 (trj R rl He Hd h cn S D mi k).2 (mi + k)).2.1)
/-- who is dropped in a minute -/
noncomputable def fln (R : Nat → Nat → Int32) (rl : Option Nat) (He Hd : Nat) (h : HLd) (cn : Nat → Nat) (S D mi k : Nat) : Nat := (mnS R rl He Hd h cn (trj R rl He Hd h cn S D mi k).1 (trj R rl He Hd h cn S D mi k).2 (mi + k)).2.2
theorem trj_bd {R : Nat → Nat → Int32} {rl : Option Nat} {He Hd : Nat} {h : HLd} {cn : Nat → Nat} {S D mi : Nat} (H : HOK h) (B : BDd (h.1 3) S D) : ∀ k, BDd (h.1 3) (trj R rl He Hd h cn S D mi k).1 (trj R rl He Hd h cn S D mi k).2
  | 0 => B
  | k + 1 => (mn_bd H (trj_bd H B k)).1
theorem fln_lt {R : Nat → Nat → Int32} {rl : Option Nat} {He Hd : Nat} {h : HLd} {cn : Nat → Nat} {S D mi k : Nat} (H : HOK h) (B : BDd (h.1 3) S D) : fln R rl He Hd h cn S D mi k < 256 := l28 (mn_bd H (trj_bd H B k)).2 H.q8
section TRI
variable {F : Nat} {h : HLd} {cn : Nat → Nat} {S D mi : Nat} {rm mo : OB} {rz : Nat → OB} {rl : Option Nat} {He Hd : Nat} {x : Int32}
/-- one minute on, in the class -/
theorem pass1 {k : Nat} (H : HOK h) (hc : ∀ k, k < h.1 1 → cn k ≤ 99) (hF : 600 ≤ F) (hx : RLx rl x rz mo) (B : BDd (h.1 3) S D) (C : CDd h cn (trj mo.2.1 rl He Hd h cn S D mi k).1 (trj mo.2.1 rl He Hd h cn S D mi k).2 (mi + k) rm) (L : Hld He Hd rm) : ∃ rm2 rz2, f_X3_passMinute F x rm rz = some (nI (fln mo.2.1 rl He Hd h cn S D mi k), rm2, rz2) ∧ CDd h cn (trj mo.2.1 rl He Hd h cn S D mi (k + 1)).1 (trj mo.2.1 rl He Hd h cn S D mi (k + 1)).2 (mi + (k + 1)) rm2 ∧ KRd rm rm2 ∧ RZk rz rz2 := s_pass H hc hF hx C (trj_bd H B k) L
theorem go1 {R : Nat → Nat → Int32} {w : OB} {k : Nat} (H : HOK h) (hc : ∀ k, k < h.1 1 → cn k ≤ 99) (hF : 600 ≤ F) (B : BDd (h.1 3) S D) (M : MDd h cn (trj R rl He Hd h cn S D mi k).1 (trj R rl He Hd h cn S D mi k).2 (mi + k) w) (f : FIn rl w) (m : Mus (h.1 3) He Hd w) (hR : ∀ j, 29 ≤ j → j ≤ 34 → w.2.1 j = R j) : ∃ w2, f_X9_goes F w = some (nI (fln R rl He Hd h cn S D mi k), w2) ∧ MDd h cn (trj R rl He Hd h cn S D mi (k + 1)).1 (trj R rl He Hd h cn S D mi (k + 1)).2 (mi + (k + 1)) w2 ∧ KGd w w2 := s_goes9 H hc hF M (trj_bd H B k) f m hR
theorem s_passN (H : HOK h) (hc : ∀ k, k < h.1 1 → cn k ≤ 99) (hF : 600 ≤ F) {n : Nat} (hn : n ≤ 200) (B : BDd (h.1 3) S D) : ∀ (r k g : Nat) (rm : OB) (rz : Nat → OB), k + r = n → r < g → RLx rl x rz mo → CDd h cn (trj mo.2.1 rl He Hd h cn S D mi k).1 (trj mo.2.1 rl He Hd h cn S D mi k).2 (mi + k) rm → Hld He Hd rm → ∃ rm2 rz2, lp (b_X3_passMinutes_2 F) g (nI n, x, nI k, rm, rz) = some (rm2, rz2) ∧ CDd h cn (trj mo.2.1 rl He Hd h cn S D mi n).1 (trj mo.2.1 rl He Hd h cn S D mi n).2 (mi + n) rm2 ∧ KRd rm rm2 ∧ RZk rz rz2
  | 0, k, g, rm, rz, h1, h2, hx, C, L => by
    obtain ⟨g, rfl⟩ : ∃ g', g = g' + 1 := ⟨g - 1, by omega⟩
    have e : k = n := by omega
    subst e
    refine ⟨rm, rz, ?_, C, KRd.rf, RZk.rf⟩
    rw [lp_S, b_X3_passMinutes_2]
    dsimp only
    rw [if_pos (nI_le (Nat.le_refl _) (by omega))]
  | r + 1, k, g, rm, rz, h1, h2, hx, C, L => by
    obtain ⟨g, rfl⟩ : ∃ g', g = g' + 1 := ⟨g - 1, by omega⟩
    obtain ⟨rm2, rz2, e1, e2, e3, e4⟩ := pass1 (F := F) H hc hF hx B C L
    obtain ⟨rm3, rz3, f1, f2, f3, f4⟩ := s_passN H hc hF hn B r (k + 1) g rm2 rz2 (by omega) (by omega) (hx.kz e4) e2 (L.kr e3)
    refine ⟨rm3, rz3, ?_, f2, e3.tr f3, e4.tr f4⟩
    rw [lp_S, b_X3_passMinutes_2]
    dsimp only
    rw [if_neg (nI_ge (by omega) (by omega)), e1, bd_some, nI_1]
    exact f1
theorem s_goN {R : Nat → Nat → Int32} (H : HOK h) (hc : ∀ k, k < h.1 1 → cn k ≤ 99) (hF : 600 ≤ F) {n : Nat} (hn : n ≤ 200) (B : BDd (h.1 3) S D) : ∀ (r k g : Nat) (w : OB), k + r = n → r < g → MDd h cn (trj R rl He Hd h cn S D mi k).1 (trj R rl He Hd h cn S D mi k).2 (mi + k) w → FIn rl w → Mus (h.1 3) He Hd w → (∀ j, 29 ≤ j → j ≤ 34 → w.2.1 j = R j) → ∃ w2, lp (b_X9_goFor_2 F) g (nI n, nI k, w) = some w2 ∧ MDd h cn (trj R rl He Hd h cn S D mi n).1 (trj R rl He Hd h cn S D mi n).2 (mi + n) w2 ∧ KGd w w2
  | 0, k, g, w, h1, h2, M, f, m, hR => by
    obtain ⟨g, rfl⟩ : ∃ g', g = g' + 1 := ⟨g - 1, by omega⟩
    have e : k = n := by omega
    subst e
    refine ⟨w, ?_, M, KGd.rf⟩
    rw [lp_S, b_X9_goFor_2]
    dsimp only
    rw [if_pos (nI_le (Nat.le_refl _) (by omega))]
  | r + 1, k, g, w, h1, h2, M, f, m, hR => by
    obtain ⟨g, rfl⟩ : ∃ g', g = g' + 1 := ⟨g - 1, by omega⟩
    obtain ⟨w2, e1, e2, e3⟩ := go1 (F := F) H hc hF B M f m hR
    obtain ⟨w3, f1, f2, f3⟩ := s_goN H hc hF hn B r (k + 1) g w2 (by omega) (by omega) e2 (f.kg e3) (m.kg e3) (fun j p q => (e3.2.1 j (by omega) (by omega)).trans (hR j p q))
    refine ⟨w3, ?_, f2, e3.tr f3⟩
    rw [lp_S, b_X9_goFor_2]
    dsimp only
    rw [if_neg (nI_ge (by omega) (by omega)), e1, bd_some, nI_1]
    exact f1
end TRI
/-! what a question leaves -/
section LEA
variable {h : HLd} {cn : Nat → Nat} {S D mi : Nat} {mo w : OB}
theorem MKd.q (H : HOK h) (M : MKd h mo) (k : QKd mo w) : MKd h w := by
  have h4 := H.2.1
  have h8 := H.2.2.1
  have hq := H.q8
  obtain ⟨⟨a0, a1, a2, a3⟩, M4, M5, M6⟩ := M
  refine ⟨⟨(k.2.2.1 0 (by decide)).trans a0, (k.2.2.1 1 (by decide)).trans a1, (k.2.2.1 2 (by decide)).trans a2, (k.2.2.1 3 (by decide)).trans a3⟩, fun j hj => ?_, fun j hj => ⟨?_, ?_⟩, fun j hj => ⟨?_, ?_⟩⟩
  · rw [k.2.1 11 (by omega)]
    exact M4 j hj
  · rw [k.2.1 6 (by omega)]
    exact (M5 j hj).1
  · rw [k.2.2.2.2.1 4 j (by decide) (by decide) (by omega)]
    exact (M5 j hj).2
  · rw [k.2.1 7 (by omega)]
    exact (M6 j hj).1
  · rw [k.2.2.2.2.1 5 j (by decide) (by decide) (by omega)]
    exact (M6 j hj).2
theorem MDd.q (H : HOK h) (M : MDd h cn S D mi mo) (k : QKd mo w) : MDd h cn S D mi w := by
  have h4 := H.2.1
  have hq := H.q8
  refine ⟨M.1.q H k, (k.2.2.1 4 (by decide)).trans M.2.1, fun j hj => ?_, fun j hj => ?_⟩
  · rw [k.2.2.2.1 j (by omega)]
    exact M.2.2.1 j hj
  · rw [k.2.2.2.2.1 3 j (by decide) (by decide) (by omega)]
    exact M.2.2.2 j hj
theorem FIn.q {rl : Option Nat} (f : FIn rl mo) (k : QKd mo w) : FIn rl w := by
  rcases f with ⟨h1, h2⟩ | ⟨s, h1, h2, h3, ru, h4⟩
  · exact Or.inl ⟨h1, (k.2.2.1 7 (by decide)).trans h2⟩
  · exact Or.inr ⟨s, h1, h2, (k.2.2.1 7 (by decide)).trans h3, ru, h4.cg rfl rfl (fun j a b => k.2.1 j (by omega))⟩
theorem Mus.q {q He Hd : Nat} (hq : q ≤ 8) (m : Mus q He Hd mo) (k : QKd mo w) : Mus q He Hd w := fun j hj => by
  rw [k.2.2.2.2.2.1 j (by omega)]
  exact m j hj
/-- the reference begins to try -/
theorem try_r {F : Nat} (M : MDd h cn S D mi mo) (hF : 600 ≤ F) : ∃ w, f_X9_keepsAll F mo = some w ∧ MDd h cn S D mi w ∧ BLK mo w ∧ SVd mo w := by
  obtain ⟨w, e1, e2, e3⟩ := s_keepsAll (F := F) (mo := mo) hF
  refine ⟨w, e1, ?_, e2, e3⟩
  have k := e3.2.1
  unfold MDd MKd
  rw [k 1 (by decide), k 11 (by decide), k 6 (by decide), k 4 (by decide), k 7 (by decide), k 5 (by decide), k 2 (by decide), k 3 (by decide)]
  exact M
theorem SVd.f {rl : Option Nat} (k : SVd mo w) (f : FIn rl mo) : FIn rl w := by
  rcases f with ⟨h1, h2⟩ | ⟨s, h1, h2, h3, ru, h4⟩
  · exact Or.inl ⟨h1, by rw [k.2.1 1 (by decide)]; exact h2⟩
  · exact Or.inr ⟨s, h1, h2, by rw [k.2.1 1 (by decide)]; exact h3, ru, h4.cg rfl rfl (fun j a b => k.2.1 j (by omega))⟩
theorem SVd.m {q He Hd : Nat} (k : SVd mo w) (m : Mus q He Hd mo) : Mus q He Hd w := fun j hj => by
  rw [k.2.1 38 (by decide)]
  exact m j hj
end LEA
