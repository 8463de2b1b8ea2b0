/-! most, ease: by both -/
noncomputable def cns (cn : Nat → Nat) (s c : Nat) : Nat → Nat := fun j => if j = s then c else cn j
/-- the greatest below so many for which something holds -/
noncomputable def dnS (P : Nat → Bool) : Nat → Int32
  | 0 => -2
  | n + 1 => if P n = true then nI n else dnS P n
section MST
variable {F : Nat} {h : HLd} {cn : Nat → Nat} {S D mi : Nat} {rm tm mo : OB} {x : Int32} {xi si : Nat → Int32}
theorem cns_le {s c : Nat} (hc : ∀ k, k < 4 → cn k ≤ 99) (h9 : c ≤ 99) : ∀ k, k < 4 → cns cn s c k ≤ 99 := fun k hk => by
  unfold cns
  by_cases e : k = s
  · rw [if_pos e]
    exact h9
  · rw [if_neg e]
    exact hc k hk
theorem CDd.cane {s c c2 : Nat} (C : CDd h (cns cn s c2) S D mi tm) : CDd h (cns cn s c) S D mi (tm.1, uF tm.2.1 9 (upd (tm.2.1 9) s (nI c)), tm.2.2) := ⟨C.1, C.2.1, fun j hj => by
  show upd (tm.2.1 9) s (nI c) j = nI (cns cn s c j)
  unfold cns
  by_cases z : j = s
  · rw [z, pk_us, if_pos rfl]
  · rw [pk_un z, if_neg z]
    have := C.2.2.1 j hj
    unfold cns at this
    rw [if_neg z] at this
    exact this, C.2.2.2⟩
theorem MDd.cane {s c c2 : Nat} {w : OB} (M : MDd h (cns cn s c2) S D mi w) : MDd h (cns cn s c) S D mi (w.1, uF w.2.1 2 (upd (w.2.1 2) s (nI c)), w.2.2) := ⟨M.1, M.2.1, fun j hj => by
  show upd (w.2.1 2) s (nI c) j = nI (cns cn s c j)
  unfold cns
  by_cases z : j = s
  · rw [z, pk_us, if_pos rfl]
  · rw [pk_un z, if_neg z]
    have := M.2.2.1 j hj
    unfold cns at this
    rw [if_neg z] at this
    exact this, M.2.2.2⟩
theorem cns_id {s : Nat} : cns cn s (cn s) = cn := funext (fun j => by
  unfold cns
  by_cases z : j = s
  · rw [if_pos z, z]
  · rw [if_neg z])
noncomputable def mstP (h : HLd) (cn : Nat → Nat) (S s : Nat) (c : Nat) : Bool := decide (flS h (cns cn s c) S = 0)
theorem mst_c {s : Nat} (H : HOK h) (hc : ∀ k, k < 4 → cn k ≤ 99) (B : BDd (h.1 3) S D) (hF : 600 ≤ F) (hs : s < 4) : ∀ (n g c2 : Nat) (tm : OB), n ≤ 100 → n < g → CDd h (cns cn s c2) S D mi tm → ∃ tm2, lp (b_X8_most_33 F xi si rm) g (nI s, nI n + (-1), tm) = some (dnS (mstP h cn S s) n, tm2) ∧ tm2.2.1 4 = tm.2.1 4
  | 0, g, c2, tm, hn, h2, C => by
    obtain ⟨g, rfl⟩ : ∃ g', g = g' + 1 := ⟨g - 1, by omega⟩
    refine ⟨tm, ?_, rfl⟩
    rw [lp_S, b_X8_most_33]
    dsimp only
    rw [if_pos (show nI 0 + (-1) < 0 by decide)]
    rfl
  | n + 1, g, c2, tm, hn, h2, C => by
    obtain ⟨g, rfl⟩ : ∃ g', g = g' + 1 := ⟨g - 1, by omega⟩
    have hq := H.q8
    have h4 := H.2.1
    have hS8 := l28 B.1 hq
    have C2 := C.cane (c := n)
    have hc2 := cns_le (s := s) (c := n) hc (by omega)
    have hfl := l28 (mk_lt (c := flc h (cns cn s n) S) (h.1 3)) hq
    rw [lp_S, b_X8_most_33]
    dsimp only
    rw [pk_m1, if_neg (nI_pos (by omega)), if_pos (ib_n hs (by decide)), nI_clamp (show s < 2 ^ 31 by omega), s_out H (fun k hk => hc2 k (by omega)) C2 (by omega) hF, bd_some]
    show ∃ tm2, _ = some (if mstP h cn S s n = true then nI n else dnS (mstP h cn S s) n, tm2) ∧ _
    by_cases z : flS h (cns cn s n) S = 0
    · rw [if_pos (show nI (flS h (cns cn s n) S) = 0 by rw [z]; rfl), if_pos (show mstP h cn S s n = true from decide_eq_true z)]
      exact ⟨_, rfl, rfl⟩
    · rw [if_neg (nI_ne0 (Nat.pos_of_ne_zero z) (show mk_ (flc h (cns cn s n) S) (h.1 3) < 2 ^ 31 by omega)), if_neg (show ¬ mstP h cn S s n = true by unfold mstP; rw [decide_eq_true_eq]; exact z)]
      obtain ⟨t2, i1, i2⟩ := mst_c H hc B hF hs n g n _ (by omega) (by omega) C2
      exact ⟨t2, i1, i2⟩
theorem mst_r {s : Nat} {was : Int32} (H : HOK h) (hc : ∀ k, k < 4 → cn k ≤ 99) (B : BDd (h.1 3) S D) (hF : 600 ≤ F) (hs : s < 4) : ∀ (r k g c2 : Nat) (w : OB), k + r = 100 → r < g → MDd h (cns cn s c2) S D mi w → ∃ row, lp (b_X9_most_30 F) g (nI s, was, nI S, dnS (mstP h cn S s) k, nI k, w) = some (dnS (mstP h cn S s) 100, (w.1, uF w.2.1 2 row, w.2.2)) ∧ row s = was ∧ ∀ j, j ≠ s → row j = w.2.1 2 j
  | 0, k, g, c2, w, h1, h2, M => by
    obtain ⟨g, rfl⟩ : ∃ g', g = g' + 1 := ⟨g - 1, by omega⟩
    have ek : k = 100 := by omega
    subst ek
    refine ⟨upd (w.2.1 2) s was, ?_, pk_us, fun j hj => pk_un hj⟩
    rw [lp_S, b_X9_most_30]
    dsimp only
    rw [if_pos (show (99 : Int32) < nI 100 by decide), if_pos (ib_n hs (by decide)), nI_clamp (show s < 2 ^ 31 by omega)]
  | r + 1, k, g, c2, w, h1, h2, M => by
    obtain ⟨g, rfl⟩ : ∃ g', g = g' + 1 := ⟨g - 1, by omega⟩
    have hq := H.q8
    have h4 := H.2.1
    have hS8 := l28 B.1 hq
    have M2 := M.cane (c := k)
    have hc2 := cns_le (s := s) (c := k) hc (by omega)
    have hfl := l28 (mk_lt (c := flc h (cns cn s k) S) (h.1 3)) hq
    have e : lp (b_X9_most_30 F) (g + 1) (nI s, was, nI S, dnS (mstP h cn S s) k, nI k, w) = lp (b_X9_most_30 F) g (nI s, was, nI S, dnS (mstP h cn S s) (k + 1), nI (k + 1), (w.1, uF w.2.1 2 (upd (w.2.1 2) s (nI k)), w.2.2)) := by
      rw [lp_S, b_X9_most_30]
      unfold b_X9_most_60
      dsimp only
      rw [if_neg (show ¬ (99 : Int32) < nI k from nI_nlt (a := 99) (b := k) (by omega) (by omega)), if_pos (ib_n hs (by decide)), nI_clamp (show s < 2 ^ 31 by omega), s_drops H (fun k hk => hc2 k (by omega)) M2.c (by omega) hF, bd_some, nI_1]
      show _ = lp (b_X9_most_30 F) g (nI s, was, nI S, (if mstP h cn S s k = true then nI k else dnS (mstP h cn S s) k), nI (k + 1), _)
      by_cases z : flS h (cns cn s k) S = 0
      · rw [if_pos (show nI (flS h (cns cn s k) S) = 0 by rw [z]; rfl), if_pos (show mstP h cn S s k = true from decide_eq_true z)]
      · rw [if_neg (nI_ne0 (Nat.pos_of_ne_zero z) (show mk_ (flc h (cns cn s k) S) (h.1 3) < 2 ^ 31 by omega)), if_neg (show ¬ mstP h cn S s k = true by unfold mstP; rw [decide_eq_true_eq]; exact z)]
    obtain ⟨row, i1, i2, i3⟩ := mst_r (was := was) H hc B hF hs r (k + 1) g k _ (by omega) (by omega) M2
    refine ⟨row, ?_, i2, fun j hj => ?_⟩
    · rw [e, i1]
      refine congrArg some (Prod.ext rfl (Prod.ext rfl (Prod.ext ?_ rfl)))
      exact uF_uF
    · rw [i3 j hj]
      show upd (w.2.1 2) s (nI k) j = _
      exact pk_un hj
theorem q_most (H : HOK h) (hc : ∀ k, k < 4 → cn k ≤ 99) (C : CDd h cn S D mi rm) (M : MDd h cn S D mi mo) (B : BDd (h.1 3) S D) (hF : 600 ≤ F) (hw : Rw (rm.2.1 4) 4 99) : AskT mo (f_X8_most F x xi si rm tm) (f_X9_most F x mo) tm := by
  have h4 := H.2.1
  unfold f_X8_most f_X9_most
  rw [c_hasStrand C.1.1.2.1 (by omega), bd_some, r_isStrand H M.1, bd_some]
  by_cases c : inR x (h.1 1)
  · obtain ⟨s, hs, rfl⟩ := ix_of c
    obtain ⟨t0, a1, a2, a3, a4, a5⟩ := s_copyFrom (F := F) (rm := tm) H C
    have C0 : CDd h (cns cn s (cn s)) S D mi t0 := by rw [cns_id]; exact a2
    have M0 : MDd h (cns cn s (cn s)) S D mi mo := by rw [cns_id]; exact M
    obtain ⟨t2, b1, b2⟩ := mst_c (F := F) (rm := rm) (xi := xi) (si := si) H hc B hF (show s < 4 by omega) 100 F (cn s) t0 (by omega) (by omega) C0
    obtain ⟨row, d1, d2, d3⟩ := mst_r (F := F) (was := mo.2.1 2 s) H hc B hF (show s < 4 by omega) 100 0 F (cn s) mo (by omega) (by omega) M0
    rw [if_pos c, if_neg (show ¬ (1 : Int32) = 0 by decide), a1, bd_some, if_neg (show ¬ (1 : Int32) = 0 by decide), if_pos (ib_n (show s < 4 by omega) (by decide)), s_sits H M B hF, bd_some, nI_clamp (show s < 2 ^ 31 by omega)]
    refine ⟨dnS (mstP h cn S s) 100, t2, _, b1, d1, ⟨fun _ _ _ => rfl, fun j hj => uF_n (by omega), fun _ _ => rfl, fun i hi => ?_, fun j i p q r => congrFun (uF_n (by omega)) i, fun _ _ => rfl, fun _ _ => rfl⟩, fun _ j hj => ?_⟩
    · show row i = _
      by_cases z : i = s
      · rw [z, d2]
      · exact d3 i z
    · rw [b2]
      exact (Rw.cp (tm := tm) hw a5) j hj
  · rw [if_neg c, if_pos rfl, if_pos rfl]
    exact AskT.no rfl rfl
/-! ease -/
/-- who could sit down yet: the best so far -/
noncomputable def esS (h : HLd) (cn : Nat → Nat) (S Z : Nat) : Nat → Nat
  | 0 => 0
  | n + 1 => if difS n Z = 0 ∧ cntN (esS h cn S Z n) < cntN n ∧ flS h cn (S ||| n) = 0 then n else esS h cn S Z n
theorem es_le {Z : Nat} : ∀ n, esS h cn S Z n ≤ n
  | 0 => Nat.le_refl _
  | n + 1 => by
    show (if difS n Z = 0 ∧ cntN (esS h cn S Z n) < cntN n ∧ flS h cn (S ||| n) = 0 then n else esS h cn S Z n) ≤ n + 1
    by_cases e : difS n Z = 0 ∧ cntN (esS h cn S Z n) < cntN n ∧ flS h cn (S ||| n) = 0
    · rw [if_pos e]
      omega
    · rw [if_neg e]
      have := es_le (Z := Z) n
      omega
theorem s_bears {A : Nat} (H : HOK h) (hc : ∀ k, k < h.1 1 → cn k ≤ 99) (C : CDd h cn S D mi tm) (hA : A < 2 ^ 31) (hF : 600 ≤ F) : ∃ t2, f_X3_bears F (nI A) tm = some (if flS h cn A = 0 then 1 else 0, t2) ∧ CDd h cn A D mi t2 ∧ KRd tm t2 := by
  have hfl := l28 (mk_lt (c := flc h cn A) (h.1 3)) H.q8
  obtain ⟨t2, e1, e2, e3⟩ := s_reweigh (F := F) (S2 := A) (D2 := D) (m2 := mi) (I := uF tm.1 10 (nI A)) H C (fun j p _ _ => uF_n p) uF_s C.2.1.2.1 C.2.1.2.2 hA hF
  refine ⟨t2, ?_, e2, e3⟩
  unfold f_X3_bears b_X3_bears_21
  rw [e1, bd_some, s_out H hc e2 hA hF, bd_some]
  by_cases z : flS h cn A = 0
  · rw [if_pos (show nI (flS h cn A) = 0 by rw [z]; rfl), if_pos (Or.inr rfl), if_pos z]
  · rw [if_neg (nI_ne0 (Nat.pos_of_ne_zero z) (show mk_ (flc h cn A) (h.1 3) < 2 ^ 31 by omega)), if_pos (Or.inl rfl), if_neg z]
theorem or_lt {A n q : Nat} (hA : A < 2 ^ q) (hn : n < 2 ^ q) : A ||| n < 2 ^ q := lt_bS (fun j hj z => (bS_or.mp z).elim (bS_lt hA hj) (bS_lt hn hj))
theorem dif0 {n Z q : Nat} (hZ : Z < 2 ^ q) (h0 : difS n Z = 0) : n < 2 ^ q := lt_bS (fun j hj z => by
  have := bS_dif.mpr ⟨z, bS_lt hZ hj⟩
  rw [h0] at this
  exact bS_0 j this)
theorem ea_c {Z : Nat} {what : Int32} (H : HOK h) (hc : ∀ k, k < h.1 1 → cn k ≤ 99) (C : CDd h cn S D mi rm) (B : BDd (h.1 3) S D) (hZ : Z < 2 ^ h.1 3) (hF : 600 ≤ F) : ∀ (r n g : Nat) (tm : OB) (A : Nat), n + r = Z + 1 → 1 ≤ n → r < g → CDd h cn A D mi tm → ∃ t2, lp (b_X8_ease_48 F xi si rm) g (what, nI Z, nI (cntN (esS h cn S Z n)), nI (esS h cn S Z n), nI n, tm) = some (if what = 0 then nI (cntN (esS h cn S Z (Z + 1))) else nI (esS h cn S Z (Z + 1)), t2) ∧ KRd tm t2
  | 0, n, g, tm, A, h1, h0, h2, CT => by
    obtain ⟨g, rfl⟩ : ∃ g', g = g' + 1 := ⟨g - 1, by omega⟩
    have hZ8 := l28 hZ H.q8
    have en : n = Z + 1 := by omega
    subst en
    refine ⟨tm, ?_, KRd.rf⟩
    rw [lp_S, b_X8_ease_48]
    unfold b_X8_ease_118
    dsimp only
    rw [if_pos (nI_lt (by omega) (by omega))]
    split <;> rfl
  | r + 1, n, g, tm, A, h1, h0, h2, CT => by
    obtain ⟨g, rfl⟩ : ∃ g', g = g' + 1 := ⟨g - 1, by omega⟩
    have hq := H.q8
    have hZ8 := l28 hZ hq
    have hS8 := l28 B.1 hq
    have nxt : ∀ (a b : Int32) (t : OB), b_X8_ease_101 F xi si rm (lp (b_X8_ease_48 F xi si rm) g) what (nI Z) a b (nI n) t = lp (b_X8_ease_48 F xi si rm) g (what, nI Z, a, b, nI (n + 1), t) := fun a b t => by
      unfold b_X8_ease_101
      rw [nI_1]
    have c8 := cnt_8 n
    have c8' := cnt_8 (esS h cn S Z n)
    have eS : esS h cn S Z (n + 1) = if difS n Z = 0 ∧ cntN (esS h cn S Z n) < cntN n ∧ flS h cn (S ||| n) = 0 then n else esS h cn S Z n := rfl
    have go : ∀ (t : OB) (A : Nat), CDd h cn A D mi t → KRd tm t → ∃ t2, lp (b_X8_ease_48 F xi si rm) g (what, nI Z, nI (cntN (esS h cn S Z (n + 1))), nI (esS h cn S Z (n + 1)), nI (n + 1), t) = some (if what = 0 then nI (cntN (esS h cn S Z (Z + 1))) else nI (esS h cn S Z (Z + 1)), t2) ∧ KRd tm t2 := fun t A CT2 k => by
      obtain ⟨t2, i1, i2⟩ := ea_c (what := what) H hc C B hZ hF r (n + 1) g t A (by omega) (by omega) (by omega) CT2
      exact ⟨t2, i1, k.tr i2⟩
    have hdl : difS n Z < 2 ^ 8 := lt_bS (n := 8) (fun j hj z => bS_lt (show n < 2 ^ 8 by omega) hj (bS_dif.mp z).1)
    rw [lp_S, b_X8_ease_48]
    dsimp only
    rw [if_neg (nI_nlt (by omega) (by omega)), n_dif]
    by_cases z1 : difS n Z = 0
    · have hnq := dif0 hZ z1
      rw [if_pos (show nI (difS n Z) = 0 by rw [z1]; rfl), s_bc (by omega), bd_some]
      by_cases z2 : cntN (esS h cn S Z n) < cntN n
      · obtain ⟨t2, d1, d2, d3⟩ := s_bears (F := F) (A := S ||| n) H hc CT (by have := l28 (or_lt B.1 hnq) hq; omega) hF
        rw [if_neg (nI_ge z2 (by omega)), C.2.1.1, n_or, d1, bd_some, bd_some]
        dsimp only
        by_cases z3 : flS h cn (S ||| n) = 0
        · rw [if_pos z3, if_neg (show ¬ (1 : Int32) = 0 by decide), nxt]
          rw [if_pos ⟨z1, z2, z3⟩] at eS
          have := go t2 _ d2 d3
          rw [eS] at this
          exact this
        · rw [if_neg z3, if_pos rfl, nxt]
          rw [if_neg (fun z => z3 z.2.2)] at eS
          have := go t2 _ d2 d3
          rw [eS] at this
          exact this
      · rw [if_pos (nI_le (by omega) (by omega)), nxt]
        rw [if_neg (fun z => z2 z.2.1)] at eS
        have := go tm A CT KRd.rf
        rw [eS] at this
        exact this
    · rw [if_neg (nI_ne0 (Nat.pos_of_ne_zero z1) (by omega)), nxt]
      rw [if_neg (fun z => z1 z.1)] at eS
      have := go tm A CT KRd.rf
      rw [eS] at this
      exact this
theorem ea_r {Z : Nat} {what : Int32} (H : HOK h) (hc : ∀ k, k < h.1 1 → cn k ≤ 99) (M : MDd h cn S D mi mo) (B : BDd (h.1 3) S D) (hZ : Z < 2 ^ h.1 3) (hF : 600 ≤ F) : ∀ (r n g : Nat), n + r = Z + 1 → r < g → lp (b_X9_ease_37 F mo) g (what, nI Z, nI S, nI (esS h cn S Z n), nI n) = some (if what = 0 then nI (cntN (esS h cn S Z (Z + 1))) else nI (esS h cn S Z (Z + 1)))
  | 0, n, g, h1, h2 => by
    obtain ⟨g, rfl⟩ : ∃ g', g = g' + 1 := ⟨g - 1, by omega⟩
    have hZ8 := l28 hZ H.q8
    have en : n = Z + 1 := by omega
    subst en
    have hes := es_le (h := h) (cn := cn) (S := S) (Z := Z) (Z + 1)
    rw [lp_S, b_X9_ease_37]
    unfold b_X9_ease_100
    dsimp only
    rw [if_pos (nI_lt (by omega) (by omega))]
    by_cases y : what = 0
    · by_cases z8 : esS h cn S Z (Z + 1) < 256
      · rw [if_pos y, if_pos y, s_bits z8 hF, bd_some]
      · exfalso
        have : esS h cn S Z (Z + 1) ≤ Z := by
          have key : ∀ n, esS h cn S Z (n + 1) ≤ n := fun n => by
            show (if difS n Z = 0 ∧ cntN (esS h cn S Z n) < cntN n ∧ flS h cn (S ||| n) = 0 then n else esS h cn S Z n) ≤ n
            by_cases e : difS n Z = 0 ∧ cntN (esS h cn S Z n) < cntN n ∧ flS h cn (S ||| n) = 0
            · rw [if_pos e]
              exact Nat.le_refl _
            · rw [if_neg e]
              exact es_le n
          exact key Z
        omega
    · rw [if_neg y, if_neg y]
  | r + 1, n, g, h1, h2 => by
    obtain ⟨g, rfl⟩ : ∃ g', g = g' + 1 := ⟨g - 1, by omega⟩
    have hq := H.q8
    have hZ8 := l28 hZ hq
    have hS8 := l28 B.1 hq
    have hes := es_le (h := h) (cn := cn) (S := S) (Z := Z) n
    have nxt : ∀ (b : Int32), b_X9_ease_80 F mo (lp (b_X9_ease_37 F mo) g) what (nI Z) (nI S) b (nI n) = lp (b_X9_ease_37 F mo) g (what, nI Z, nI S, b, nI (n + 1)) := fun b => by
      unfold b_X9_ease_80
      rw [nI_1]
    have c8 := cnt_8 n
    have c8' := cnt_8 (esS h cn S Z n)
    have eS : esS h cn S Z (n + 1) = if difS n Z = 0 ∧ cntN (esS h cn S Z n) < cntN n ∧ flS h cn (S ||| n) = 0 then n else esS h cn S Z n := rfl
    have ih := ea_r (what := what) H hc M B hZ hF r (n + 1) g (by omega) (by omega)
    have hdl : difS n Z < 2 ^ 8 := lt_bS (n := 8) (fun j hj z => bS_lt (show n < 2 ^ 8 by omega) hj (bS_dif.mp z).1)
    rw [lp_S, b_X9_ease_37]
    dsimp only
    rw [if_neg (nI_nlt (by omega) (by omega)), n_dif]
    by_cases z1 : difS n Z = 0
    · have hnq := dif0 hZ z1
      have hor := l28 (or_lt B.1 hnq) hq
      rw [if_pos (show nI (difS n Z) = 0 by rw [z1]; rfl), s_bits (by omega) hF, bd_some, s_bits (by omega) hF, bd_some]
      by_cases z2 : cntN (esS h cn S Z n) < cntN n
      · have hfl := l28 (mk_lt (c := flc h cn (S ||| n)) (h.1 3)) hq
        rw [if_neg (nI_ge z2 (by omega)), n_or, s_drops H hc M.c (by omega) hF, bd_some]
        by_cases z3 : flS h cn (S ||| n) = 0
        · rw [if_pos (show nI (flS h cn (S ||| n)) = 0 by rw [z3]; rfl), nxt]
          rw [if_pos ⟨z1, z2, z3⟩] at eS
          rw [eS] at ih
          exact ih
        · rw [if_neg (nI_ne0 (Nat.pos_of_ne_zero z3) (show mk_ (flc h cn (S ||| n)) (h.1 3) < 2 ^ 31 by omega)), nxt]
          rw [if_neg (fun z => z3 z.2.2)] at eS
          rw [eS] at ih
          exact ih
      · rw [if_pos (nI_le (by omega) (by omega)), nxt]
        rw [if_neg (fun z => z2 z.2.1)] at eS
        rw [eS] at ih
        exact ih
    · rw [if_neg (nI_ne0 (Nat.pos_of_ne_zero z1) (by omega)), nxt]
      rw [if_neg (fun z => z1 z.1)] at eS
      rw [eS] at ih
      exact ih
theorem s_standing {q : Nat} (h3 : rm.1 3 = nI q) (hq : q ≤ 8) (h10 : rm.1 10 = nI S) (h11 : rm.1 11 = nI D) : f_X3_standing F rm = some (nI (difS (difS (2 ^ q - 1) S) D)) := by
  have hp := p2_lt (k := q) (by omega)
  unfold f_X3_standing
  rw [h3, n_shl (by omega), h10, h11, show nI (2 ^ q) - 1 = nI (2 ^ q - 1) from pk_sub (Nat.one_le_two_pow), n_dif, n_dif]
theorem stand_m (B : BDd (h.1 3) S D) : difS (difS (2 ^ h.1 3 - 1) S) D = mk_ (fun j => decide (stt S D j = 0)) (h.1 3) := eq_bS (fun j => by
  have hb : bS (2 ^ h.1 3 - 1) j ↔ j < h.1 3 := by
    rw [bS_tb, Nat.testBit_two_pow_sub_one, decide_eq_true_eq]
  rw [bS_dif, bS_dif, hb, bS_mk, decide_eq_true_eq, stt_0]
  exact ⟨fun z => ⟨z.1.1, z.2, z.1.2⟩, fun z => ⟨⟨z.1, z.2.2⟩, z.2.1⟩⟩)
theorem q_ease (H : HOK h) (hc : ∀ k, k < 4 → cn k ≤ 99) (C : CDd h cn S D mi rm) (M : MDd h cn S D mi mo) (B : BDd (h.1 3) S D) (hF : 600 ≤ F) (hw : Rw (rm.2.1 4) 4 99) : ∃ r t2, f_X8_ease F x xi si rm tm = some (r, t2) ∧ f_X9_ease F x mo = some r ∧ (Rw (tm.2.1 4) 4 99 → Rw (t2.2.1 4) 4 99) := by
  have t01 := H.1
  have hq := H.q8
  have hcs : ∀ k, k < h.1 1 → cn k ≤ 99 := fun k hk => hc k (by have := H.2.1; omega)
  have e0 := r_isHall (F := F) H M.1
  have e3 := in_c (F := F) (x := x) (a := 0) (b := 1) (la := 0) (lb := 1) (by decide) (by decide)
  have y1 : (1 : Int32).toInt = 1 := by decide
  by_cases c : h.1 0 = 1 ∧ 0 ≤ x.toInt ∧ x.toInt ≤ 1
  · obtain ⟨c1, c2⟩ := c
    obtain ⟨k, hk, rfl⟩ := ix_of (n := 2) (x := x) (by omega)
    have hZ := mk_lt (c := fun j => decide (stt S D j = 0)) (h.1 3)
    have hZ8 := l28 hZ hq
    have es := s_standing (F := F) C.1.1.2.2.2 hq C.2.1.1 C.2.1.2.1
    rw [stand_m B] at es
    have eth := s_those (F := F) (st := 0) H M hF (by decide)
    have eth : f_X9_those F 0 mo = _ := eth
    generalize mk_ (fun j => decide (stt S D j = 0)) (h.1 3) = Z at hZ hZ8 es eth
    obtain ⟨t0, a1, a2, a3, a4, a5⟩ := s_copyFrom (F := F) (rm := tm) H C
    have z1 : esS h cn S Z 1 = 0 := by
      show (if difS 0 Z = 0 ∧ cntN (esS h cn S Z 0) < cntN 0 ∧ flS h cn (S ||| 0) = 0 then 0 else esS h cn S Z 0) = 0
      split <;> rfl
    obtain ⟨t2, b1, b2⟩ := ea_c (F := F) (rm := rm) (xi := xi) (si := si) (Z := Z) (what := nI k) H hcs C B hZ hF Z 1 F t0 S (by omega) (by omega) (by omega) a2
    rw [z1] at b1
    have d1 := ea_r (F := F) (Z := Z) (what := nI k) H hcs M B hZ hF (Z + 1) 0 F (by omega) (by omega)
    refine ⟨if nI k = 0 then nI (cntN (esS h cn S Z (Z + 1))) else nI (esS h cn S Z (Z + 1)), t2, ?_, ?_, fun _ j hj => ?_⟩
    rotate_left 1
    · unfold f_X9_ease
      rw [e0, bd_some, if_pos c1, if_neg (show ¬ (1 : Int32) = 0 by decide), e3, bd_some, if_pos c2, if_neg (show ¬ (1 : Int32) = 0 by decide), eth, bd_some, s_sits H M B hF, bd_some]
      exact d1
    · rw [b2.2.1 4 (by decide) (by decide)]
      exact (Rw.cp (tm := tm) hw a5) j hj
    · unfold f_X8_ease
      rw [C.1.1.1, c1, if_neg (show ¬ nI 1 = 0 by decide), if_neg (nI_pos (by omega)), if_pos (show nI k ≤ 1 from nI_le (a := k) (b := 1) (by omega) (by decide)), es, bd_some, a1, bd_some]
      exact b1
  · refine ⟨-1, tm, ?_, ?_, fun z => z⟩
    · unfold f_X8_ease b_X8_ease_24
      rw [C.1.1.1]
      by_cases d1 : h.1 0 = 1
      · rw [d1, if_neg (show ¬ nI 1 = 0 by decide)]
        by_cases d2 : x < 0
        · rw [if_pos d2]
        · rw [if_neg d2, if_neg (fun d3 => c ⟨d1, by
            rw [sp_lt, sp0] at d2
            rw [sp_le, y1] at d3
            omega⟩)]
      · rw [show h.1 0 = 0 by omega, if_pos (show nI 0 = 0 from rfl)]
    · unfold f_X9_ease b_X9_ease_17
      rw [e0, bd_some]
      by_cases d1 : h.1 0 = 1
      · rw [if_pos d1, if_neg (show ¬ (1 : Int32) = 0 by decide), e3, bd_some, if_neg (fun z => c ⟨d1, z⟩), if_pos rfl]
      · rw [if_neg d1, if_pos rfl]
end MST
