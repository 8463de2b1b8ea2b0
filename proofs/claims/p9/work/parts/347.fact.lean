/-! a fact, pure: both readers, by depth -/
section FS
variable {F : Nat} {m x y : OB} {L s n : Nat}
theorem l10 {u : Nat} (h : u < 2 ^ 31) : nI u < 10 ↔ u < 10 := by
  rw [show (10 : Int32) = nI 10 from rfl, nI_ltI h (by decide)]
theorem fact_step {N dp : Nat} (hr : RB m L s) (hF : 1000 ≤ F) (hx : TX (m.2.1 28) L x n) (ihF : dp < 10 → FactP F m x y L s n N (dp + 1)) (ihT : dp < 10 → TestP F m x y L s n N (dp + 1)) (hdp : dp ≤ 10) : FactP F m x y L s n (N + 1) dp := by
  intro i t p u len q ol st so nu op ha hp hk hu hc hb ho
  have h4 := hr.2.1
  have hi := ha.2.1
  have ski : sk (m.2.1 28) L i = i := at_sk hx ha
  have cl : f_RF (N + 1) F (nI dp) (tpa x (nI t) 0) (rus y (nI len) (nI u) st) = f_X5_readFact_o F (f_X5_readTest_o_ (f_RF N)) (f_RF N) (nI dp) (tpa x (nI t) 0) (rus y (nI len) (nI u) st) := rfl
  rw [cl]
  unfold f_X5_readFact_o
  rw [s_kind hx ha, bd_some]
  have rf : ∀ g, lp (b_X9_test_9 F) (g + 1) (1, 1, ps m (nI p) 0 (nI len) (nI dp) (nI u) (nI ol) so nu op) = _ := fun g => by
    rw [lt_w, s_fact hr (by omega) hp, hk]
  have deep : ∀ k : Int32, dp = 10 → (k = 9 ∨ k = 12) → ∀ (w : Nat), (∀ g, lp (b_X9_test_9 F) (g + 1) (1, 1, ps m (nI p) 0 (nI len) (nI dp) (nI u) (nI ol) so nu op) = (Option.bind (Option.bind (f_X9_opens F k (ps m (nI i) 0 (nI len) (nI dp) (nI u) (nI ol) so nu op)) (fun q8 => some ((0 : Int32), (((uF q8.1 19 ((q8.1 19) + nI w)), q8.2.1, q8.2.2) : OB)))) (fun q => if q.1 = 0 then lp (b_X9_test_9 F) g (1, 1, q.2) else lp (b_X9_test_9 F) g (0, 1, q.2)))) → i + w ≤ L + 1 → ∀ g, lp (b_X9_test_9 F) (g + 2) (1, 1, ps m (nI p) 0 (nI len) (nI dp) (nI u) (nI ol) so nu op) = some (ps m (nI (i + w)) (nI (1 + 8 * i + 2)) (nI len) (nI (dp + 1)) (nI u) (nI (ol + 1)) so nu (upd op ol k)) := by
    intro k hd hk9 w hw hiw g
    have e1 : (1 : Int32) + 8 * nI i + 2 = nI (1 + 8 * i + 2) := flt (k := 2)
    rw [hw (g + 1), s_op1 hk9 (by omega) hdp, if_pos hd, e1, bd_some, bd_some]
    try dsimp only
    rw [if_pos rfl, show (ps m (nI i) (nI (1 + 8 * i + 2)) (nI len) (nI (dp + 1)) (nI u) (nI (ol + 1)) so nu (upd op ol k)).1 19 = nI i from rfl, nI_add, ps_p, lt_f (nI_ne0 (by omega) (by omega))]
  by_cases h1 : lexK (m.2.1 28) L i = 91
  · have hcb := (lexK_s (B := m.2.1 28) (L := L) (i := i) (x := 91) (by decide)).mp h1
    obtain ⟨hE, hl⟩ := lexE_s (by decide) hcb
    rw [if_pos h1]
    unfold b_X5_readFact_o_24
    have h77 : ¬ lexK (m.2.1 28) L i = 277 := by
      rw [h1]
      decide
    by_cases hd : dp < 10
    · rw [if_pos ((l10 (by omega)).mpr hd), s_skip hx ha hl, bd_some, if_pos h1, nI_1]
      have hAt := (ha.at hx).2.2.2 hl
      rw [hE] at hAt
      have hsk := sk_ge (B := m.2.1 28) (L := L) (p := i + 1) (by omega)
      have hS0 : Stk (upd op ol 12) (ol + 1) false false := ⟨Or.inr (by show upd op ol 12 (ol + 1 - 1) = 12; rw [show ol + 1 - 1 = ol from rfl, pk_us]), (fun h => by cases h), (fun h => by cases h)⟩
      have rf2 : ∀ g, lp (b_X9_test_9 F) (g + 1) (1, 1, ps m (nI p) 0 (nI len) (nI dp) (nI u) (nI ol) so nu op) = lp (b_X9_test_9 F) g (1, 1, ps m (nI (i + 1)) 0 (nI len) (nI (dp + 1)) (nI u) (nI (ol + 1)) so nu (upd op ol 12)) := fun g => by
        rw [rf g, if_neg h77, if_pos h1, s_op1 (Or.inr rfl) (by omega) hdp, if_neg (by omega), bd_some, bd_some]
        try dsimp only
        rw [if_pos rfl, show (ps m (nI i) 0 (nI len) (nI (dp + 1)) (nI u) (nI (ol + 1)) so nu (upd op ol 12)).1 19 = nI i from rfl, nI_1, ps_p]
      have hq := ihT hd len (L - (sk (m.2.1 28) L (i + 1)) + 1) (sk (m.2.1 28) L (i + 1)) (t + 1) (i + 1) u len q (ol + 1) 0 F false false st so nu (upd op ol 12) (by omega) hAt (by omega) rfl hu hc (by show 3 * (len + q + 0 + 0) ≤ _; omega) (by omega) hS0 (by omega) (by omega) Seg.z
      have cT : f_X5_readTest_o_ (f_RF N) F (nI (dp + 1)) (tpa x (nI (t + 1)) 0) (rus y (nI len) (nI u) st) = lp (b_X5_readTest_o_8 F (f_RF N)) F (nI (dp + 1), bi false, bi false, nI 0, tpa x (nI (t + 1)) 0, rus y (nI len) (nI u) st) := rfl
      rw [cT]
      rcases hq with hq | hq
      · obtain ⟨φ, p5, k5, e5, d5, c5, o5, t5, so5, nu5, op5, ru5, b1, b2, b3, b4, b5, b6, b7, b8⟩ := hq
        rw [b7, bd_some, if_pos rfl]
        refine Or.inl ⟨φ, p5, k5 + 1, e5, d5, c5, o5, t5, so5, nu5, op5, ru5, b1, b2, b3, b4, b5, by omega, rfl, fun g => ?_⟩
        rw [show g + (k5 + 1) = (g + k5) + 1 from by omega]
        exact (rf2 (g + k5)).trans (b8 g)
      · obtain ⟨i5, t5, p5, u5, len5, k5, st5, so5, nu5, op5, b1, b2, b3, b4, b5, b6, b7, b8, b9, b10, b11, b12, b13, b14, b15, b16, b17, b18⟩ := hq
        have hi5 := b1.2.1
        rw [b17, bd_some]
        try dsimp only
        rw [if_neg (show ¬ (1 : Int32) = 0 by decide), s_take hx b1 (by decide)]
        have hS5 : Stk op5 (ol + 1) false false := stk_of hS0 (fun j hj => b14 j hj)
        have nw : ∀ g, lp (b_X9_test_9 F) (g + 1 + k5 + 1) (1, 1, ps m (nI p) 0 (nI len) (nI dp) (nI u) (nI ol) so nu op) = lp (b_X9_test_9 F) g (0, 1, ps m (nI (i5 + 1)) (if cb (m.2.1 28) L i5 = 93 then 0 else 1 + 8 * nI i5 + 0) (nI len5) (nI dp) (nI u5) (nI ol) so5 nu5 op5) := fun g => by
          have z := nw_st (F := F) (g := g) (p := p5) (len := len5) (dp := dp + 1) (ol := ol + 1) (c := nI u5) (e := false) (b := false) (so := so5) (nu := nu5) (op := op5) hr (by omega) b3 (by omega) (by omega) hS5
          rw [b4, if_neg b16.1, if_neg b16.2, if_neg (show ¬ ol + 1 = 0 by omega), nI_pred, nI_pred] at z
          refine (rf2 (g + 1 + k5)).trans ((b18 g).trans ?_)
          rw [lt_n, ans_no (ol := ol + 1) (by decide) (by omega) (by omega) (show ol + 1 = 0 ∨ ¬ op5 (ol + 1 - 1) = 9 from hS5.no), bd_some]
          exact z
        have hs93 := lexK_s (B := m.2.1 28) (L := L) (i := i5) (x := 93) (by decide)
        by_cases h93 : lexK (m.2.1 28) L i5 = 93
        · obtain ⟨hE5, hl5⟩ := lexE_s (by decide) (hs93.mp h93)
          have hAt5 := (b1.at hx).2.2.2 hl5
          rw [hE5] at hAt5
          have hsk5 := sk_ge (B := m.2.1 28) (L := L) (p := i5 + 1) (by omega)
          rw [if_pos h93, bd_some]
          try dsimp only
          rw [if_neg (show ¬ (1 : Int32) = 0 by decide)]
          unfold b_X5_readFact_o_74 b_X5_readFact_o_79
          rw [if_pos (Or.inr rfl)]
          refine Or.inr ⟨sk (m.2.1 28) L (i5 + 1), t5 + 1, i5 + 1, u5, len5, k5 + 2, st5, so5, nu5, op5, hAt5, by omega, by omega, rfl, b5, b6, b7, b8, b9, b10, b11, b12, b13, fun j hj => ?_, by omega, trivial, rfl, fun g => ?_⟩
          · rw [b14 j (by omega), pk_un (by omega)]
          · rw [show g + 1 + (k5 + 2) = (g + 1) + 1 + k5 + 1 from by omega]
            refine (nw (g + 1)).trans ?_
            rw [if_pos (hs93.mp h93)]
        · have e1 : (1 : Int32) + 8 * nI i5 + 0 = nI (1 + 8 * i5 + 0) := flt (k := 0)
          rw [if_neg h93, bd_some]
          try dsimp only
          rw [if_pos rfl, s_fail hx b1, bd_some]
          try dsimp only
          rw [if_pos rfl]
          unfold b_X5_readFact_o_78 b_X5_readFact_o_79
          rw [if_pos (Or.inl rfl), e1]
          refine Or.inl ⟨1 + 8 * i5 + 0, i5 + 1, k5 + 3, nI len5, nI dp, nI u5, nI ol, _, so5, nu5, op5, _, by omega, by omega, by omega, b10, b11, by omega, rfl, fun g => ?_⟩
          rw [show g + (k5 + 3) = (g + 1) + 1 + k5 + 1 from by omega]
          refine (nw (g + 1)).trans ?_
          rw [if_neg (fun z => h93 (hs93.mpr z)), e1, lt_f (nI_ne0 (by omega) (by omega))]
    · have hd10 : dp = 10 := by omega
      rw [if_neg (fun z => hd ((l10 (by omega)).mp z)), show Option.bind (f_X7_fail F 2 (tpa x (nI t) 0)) (fun q14 => if bo q14.1 then some (q14.1, q14.2, rus y (nI len) (nI u) st) else none) = some (0, tpa x (nI t) (nI (1 + 8 * i + 2)), rus y (nI len) (nI u) st) from c_bad (k := 2) hx ha]
      refine Or.inl ⟨1 + 8 * i + 2, i + 1, 2, nI len, nI (dp + 1), nI u, nI (ol + 1), _, so, nu, upd op ol 12, _, by omega, by omega, by omega, FrS.rf, FrS.rf, by omega, rfl, deep 12 hd10 (Or.inr rfl) 1 (fun g => ?_) (by omega)⟩
      rw [rf g, if_neg h77, if_pos h1]
      rfl
  · rw [if_neg h1]
    by_cases h2 : lexK (m.2.1 28) L i = 277
    · have hW := (lexK_w (B := m.2.1 28) (L := L) (i := i) (w := 17) (by decide)).mp h2
      obtain ⟨hE, hlet⟩ := isW_end (by decide) hW
      have hE : lexE (m.2.1 28) L i = i + 3 := hE
      have hl : i < L := by
        by_cases z : i < L
        · exact z
        · rw [lB_out i (by omega)] at hlet
          cases hlet
      have hE2 := lexE_gt (B := m.2.1 28) hl
      rw [if_pos h2]
      unfold b_X5_readFact_o_24
      by_cases hd : dp < 10
      · rw [if_pos ((l10 (by omega)).mpr hd), s_skip hx ha hl, bd_some, if_neg h1, nI_1]
        have hAt := (ha.at hx).2.2.2 hl
        rw [hE] at hAt hE2
        have hsk := sk_ge (B := m.2.1 28) (L := L) (p := i + 3) (by omega)
        have rf2 : ∀ g, lp (b_X9_test_9 F) (g + 1) (1, 1, ps m (nI p) 0 (nI len) (nI dp) (nI u) (nI ol) so nu op) = lp (b_X9_test_9 F) g (1, 1, ps m (nI (i + 3)) 0 (nI len) (nI (dp + 1)) (nI u) (nI (ol + 1)) so nu (upd op ol 9)) := fun g => by
          rw [rf g, if_pos h2, s_op1 (Or.inl rfl) (by omega) hdp, if_neg (by omega), bd_some, bd_some]
          try dsimp only
          rw [if_pos rfl, show (ps m (nI i) 0 (nI len) (nI (dp + 1)) (nI u) (nI (ol + 1)) so nu (upd op ol 9)).1 19 = nI i from rfl, show (3 : Int32) = nI 3 from rfl, nI_add, ps_p]
        rcases ihF hd (sk (m.2.1 28) L (i + 3)) (t + 1) (i + 3) u len (q + 1) (ol + 1) st so nu (upd op ol 9) hAt (by omega) rfl hu hc (by omega) (by omega) with hq | hq
        · obtain ⟨φ, p5, k5, e5, d5, c5, o5, t5, so5, nu5, op5, ru5, b1, b2, b3, b4, b5, b6, b7, b8⟩ := hq
          rw [b7, bd_some, if_pos rfl]
          refine Or.inl ⟨φ, p5, k5 + 1, e5, d5, c5, o5, t5, so5, nu5, op5, ru5, b1, b2, b3, b4, b5, by omega, rfl, fun g => ?_⟩
          rw [show g + (k5 + 1) = (g + k5) + 1 from by omega]
          exact (rf2 (g + k5)).trans (b8 g)
        · obtain ⟨i5, t5, p5, u5, len5, k5, st5, so5, nu5, op5, b1, b2, b3, b4, b5, b6, b7, b8, b9, b10, b11, b12, b13, b14, b15, _, b17, b18⟩ := hq
          have ht : op5 ol = 9 := by
            rw [b14 ol (by omega), pk_us]
          rw [b17, bd_some]
          try dsimp only
          rw [if_neg (show ¬ (1 : Int32) = 0 by decide), s_add (by omega), bd_some]
          refine Or.inr ⟨i5, t5, p5, u5, len5 + 1, k5 + 1, upd st5 len5 277, upd so5 (300 * s + len5) 9, upd nu5 (300 * s + len5) 0, op5, b1, by omega, b3, b4, b5, b6, by omega, by omega, b9.app (VE_lit (q := 9) (by decide) rfl) (by decide), b10.up (by omega), b11.up (by omega), fun j hj => by rw [pk_un (by omega), b12 j hj], Seg.n (j := 0) b13, fun j hj => ?_, by omega, trivial, rfl, fun g => ?_⟩
          · rw [b14 j (by omega), pk_un (by omega)]
          · rw [show g + 1 + (k5 + 1) = (g + 1 + k5) + 1 from by omega]
            refine (rf2 (g + 1 + k5)).trans ((b18 g).trans ?_)
            rw [lt_n, ans_not hr (by omega) (by omega) (by omega) (by omega) ht, lt_n]
            rfl
      · have hd10 : dp = 10 := by omega
        rw [if_neg (fun z => hd ((l10 (by omega)).mp z)), show Option.bind (f_X7_fail F 2 (tpa x (nI t) 0)) (fun q14 => if bo q14.1 then some (q14.1, q14.2, rus y (nI len) (nI u) st) else none) = some (0, tpa x (nI t) (nI (1 + 8 * i + 2)), rus y (nI len) (nI u) st) from c_bad (k := 2) hx ha]
        refine Or.inl ⟨1 + 8 * i + 2, i + 3, 2, nI len, nI (dp + 1), nI u, nI (ol + 1), _, so, nu, upd op ol 9, _, by omega, by omega, by omega, FrS.rf, FrS.rf, by omega, rfl, deep 9 hd10 (Or.inl rfl) 3 (fun g => ?_) (by omega)⟩
        rw [rf g, if_pos h2]
        rfl
    · rw [if_neg h2]
      rcases cmp_all (F := F) (y := y) (d := nI dp) (o := nI ol) (op := op) hr (by omega) hx ha hi ski hu hc (show 3 * len ≤ 14 * u + 36 by omega) with hq | hq
      · obtain ⟨φ, p2, e2, c2, t2, so2, nu2, ru2, a1, a2, a3, a4, a5, a6, a7⟩ := hq
        rw [a6, bd_some, if_pos (Or.inl rfl)]
        refine Or.inl ⟨φ, p2, 2, e2, nI dp, c2, nI ol, t2, so2, nu2, op, ru2, a1, a2, by omega, a4, a5, by omega, rfl, fun g => ?_⟩
        refine (rf (g + 1)).trans ?_
        rw [if_neg h2, if_neg h1, a7, bd_some, bd_some]
        try dsimp only
        rw [if_neg (show ¬ (1 : Int32) = 0 by decide), lt_f (nI_ne0 a1 (by omega))]
      · obtain ⟨i2, t2, u2, len2, st2, so2, nu2, a1, a2, a3, a4, a5, a6, a7, a8, a9, a10, a11, a12, a13⟩ := hq
        rw [a12, bd_some, if_pos (Or.inr rfl)]
        refine Or.inr ⟨i2, t2, i2, u2, len2, 1, st2, so2, nu2, op, a1, a2, a1.2.1, at_sk hx a1, by omega, a4, by omega, a6, a7, a8, a9, a10, a11, fun _ _ => rfl, by omega, trivial, rfl, fun g => ?_⟩
        refine (rf (g + 1)).trans ?_
        rw [if_neg h2, if_neg h1, a13, bd_some, bd_some]
        rfl
theorem fact_sim (hr : RB m L s) (hF : 1000 ≤ F) (hx : TX (m.2.1 28) L x n) : ∀ N dp, N + dp = 10 → FactP F m x y L s n (N + 1) dp := by
  intro N
  induction N with
  | zero =>
    intro dp hN i t p u len q ol st so nu op ha hp hk hu hc hb ho
    exact fact_step hr hF hx (fun h => absurd h (by omega)) (fun h => absurd h (by omega)) (by omega) i t p u len q ol st so nu op ha hp hk hu hc hb ho
  | succ N ih =>
    intro dp hN i t p u len q ol st so nu op ha hp hk hu hc hb ho
    have hf := ih (dp + 1) (by omega)
    exact fact_step hr hF hx (fun _ => hf) (fun _ => test_sim hr hF hx hf (by omega)) (by omega) i t p u len q ol st so nu op ha hp hk hu hc hb ho
end FS
