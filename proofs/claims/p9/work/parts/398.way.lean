/-! way: both come to an end -/
theorem dif_lt {A B : Nat} (h : A < 256) : difS A B < 256 := lt_bS (n := 8) (fun j hj z => bS_lt (n := 8) h hj (bS_dif.mp z).1)
section WAY
variable {F : Nat} {h : HLd} {cn : Nat → Nat} {S D mi : Nat} {rm tm mo : OB} {x : Int32} {xi si xsr : Nat → Int32}
theorem c_first {A : Nat} (hA : A < 256) (hF : 600 ≤ F) : ∃ r, f_X8_firstToRise F (nI A) xi xsr = some r ∧ (r = -1 ∨ ∃ k, k < 8 ∧ r = nI k) := by
  have key : ∀ r k g, k + r = 8 → r < g → ∃ q, lp (b_X8_firstToRise_2 F xi xsr) g (nI A, nI k) = some q ∧ (q = -1 ∨ ∃ k, k < 8 ∧ q = nI k) := by
    intro r
    induction r with
    | zero =>
      intro k g h1 h2
      obtain ⟨g, rfl⟩ : ∃ g', g = g' + 1 := ⟨g - 1, by omega⟩
      refine ⟨-1, ?_, Or.inl rfl⟩
      rw [lp_S, b_X8_firstToRise_2]
      dsimp only
      rw [if_pos (show (8 : Int32) ≤ nI k from nI_le (a := 8) (b := k) (by omega) (by omega))]
    | succ r ih =>
      intro k g h1 h2
      obtain ⟨g, rfl⟩ : ∃ g', g = g' + 1 := ⟨g - 1, by omega⟩
      have hd := dif_lt (B := 2 ^ k) hA
      have i := ih (k + 1) g (by omega) (by omega)
      rw [lp_S, b_X8_firstToRise_2]
      unfold b_X8_firstToRise_43
      dsimp only
      rw [if_neg (show ¬ (8 : Int32) ≤ nI k from nI_ge (a := k) (b := 8) (by omega) (by decide)), n_shl (show k < 31 by omega), n_dif, nI_1]
      by_cases e : nI (difS A (2 ^ k)) = nI A
      · rw [if_pos e]
        exact i
      · rw [if_neg e, if_neg (nI_pos (by omega)), if_neg (show ¬ (256 : Int32) ≤ nI (difS A (2 ^ k)) from nI_ge (a := difS A (2 ^ k)) (b := 256) hd (by decide)), if_pos (ib_n hd (by decide))]
        by_cases z : xsr (Int32.toNatClampNeg (nI (difS A (2 ^ k)))) = 0
        · rw [if_pos z]
          exact i
        · rw [if_neg z]
          exact ⟨_, rfl, Or.inr ⟨k, by omega, rfl⟩⟩
  exact key 8 0 F (by omega) (by omega)
theorem c_safe (H : HOK h) (hc : ∀ k, k < h.1 1 → cn k ≤ 99) (C : CDd h cn S D mi rm) (B : BDd (h.1 3) S D) (hF : 600 ≤ F) (hw : Rw (rm.2.1 4) 4 99) : ∃ t2 xs2, f_X8_findSafeSets F xi si rm tm xsr = some (t2, xs2) ∧ Rw (t2.2.1 4) 4 99 := by
  obtain ⟨t0, a1, a2, a3, a4, a5⟩ := s_copyFrom (F := F) (rm := tm) H C
  have key : ∀ r s g (t : OB) (xs : Nat → Int32), s + r = 256 → r < g → CKd h cn D mi t → ∃ t2 xs2, lp (b_X8_findSafeSets_34 F xi si rm) g (nI S, nI s, t, xs) = some (t2, xs2) ∧ t2.2.1 4 = t.2.1 4 := by
    intro r
    induction r with
    | zero =>
      intro s g t xs h1 h2 K
      obtain ⟨g, rfl⟩ : ∃ g', g = g' + 1 := ⟨g - 1, by omega⟩
      refine ⟨t, xs, ?_, rfl⟩
      rw [lp_S, b_X8_findSafeSets_34]
      dsimp only
      rw [if_pos (show (256 : Int32) ≤ nI s from nI_le (a := 256) (b := s) (by omega) (by omega))]
    | succ r ih =>
      intro s g t xs h1 h2 K
      obtain ⟨g, rfl⟩ : ∃ g', g = g' + 1 := ⟨g - 1, by omega⟩
      have hs : s < 256 := by omega
      obtain ⟨q, f1, f2⟩ := c_first (F := F) (xi := xi) (xsr := xs) hs hF
      obtain ⟨t2, b1, b2, b3⟩ := s_bearsK (F := F) (A := s) H hc K (by omega) hF
      rw [lp_S, b_X8_findSafeSets_34]
      unfold b_X8_findSafeSets_78 b_X8_findSafeSets_79
      dsimp only
      rw [if_neg (show ¬ (256 : Int32) ≤ nI s from nI_ge (a := s) (b := 256) hs (by decide)), n_dif, f1, bd_some, b1, bd_some]
      dsimp only
      simp only [if_pos (ib_n hs (show 256 < 2 ^ 31 by decide)), nI_1]
      by_cases e : nI (difS s S) = 0
      · rw [if_pos e]
        by_cases z : q = -1
        · rw [if_pos z]
          exact ih (s + 1) g t _ (by omega) (by omega) K
        · rw [if_neg z]
          by_cases y : flS h cn s = 0
          · rw [if_pos y, if_neg (show ¬ (1 : Int32) = 0 by decide)]
            obtain ⟨t3, x3, g1, g2⟩ := ih (s + 1) g t2 _ (by omega) (by omega) b2
            exact ⟨t3, x3, g1, g2.trans b3⟩
          · rw [if_neg y, if_pos rfl]
            obtain ⟨t3, x3, g1, g2⟩ := ih (s + 1) g t2 _ (by omega) (by omega) b2
            exact ⟨t3, x3, g1, g2.trans b3⟩
      · rw [if_neg e]
        exact ih (s + 1) g t _ (by omega) (by omega) K
  obtain ⟨t2, xs2, b1, b2⟩ := key 255 1 F t0 (upd xsr 0 (vp_nar .boolean 1)) (by omega) (by omega) ⟨a2.1, a2.2.2.1, a2.2.1.2.1, a2.2.1.2.2⟩
  refine ⟨t2, xs2, ?_, fun j hj => ?_⟩
  · unfold f_X8_findSafeSets
    rw [a1, bd_some, C.2.1.1, show Int32.toNatClampNeg 0 = 0 from by decide]
    exact b1
  · rw [b2]
    exact (Rw.cp (tm := tm) hw a5) j hj
theorem c_way (H : HOK h) (hc : ∀ k, k < h.1 1 → cn k ≤ 99) (C : CDd h cn S D mi rm) (B : BDd (h.1 3) S D) (hF : 600 ≤ F) (hw : Rw (rm.2.1 4) 4 99) : ∃ r t2 xs2, f_X8_way F x xi si rm tm xsr = some (r, t2, xs2) ∧ (Rw (tm.2.1 4) 4 99 → Rw (t2.2.1 4) 4 99) := by
  have hS8 := l28 B.1 H.q8
  have y8 : (8 : Int32).toInt = 8 := by decide
  obtain ⟨t2, xs2, a1, a2⟩ := c_safe (F := F) (xi := xi) (si := si) (xsr := xsr) (tm := tm) H hc C B hF hw
  have key : ∀ n r p g A who, p + r = n → n < 8 → r < g → A < 256 → (who = -1 ∨ ∃ k, k < 8 ∧ who = nI k) → ∃ q, lp (b_X8_way_60 F xi si rm) g (nI n, nI A, who, nI p, t2, xs2) = some (q, t2, xs2) := by
    intro n r
    induction r with
    | zero =>
      intro p g A who h1 hn h2 hA hq
      obtain ⟨g, rfl⟩ : ∃ g', g = g' + 1 := ⟨g - 1, by omega⟩
      rw [lp_S, b_X8_way_60]
      unfold b_X8_way_94 b_X8_way_107
      dsimp only
      rw [if_pos (nI_le (by omega) (by omega))]
      by_cases z : who = -1
      · rw [if_pos z]
        exact ⟨_, rfl⟩
      · rw [if_neg z]
        exact ⟨_, rfl⟩
    | succ r ih =>
      intro p g A who h1 hn h2 hA hq
      obtain ⟨g, rfl⟩ : ∃ g', g = g' + 1 := ⟨g - 1, by omega⟩
      rw [lp_S, b_X8_way_60]
      unfold b_X8_way_94 b_X8_way_107
      dsimp only
      rw [if_neg (nI_ge (by omega) (by omega))]
      by_cases z : who = -1
      · rw [if_pos z, if_pos z]
        exact ⟨_, rfl⟩
      · rw [if_neg z]
        obtain ⟨k, hk, rfl⟩ := hq.resolve_left z
        obtain ⟨q, f1, f2⟩ := c_first (F := F) (xi := xi) (xsr := xs2) (dif_lt (B := 2 ^ k) hA) hF
        rw [n_shl (show k < 31 by omega), n_dif, f1, bd_some, nI_1]
        exact ih (p + 1) g _ q (by omega) hn (by omega) (dif_lt hA) f2
  unfold f_X8_way b_X8_way_25
  by_cases c0 : rm.1 0 = 0
  · rw [if_pos c0]
    exact ⟨_, tm, xsr, rfl, fun z => z⟩
  · rw [if_neg c0]
    by_cases c1 : x < 0
    · rw [if_pos c1]
      exact ⟨_, tm, xsr, rfl, fun z => z⟩
    · rw [if_neg c1]
      by_cases c2 : x < 8
      · rw [if_pos c2, C.2.1.1, s_bc hS8, bd_some]
        by_cases c3 : x < nI (cntN S)
        · obtain ⟨n, hn, rfl⟩ := ix_of (n := 8) (x := x) (by
            rw [sp_lt, sp0] at c1
            rw [sp_lt, y8] at c2
            omega)
          obtain ⟨q, f1, f2⟩ := c_first (F := F) (xi := xi) (xsr := xs2) hS8 hF
          obtain ⟨q2, g1⟩ := key n n 0 F S q (by omega) hn (by omega) hS8 f2
          rw [if_pos c3, a1, bd_some]
          dsimp only
          rw [f1, bd_some]
          exact ⟨q2, t2, xs2, g1, fun _ => a2⟩
        · rw [if_neg c3]
          exact ⟨_, tm, xsr, rfl, fun z => z⟩
      · rw [if_neg c2]
        exact ⟨_, tm, xsr, rfl, fun z => z⟩
theorem r_next {A : Nat} {w : OB} (H : HOK h) (hc : ∀ k, k < h.1 1 → cn k ≤ 99) (M : MCd h cn w) (hA : A < 256) (hF : 600 ≤ F) : ∃ r, f_X9_nextOf F (nI A) w = some r ∧ (r = -1 ∨ ∃ k, k < 8 ∧ r = nI k) := by
  have hq := H.q8
  have key : ∀ r k g, k + r = h.1 3 → r < g → ∃ q, lp (b_X9_nextOf_2 F w) g (nI A, nI k) = some q ∧ (q = -1 ∨ ∃ k, k < 8 ∧ q = nI k) := by
    intro r
    induction r with
    | zero =>
      intro k g h1 h2
      obtain ⟨g, rfl⟩ : ∃ g', g = g' + 1 := ⟨g - 1, by omega⟩
      refine ⟨-1, ?_, Or.inl rfl⟩
      rw [lp_S, b_X9_nextOf_2]
      dsimp only
      rw [t3, M.1.1.2.2.2, if_pos (nI_le (by omega) (by omega))]
    | succ r ih =>
      intro k g h1 h2
      obtain ⟨g, rfl⟩ : ∃ g', g = g' + 1 := ⟨g - 1, by omega⟩
      have hd := dif_lt (B := 2 ^ k) hA
      have i := ih (k + 1) g (by omega) (by omega)
      rw [lp_S, b_X9_nextOf_2]
      unfold b_X9_nextOf_47
      dsimp only
      rw [t3, M.1.1.2.2.2, if_neg (nI_ge (show k < h.1 3 by omega) (by omega)), s_has (show A < 2 ^ 31 by omega) (show k < 31 by omega), bd_some, n_shl (show k < 31 by omega), n_dif, s_drops H hc M (show difS A (2 ^ k) < 2 ^ 31 by omega) hF, bd_some, nI_1, if_pos (ib_n hd (by decide))]
      by_cases b : bS A k
      · rw [if_pos b, if_neg (show ¬ (1 : Int32) = 0 by decide)]
        by_cases e : nI (flS h cn (difS A (2 ^ k))) = 0
        · rw [if_pos e]
          by_cases z : w.2.1 44 (Int32.toNatClampNeg (nI (difS A (2 ^ k)))) = 0
          · rw [if_pos z]
            exact i
          · rw [if_neg z]
            exact ⟨_, rfl, Or.inr ⟨k, by omega, rfl⟩⟩
        · rw [if_neg e]
          exact i
      · rw [if_neg b, if_pos rfl]
        exact i
  exact key (h.1 3) 0 F (by omega) (by omega)
theorem r_way (H : HOK h) (hc : ∀ k, k < h.1 1 → cn k ≤ 99) (M : MDd h cn S D mi mo) (B : BDd (h.1 3) S D) (hF : 600 ≤ F) : ∃ r w, f_X9_way F x mo = some (r, w) ∧ QKd mo w := by
  have hS8 := l28 B.1 H.q8
  have e0 := r_isHall (F := F) H M.1
  have e3 := in_c (F := F) (x := x) (a := 0) (b := 7) (la := 0) (lb := 7) (by decide) (by decide)
  have qk : ∀ row : Nat → Int32, QKd mo (mo.1, uF mo.2.1 44 row, mo.2.2) := fun row => ⟨fun _ _ _ => rfl, fun j hj => uF_n (by omega), fun _ _ => rfl, fun _ _ => rfl, fun j i p q _ => congrFun (uF_n (show j ≠ 44 by omega)) i, fun _ _ => rfl, fun _ _ => rfl⟩
  have mk : ∀ row : Nat → Int32, MCd h cn (mo.1, uF mo.2.1 44 row, mo.2.2) := fun row => M.c
  -- how it is gone through
  have run : ∀ n (row : Nat → Int32) r p g A, p + r = n → n < 8 → r < g → A < 256 → ∃ q, lp (b_X9_way_90 F) g (nI n, nI A, nI p, (mo.1, uF mo.2.1 44 row, mo.2.2)) = some (q, (mo.1, uF mo.2.1 44 row, mo.2.2)) := by
    intro n row r
    have fin : ∀ A, A < 256 → ∃ q, b_X9_way_118 F (nI A) (mo.1, uF mo.2.1 44 row, mo.2.2) = some (q, (mo.1, uF mo.2.1 44 row, mo.2.2)) := fun A hA => by
      obtain ⟨q, f1, f2⟩ := r_next (F := F) H hc (mk row) hA hF
      unfold b_X9_way_118 b_X9_way_131
      by_cases z : nI A = 0
      · rw [if_pos z]
        exact ⟨_, rfl⟩
      · rw [if_neg z, f1, bd_some]
        exact ⟨_, rfl⟩
    induction r with
    | zero =>
      intro p g A h1 hn h2 hA
      obtain ⟨g, rfl⟩ : ∃ g', g = g' + 1 := ⟨g - 1, by omega⟩
      rw [lp_S, b_X9_way_90]
      dsimp only
      rw [if_pos (nI_le (by omega) (by omega))]
      exact fin A hA
    | succ r ih =>
      intro p g A h1 hn h2 hA
      obtain ⟨g, rfl⟩ : ∃ g', g = g' + 1 := ⟨g - 1, by omega⟩
      obtain ⟨q, f1, f2⟩ := r_next (F := F) H hc (mk row) hA hF
      rw [lp_S, b_X9_way_90]
      dsimp only
      rw [if_neg (nI_ge (by omega) (by omega))]
      by_cases z : nI A = 0
      · rw [if_pos z]
        exact fin A hA
      · rw [if_neg z, f1, bd_some, nI_1]
        rcases f2 with e | ⟨k, hk, e⟩
        · rw [e, show ((1 : Int32) <<< ((-1 : Int32) &&& 31)) ^^^ (-1) = 2147483647 by decide, show nI A &&& 2147483647 = nI A from (pk_andN (show A < 2 ^ 32 by omega) 31 (by decide)).trans (congrArg nI (by omega))]
          exact ih (p + 1) g A (by omega) hn (by omega) hA
        · rw [e, n_shl (show k < 31 by omega), n_dif]
          exact ih (p + 1) g _ (by omega) hn (by omega) (dif_lt hA)
  have sets : ∀ r s g (row : Nat → Int32), s + r = S + 1 → r < g → ∃ row2, lp (b_X9_way_30 F) g (x, nI S, nI s, (mo.1, uF mo.2.1 44 row, mo.2.2)) = (if row2 S = 0 then some (-2, (mo.1, uF mo.2.1 44 row2, mo.2.2)) else lp (b_X9_way_90 F) F (x, nI S, 0, (mo.1, uF mo.2.1 44 row2, mo.2.2))) := by
    intro r
    induction r with
    | zero =>
      intro s g row h1 h2
      obtain ⟨g, rfl⟩ : ∃ g', g = g' + 1 := ⟨g - 1, by omega⟩
      refine ⟨row, ?_⟩
      rw [lp_S, b_X9_way_30]
      dsimp only
      rw [if_pos (show nI S < nI s from nI_lt (by omega) (by omega)), if_pos (ib_n hS8 (by decide)), nI_clamp (show S < 2 ^ 31 by omega)]
      rfl
    | succ r ih =>
      intro s g row h1 h2
      obtain ⟨g, rfl⟩ : ∃ g', g = g' + 1 := ⟨g - 1, by omega⟩
      have hs : s < 256 := by omega
      obtain ⟨q, f1, f2⟩ := r_next (F := F) H hc (mk row) hs hF
      have st : ∀ y0 : Int32, b_X9_way_66 F (lp (b_X9_way_30 F) g) x (nI S) (nI s) y0 (nI s) (mo.1, uF mo.2.1 44 row, mo.2.2) = lp (b_X9_way_30 F) g (x, nI S, nI (s + 1), (mo.1, uF mo.2.1 44 (upd row s (vp_nar .boolean y0)), mo.2.2)) := fun y0 => by
        unfold b_X9_way_66 b_X9_way_67
        rw [if_pos (ib_n hs (by decide)), nI_clamp (show s < 2 ^ 31 by omega), nI_1]
        dsimp only
        rw [uF_uF, uF_s]
      rw [lp_S, b_X9_way_30]
      unfold b_X9_way_61
      dsimp only
      rw [if_neg (show ¬ nI S < nI s from nI_nlt (by omega) (by omega)), n_dif, st, f1, bd_some, st]
      by_cases e : nI (difS s S) = 0
      · rw [if_pos e]
        by_cases z : nI s = 0
        · rw [if_pos z]
          exact ih (s + 1) g _ (by omega) (by omega)
        · rw [if_neg z]
          by_cases y : q = -1
          · rw [if_pos y]
            exact ih (s + 1) g _ (by omega) (by omega)
          · rw [if_neg y]
            exact ih (s + 1) g _ (by omega) (by omega)
      · rw [if_neg e]
        unfold b_X9_way_67
        rw [nI_1]
        exact ih (s + 1) g row (by omega) (by omega)
  unfold f_X9_way b_X9_way_19
  rw [e0, bd_some]
  by_cases c0 : h.1 0 = 1
  · rw [if_pos c0, if_neg (show ¬ (1 : Int32) = 0 by decide), e3, bd_some]
    by_cases c1 : 0 ≤ x.toInt ∧ x.toInt ≤ 7
    · obtain ⟨n, hn, rfl⟩ := ix_of (n := 8) (x := x) (by omega)
      rw [if_pos c1, if_neg (show ¬ (1 : Int32) = 0 by decide), s_sits H M B hF, bd_some]
      obtain ⟨row2, g1⟩ := sets (S + 1) 0 F (mo.2.1 44) (by omega) (by omega)
      rw [uF_id] at g1
      have g1 : lp (b_X9_way_30 F) F (nI n, nI S, 0, mo) = _ := g1
      rw [g1]
      by_cases z : row2 S = 0
      · rw [if_pos z]
        exact ⟨_, _, rfl, qk row2⟩
      · rw [if_neg z]
        obtain ⟨q, r1⟩ := run n row2 n 0 F S (by omega) hn (by omega) hS8
        exact ⟨q, _, r1, qk row2⟩
    · rw [if_neg c1, if_pos rfl]
      exact ⟨_, mo, rfl, QKd.rf⟩
  · rw [if_neg c0, if_pos rfl]
    exact ⟨_, mo, rfl, QKd.rf⟩
end WAY
