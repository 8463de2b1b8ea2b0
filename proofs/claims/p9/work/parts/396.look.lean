/-! look: by both -/
/-- what one does by a rule when the minute begins -/
noncomputable def stV (R : Nat → Nat → Int32) (h : HLd) (cn : Nat → Nat) (n i q : Nat) : Nat := stt (trj R (rlO i) 0 0 h cn 0 0 0 n).1 (trj R (rlO i) 0 0 h cn 0 0 0 n).2 q
theorem stV_lt {R : Nat → Nat → Int32} {h : HLd} {cn : Nat → Nat} {n i q : Nat} : stV R h cn n i q < 3 := stt_lt _ _ _
/-- how many of the rules so far bring a state -/
noncomputable def tlN (P : Nat → Bool) (st : Nat → Nat → Nat) (i q v : Nat) : Nat := sumB i (fun j => if P j = true ∧ st j q = v then 1 else 0)
/-- the m-th rule that could be -/
noncomputable def ixS (P : Nat → Bool) : Nat → Nat → Nat
  | 0, _ => 0
  | i + 1, m => if P i = true ∧ m = sumB i (pB P) then i else ixS P i m
theorem cv_tl {P : Nat → Bool} {st : Nat → Nat → Nat} {q v : Nat} : ∀ i, sumB (sumB i (pB P)) (fun m => if st (ixS P i m) q = v then 1 else 0) = tlN P st i q v
  | 0 => rfl
  | i + 1 => by
    have ih := cv_tl (P := P) (st := st) (q := q) (v := v) i
    have e1 : tlN P st (i + 1) q v = tlN P st i q v + (if P i = true ∧ st i q = v then 1 else 0) := rfl
    have e2 : sumB (i + 1) (pB P) = sumB i (pB P) + pB P i := rfl
    by_cases z : P i = true
    · have pz : pB P i = 1 := if_pos z
      rw [e1, e2, pz, sumB_S, ← ih]
      have a : sumB (sumB i (pB P)) (fun m => if st (ixS P (i + 1) m) q = v then 1 else 0) = sumB (sumB i (pB P)) (fun m => if st (ixS P i m) q = v then 1 else 0) := sumB_cg _ (fun m hm => by
        have : ixS P (i + 1) m = ixS P i m := if_neg (fun y => by omega)
        rw [this])
      have b : ixS P (i + 1) (sumB i (pB P)) = i := if_pos ⟨z, rfl⟩
      rw [a, b]
      by_cases y : st i q = v
      · rw [if_pos y, if_pos (show P i = true ∧ st i q = v from ⟨z, y⟩)]
      · rw [if_neg y, if_neg (show ¬ (P i = true ∧ st i q = v) from fun u => y u.2)]
    · have pz : pB P i = 0 := if_neg z
      rw [e1, e2, pz, Nat.add_zero, if_neg (show ¬ (P i = true ∧ st i q = v) from fun u => z u.1), Nat.add_zero, ← ih]
      exact sumB_cg _ (fun m hm => by
        have : ixS P (i + 1) m = ixS P i m := if_neg (fun y => z y.1)
        rw [this])
/-- the greatest of three -/
noncomputable def mx3 (a b c : Nat) : Nat := if a < (if b < c then c else b) then (if b < c then c else b) else a
theorem mx3_b {a b c : Nat} : a ≤ mx3 a b c ∧ b ≤ mx3 a b c ∧ c ≤ mx3 a b c ∧ (mx3 a b c = a ∨ mx3 a b c = b ∨ mx3 a b c = c) := by
  unfold mx3
  by_cases z : b < c
  · rw [if_pos z]
    by_cases y : a < c
    · rw [if_pos y]
      omega
    · rw [if_neg y]
      omega
  · rw [if_neg z]
    by_cases y : a < b
    · rw [if_pos y]
      omega
    · rw [if_neg y]
      omega
/-- the greatest of a row of numbers -/
noncomputable def mxN (f : Nat → Nat) : Nat → Nat
  | 0 => 0
  | i + 1 => if f i ≤ mxN f i then mxN f i else f i
theorem mxN_b {f : Nat → Nat} : ∀ n, (∀ i, i < n → f i ≤ mxN f n) ∧ (mxN f n = 0 ∨ ∃ i, i < n ∧ mxN f n = f i)
  | 0 => ⟨fun i hi => absurd hi (Nat.not_lt_zero _), Or.inl rfl⟩
  | n + 1 => by
    obtain ⟨a, b⟩ := mxN_b (f := f) n
    show (∀ i, i < n + 1 → f i ≤ (if f n ≤ mxN f n then mxN f n else f n)) ∧ ((if f n ≤ mxN f n then mxN f n else f n) = 0 ∨ ∃ i, i < n + 1 ∧ (if f n ≤ mxN f n then mxN f n else f n) = f i)
    by_cases z : f n ≤ mxN f n
    · rw [if_pos z]
      refine ⟨fun i hi => ?_, ?_⟩
      · by_cases y : i = n
        · rw [y]
          exact z
        · exact a i (by omega)
      · rcases b with u | ⟨i, u, v⟩
        · exact Or.inl u
        · exact Or.inr ⟨i, by omega, v⟩
    · rw [if_neg z]
      refine ⟨fun i hi => ?_, Or.inr ⟨n, by omega, rfl⟩⟩
      by_cases y : i = n
      · rw [y]
        exact Nat.le_refl _
      · have := a i (by omega)
        omega
theorem mx_eq {P : Nat → Bool} {st : Nat → Nat → Nat} {q n : Nat} (h3 : ∀ i, st i q < 3) : mxN (fun i => tlN P st n q (st (ixS P n i) q)) (sumB n (pB P)) = mx3 (tlN P st n q 0) (tlN P st n q 1) (tlN P st n q 2) := by
  obtain ⟨a, b⟩ := mxN_b (f := fun i => tlN P st n q (st (ixS P n i) q)) (sumB n (pB P))
  obtain ⟨c0, c1, c2, c3⟩ := mx3_b (a := tlN P st n q 0) (b := tlN P st n q 1) (c := tlN P st n q 2)
  -- each tally that is not nought is that of some rule
  have at_ : ∀ v, tlN P st n q v ≤ mxN (fun i => tlN P st n q (st (ixS P n i) q)) (sumB n (pB P)) := fun v => by
    by_cases z : tlN P st n q v = 0
    · omega
    · have ex : ∃ i, i < sumB n (pB P) ∧ st (ixS P n i) q = v := by
        refine Classical.byContradiction (fun y => z ?_)
        rw [← cv_tl (P := P) (st := st) n]
        have : sumB (sumB n (pB P)) (fun m => if st (ixS P n m) q = v then 1 else 0) = sumB (sumB n (pB P)) (fun _ => 0) := sumB_cg _ (fun m hm => if_neg (fun u => y ⟨m, hm, u⟩))
        rw [this]
        have zz : ∀ k, sumB k (fun _ => 0) = 0 := fun k => by
          induction k with
          | zero => rfl
          | succ k ih => rw [sumB_S, ih]
        exact zz _
      obtain ⟨i, i1, i2⟩ := ex
      have u := a i i1
      have u : tlN P st n q (st (ixS P n i) q) ≤ mxN (fun i => tlN P st n q (st (ixS P n i) q)) (sumB n (pB P)) := u
      rw [i2] at u
      exact u
  have le : mxN (fun i => tlN P st n q (st (ixS P n i) q)) (sumB n (pB P)) ≤ mx3 (tlN P st n q 0) (tlN P st n q 1) (tlN P st n q 2) := by
    rcases b with u | ⟨i, u, v⟩
    · omega
    · rw [v]
      have w := h3 (ixS P n i)
      rcases (show st (ixS P n i) q = 0 ∨ st (ixS P n i) q = 1 ∨ st (ixS P n i) q = 2 by omega) with e | e | e
      · show tlN P st n q (st (ixS P n i) q) ≤ _
        rw [e]
        exact c0
      · show tlN P st n q (st (ixS P n i) q) ≤ _
        rw [e]
        exact c1
      · show tlN P st n q (st (ixS P n i) q) ≤ _
        rw [e]
        exact c2
  have a0 := at_ 0
  have a1 := at_ 1
  have a2 := at_ 2
  rcases c3 with e | e | e <;> omega
/-- the first with the least -/
noncomputable def bsN (f : Nat → Nat) : Nat → Nat
  | 0 => 0
  | k + 1 => if f (bsN f k) ≤ f (k + 1) then bsN f k else k + 1
theorem bsN_le {f : Nat → Nat} : ∀ k, bsN f k ≤ k
  | 0 => Nat.le_refl _
  | k + 1 => by
    have := bsN_le (f := f) k
    show (if f (bsN f k) ≤ f (k + 1) then bsN f k else k + 1) ≤ k + 1
    split <;> omega
noncomputable def lkR (what : Int32) (f : Nat → Nat) (q : Nat) : Int32 := if what = 0 then nI (bsN f (q - 1)) else nI (f (bsN f (q - 1)))
section LOK
variable {F : Nat} {h : HLd} {cn : Nat → Nat} {S D mi : Nat} {rm tm mo nt : OB} {rz : Nat → OB} {rl : Option Nat} {x e : Int32} {xi si : Nat → Int32} {xrr : Nat → Option Nat} {nm : Nat → Nat × Nat × Nat} {nn : Nat}
/-- the class counts the states of one rule -/
theorem ta_loop {K : (Int32 × Int32 × Int32 × OB × (Nat → Int32) × (Nat → OB)) → Option (Int32 × OB × (Nat → Int32) × (Nat → OB))} {n m v : Int32} (H : HOK h) (C : CDd h cn S D mi tm) (B : BDd (h.1 3) S D) : ∀ (r k g : Nat) (xt : Nat → Int32), k + r = h.1 3 → r < g → ∃ xt2, lp (b_X8_tallyStates_58 F xi xrr si rm nt K) g (n, m, v, nI k, tm, xt, rz) = K (n, m, v + 1, tm, xt2, rz) ∧ ∀ j s, s < 3 → xt2 (j * 3 + s) = if (k ≤ j ∧ j < h.1 3) ∧ stt S D j = s then xt (j * 3 + s) + 1 else xt (j * 3 + s)
  | 0, k, g, xt, h1, h2 => by
    obtain ⟨g, rfl⟩ : ∃ g', g = g' + 1 := ⟨g - 1, by omega⟩
    have hq := H.q8
    refine ⟨xt, ?_, fun j s hs => ?_⟩
    · rw [lp_S, b_X8_tallyStates_58]
      unfold b_X8_tallyStates_99
      dsimp only
      rw [C.1.1.2.2.2, if_pos (nI_le (by omega) (by omega))]
    · rw [if_neg (fun z => by omega)]
  | r + 1, k, g, xt, h1, h2 => by
    obtain ⟨g, rfl⟩ : ∃ g', g = g' + 1 := ⟨g - 1, by omega⟩
    have hq := H.q8
    have hl := stt_lt S D k
    obtain ⟨xt2, a1, a2⟩ := ta_loop (K := K) (n := n) (m := m) (v := v) H C B r (k + 1) g (upd xt (k * 3 + stt S D k) (xt (k * 3 + stt S D k) + 1)) (by omega) (by omega)
    refine ⟨xt2, ?_, fun j s hs => ?_⟩
    · rw [lp_S, b_X8_tallyStates_58]
      dsimp only
      rw [C.1.1.2.2.2, if_neg (nI_ge (show k < h.1 3 by omega) (by omega)), st_c H C B (by omega), bd_some, show (3 : Int32) = nI 3 from rfl, pk_mul, nI_add, if_pos (ib_n (show k * 3 + stt S D k < 24 by omega) (by decide)), nI_clamp (show k * 3 + stt S D k < 2 ^ 31 by omega), nI_1]
      exact a1
    · rw [a2 j s hs]
      by_cases y : j = k
      · subst y
        rw [if_neg (show ¬ ((j + 1 ≤ j ∧ j < h.1 3) ∧ stt S D j = s) from fun z => by omega)]
        by_cases u : stt S D j = s
        · rw [if_pos (show (j ≤ j ∧ j < h.1 3) ∧ stt S D j = s from ⟨⟨Nat.le_refl _, by omega⟩, u⟩), u, pk_us]
        · rw [if_neg (show ¬ ((j ≤ j ∧ j < h.1 3) ∧ stt S D j = s) from fun z => u z.2), pk_un (by omega)]
      · rw [pk_un (show j * 3 + s ≠ k * 3 + stt S D k by omega)]
        by_cases u : (k + 1 ≤ j ∧ j < h.1 3) ∧ stt S D j = s
        · rw [if_pos u, if_pos (show (k ≤ j ∧ j < h.1 3) ∧ stt S D j = s from ⟨⟨by omega, u.1.2⟩, u.2⟩)]
        · rw [if_neg u, if_neg (show ¬ ((k ≤ j ∧ j < h.1 3) ∧ stt S D j = s) from fun z => u ⟨⟨by omega, z.1.2⟩, z.2⟩)]
/-- the class counts for all rules -/
theorem ty_loop {P : Nat → Bool} {nr n : Nat} (H : HOK h) (C : CDd h cn S D mi rm) (hw : Rw (rm.2.1 4) 4 99) (N : NTd h nm nn nt mo) (hF : 600 ≤ F) (hn : nr ≤ 6) (hn6 : n ≤ 60) (h2 : xi 2 = nI nr) (hP : ∀ i, P i = ntH nm nn (trj mo.2.1 (rlO i) 0 0 h (tcn rm) 0 0 0)) : ∀ (r i g : Nat) (tm : OB) (xt : Nat → Int32) (rz : Nat → OB), i + r = nr + 1 → r < g → (∀ s, s < nr → RLk s (rz s) mo) → (∀ j s, j < h.1 3 → s < 3 → xt (j * 3 + s) = nI (tlN P (stV mo.2.1 h (tcn rm) n) i j s)) → ∃ tm2 xt2 rz2, lp (b_X8_tallyStates_12 F xi xrr si rm nt) g (nI n, nI (sumB i (pB P)), nI i + (-1), tm, xt, rz) = some (nI (sumB (nr + 1) (pB P)), tm2, xt2, rz2) ∧ RZk rz rz2 ∧ (Rw (tm.2.1 4) 4 99 → Rw (tm2.2.1 4) 4 99) ∧ ∀ j s, j < h.1 3 → s < 3 → xt2 (j * 3 + s) = nI (tlN P (stV mo.2.1 h (tcn rm) n) (nr + 1) j s)
  | 0, i, g, tm, xt, rz, hi, hg, hR, hx => by
    obtain ⟨g, rfl⟩ : ∃ g', g = g' + 1 := ⟨g - 1, by omega⟩
    have ei : i = nr + 1 := by omega
    subst ei
    refine ⟨tm, xt, rz, ?_, RZk.rf, fun z => z, hx⟩
    rw [lp_S, b_X8_tallyStates_12]
    dsimp only
    rw [h2, pk_m1, if_pos (nI_le (Nat.le_refl _) (by omega))]
  | r + 1, i, g, tm, xt, rz, hi, hg, hR, hx => by
    obtain ⟨g, rfl⟩ : ∃ g', g = g' + 1 := ⟨g - 1, by omega⟩
    have h4 := H.2.1
    have hq := H.q8
    have hRx := rlO_x (i := i) (show i ≤ nr by omega) hn hR
    obtain ⟨t1, rz1, a1, a2, a3⟩ := c_holds (F := F) (xi := xi) (si := si) (tm := tm) (e := nI i + (-1)) H C hw N hF hRx
    have eS : sumB (i + 1) (pB P) = sumB i (pB P) + pB P i := rfl
    have nle : ¬ nI nr ≤ nI i + (-1) := fun z => by
      have u := (m1_lt (a := i) (b := nr) (by omega) (by omega)).mpr (by omega)
      rw [sp_lt] at u
      rw [sp_le] at z
      exact absurd u (Int.not_lt.mpr z)
    have ni : nI i + (-1) + 1 = nI (i + 1) + (-1) := by
      rw [pk_m1, Int32.add_assoc, show (-1 : Int32) + 1 = 0 from by decide, Int32.add_zero]
    by_cases z : P i = true
    · have pz : pB P i = 1 := if_pos z
      obtain ⟨t2, b1, b2, b3, b4⟩ := c_anew (F := F) (xi := xi) (si := si) (tm := t1) H C hw hF
      obtain ⟨t3, rz3, c1, c2, c3, c4⟩ := s_passN (F := F) (mo := mo) (rl := rlO i) (He := 0) (Hd := 0) (x := nI i + (-1)) (n := n) H (fun k hk => (tcn_n (k := k) hw (by omega)).1) hF (by omega) (BDd0 _) n 0 F t2 rz1 (by omega) (by omega) (hRx.kz a2) b2 b3
      have c1 : f_X3_passMinutes F (nI n) (nI i + (-1)) t2 rz1 = some (t3, rz3) := c1
      have Bn := trj_bd (R := mo.2.1) (rl := rlO i) (He := 0) (Hd := 0) (cn := tcn rm) (mi := 0) H (BDd0 (h.1 3)) n
      obtain ⟨xt2, d1, d2⟩ := ta_loop (F := F) (xi := xi) (xrr := xrr) (si := si) (rm := rm) (nt := nt) (rz := rz3) (K := lp (b_X8_tallyStates_12 F xi xrr si rm nt) g) (n := nI n) (m := nI (sumB i (pB P)) + 1) (v := nI i + (-1)) H c2 Bn (h.1 3) 0 F xt (by omega) (by omega)
      obtain ⟨t4, xt4, rz4, e1, e2, e3, e4⟩ := ty_loop H C hw N hF hn hn6 h2 hP r (i + 1) g t3 xt2 rz3 (by omega) (by omega) (RLk.all hR (a2.tr c4)) (fun j s hj hs => by
        rw [d2 j s hs, hx j s hj hs]
        have et : tlN P (stV mo.2.1 h (tcn rm) n) (i + 1) j s = tlN P (stV mo.2.1 h (tcn rm) n) i j s + (if P i = true ∧ stV mo.2.1 h (tcn rm) n i j = s then 1 else 0) := rfl
        rw [et]
        by_cases u : stV mo.2.1 h (tcn rm) n i j = s
        · rw [if_pos (show (0 ≤ j ∧ j < h.1 3) ∧ stt (trj mo.2.1 (rlO i) 0 0 h (tcn rm) 0 0 0 n).1 (trj mo.2.1 (rlO i) 0 0 h (tcn rm) 0 0 0 n).2 j = s from ⟨⟨Nat.zero_le _, hj⟩, u⟩), if_pos (show P i = true ∧ stV mo.2.1 h (tcn rm) n i j = s from ⟨z, u⟩), nI_1]
        · rw [if_neg (show ¬ ((0 ≤ j ∧ j < h.1 3) ∧ stt (trj mo.2.1 (rlO i) 0 0 h (tcn rm) 0 0 0 n).1 (trj mo.2.1 (rlO i) 0 0 h (tcn rm) 0 0 0 n).2 j = s) from fun y => u y.2), if_neg (show ¬ (P i = true ∧ stV mo.2.1 h (tcn rm) n i j = s) from fun y => u y.2)]
          rfl)
      refine ⟨t4, xt4, rz4, ?_, (a2.tr c4).tr e2, fun _ => e3 (fun j hj => by
        rw [c3.2.1 4 (by decide) (by decide)]
        exact b4 j hj), e4⟩
      rw [← e1, lp_S, b_X8_tallyStates_12]
      dsimp only
      rw [h2, if_neg nle, c_ruleAt (show i ≤ nr by omega) hn h2, bd_some, a1, bd_some]
      dsimp only
      rw [← hP i, if_pos z, if_neg (show ¬ (1 : Int32) = 0 by decide), b1, bd_some, c1, bd_some, eS, pz, ← ni, ← nI_1]
      exact d1
    · have pz : pB P i = 0 := if_neg z
      obtain ⟨t4, xt4, rz4, e1, e2, e3, e4⟩ := ty_loop H C hw N hF hn hn6 h2 hP r (i + 1) g t1 xt rz1 (by omega) (by omega) (RLk.all hR a2) (fun j s hj hs => by
        rw [hx j s hj hs]
        have et : tlN P (stV mo.2.1 h (tcn rm) n) (i + 1) j s = tlN P (stV mo.2.1 h (tcn rm) n) i j s + (if P i = true ∧ stV mo.2.1 h (tcn rm) n i j = s then 1 else 0) := rfl
        rw [et, if_neg (show ¬ (P i = true ∧ stV mo.2.1 h (tcn rm) n i j = s) from fun y => z y.1)]
        rfl)
      refine ⟨t4, xt4, rz4, ?_, a2.tr e2, fun _ => e3 a3, e4⟩
      rw [← e1, lp_S, b_X8_tallyStates_12]
      unfold b_X8_tallyStates_99
      dsimp only
      rw [h2, if_neg nle, c_ruleAt (show i ≤ nr by omega) hn h2, bd_some, a1, bd_some]
      dsimp only
      rw [← hP i, if_neg z, if_pos rfl, eS, pz, ni]
      rfl
/-- how many rules at most bring one the same state -/
noncomputable def maK (P : Nat → Bool) (st : Nat → Nat → Nat) (n q : Nat) : Nat := mx3 (tlN P st n q 0) (tlN P st n q 1) (tlN P st n q 2)
theorem tl_le {P : Nat → Bool} {st : Nat → Nat → Nat} {n q v : Nat} : tlN P st n q v ≤ n := by
  have := sumB_le (f := fun j => if P j = true ∧ st j q = v then 1 else 0) (M := 1) n (fun k _ => by
    show (if P k = true ∧ st k q = v then 1 else 0) ≤ 1
    split <;> omega)
  unfold tlN
  omega
theorem ma_le {P : Nat → Bool} {st : Nat → Nat → Nat} {n q : Nat} : maK P st n q ≤ n := by
  have a0 := tl_le (P := P) (st := st) (n := n) (q := q) (v := 0)
  have a1 := tl_le (P := P) (st := st) (n := n) (q := q) (v := 1)
  have a2 := tl_le (P := P) (st := st) (n := n) (q := q) (v := 2)
  unfold maK
  rcases (mx3_b (a := tlN P st n q 0) (b := tlN P st n q 1) (c := tlN P st n q 2)).2.2.2 with e | e | e <;> omega
theorem mxi {a b : Nat} (ha : a < 2 ^ 31) (hb : b < 2 ^ 31) : (if nI a < nI b then nI b else nI a) = nI (if a < b then b else a) := by
  by_cases z : a < b
  · rw [if_pos (nI_lt z hb), if_pos z]
  · rw [if_neg (nI_nlt (by omega) ha), if_neg z]
theorem c_most {P : Nat → Bool} {st : Nat → Nat → Nat} {n k : Nat} {xt : Nat → Int32} (hk : k < 8) (hn : n ≤ 7) (hx : ∀ s, s < 3 → xt (k * 3 + s) = nI (tlN P st n k s)) : f_X8_mostAlike F (nI k) xi xt = some (nI (maK P st n k)) := by
  have a0 := tl_le (P := P) (st := st) (n := n) (q := k) (v := 0)
  have a1 := tl_le (P := P) (st := st) (n := n) (q := k) (v := 1)
  have a2 := tl_le (P := P) (st := st) (n := n) (q := k) (v := 2)
  have x0 := hx 0 (by decide)
  have x1 := hx 1 (by decide)
  have x2 := hx 2 (by decide)
  rw [Nat.add_zero] at x0
  have hi : (if tlN P st n k 1 < tlN P st n k 2 then tlN P st n k 2 else tlN P st n k 1) < 2 ^ 31 := by
    split <;> omega
  unfold f_X8_mostAlike
  rw [show (3 : Int32) = nI 3 from rfl, show (2 : Int32) = nI 2 from rfl, pk_mul, nI_1, nI_add, if_pos (ib_n (show k * 3 < 24 by omega) (by decide)), if_pos (ib_n (show k * 3 + 1 < 24 by omega) (by decide)), if_pos (ib_n (show k * 3 + 2 < 24 by omega) (by decide)), nI_clamp (show k * 3 < 2 ^ 31 by omega), nI_clamp (show k * 3 + 1 < 2 ^ 31 by omega), nI_clamp (show k * 3 + 2 < 2 ^ 31 by omega), x0, x1, x2, mxi (by omega) (by omega), mxi (by omega) hi]
  rfl
/-- the reference's row of what was shown -/
noncomputable def SHd (P : Nat → Bool) (st : Nat → Nat → Nat) (q3 i : Nat) (w : OB) : Prop := ∀ m q, m < sumB i (pB P) → q < q3 → w.2.1 48 (8 * m + q) = nI (st (ixS P i m) q)
theorem r_most {P : Nat → Bool} {st : Nat → Nat → Nat} {n q q3 : Nat} {w : OB} (hF : 600 ≤ F) (hn : n ≤ 7) (h8 : q3 ≤ 8) (hq : q < q3) (h3 : ∀ i, st i q < 3) (hS : SHd P st q3 n w) : f_X9_mostAlike F (nI q) (nI (sumB n (pB P))) w = some (nI (maK P st n q)) := by
  have hs := sumB_le (f := pB P) (M := 1) n (fun k _ => by
    unfold pB
    split <;> omega)
  have em := mx_eq (P := P) (st := st) (q := q) (n := n) h3
  have em : mxN (fun i => tlN P st n q (st (ixS P n i) q)) (sumB n (pB P)) = maK P st n q := em
  rw [← em]
  have mle : ∀ i, mxN (fun i => tlN P st n q (st (ixS P n i) q)) i ≤ 7 := fun i => by
    rcases (mxN_b (f := fun i => tlN P st n q (st (ixS P n i) q)) i).2 with u | ⟨j, u, v⟩
    · omega
    · rw [v]
      have := tl_le (P := P) (st := st) (n := n) (q := q) (v := st (ixS P n j) q)
      show tlN P st n q (st (ixS P n j) q) ≤ 7
      omega
  unfold f_X9_mostAlike
  refine lp_for (st := fun i => (nI q, nI (sumB n (pB P)), nI (mxN (fun i => tlN P st n q (st (ixS P n i) q)) i), nI i)) (q := sumB n (pB P)) (fun kk i hi => ?_) (fun kk => ?_) (sumB n (pB P)) F 0 (by omega) (by omega)
  · have inner : lp (b_X9_mostAlike_17 F w kk) F (nI q, nI (sumB n (pB P)), nI (mxN (fun i => tlN P st n q (st (ixS P n i) q)) i), nI i, nI (sumB 0 (fun m => if st (ixS P n m) q = st (ixS P n i) q then 1 else 0)), nI 0) = kk (nI q, nI (sumB n (pB P)), nI (mxN (fun i => tlN P st n q (st (ixS P n i) q)) (i + 1)), nI (i + 1)) := by
      refine lp_for (st := fun m => (nI q, nI (sumB n (pB P)), nI (mxN (fun i => tlN P st n q (st (ixS P n i) q)) i), nI i, nI (sumB m (fun m => if st (ixS P n m) q = st (ixS P n i) q then 1 else 0)), nI m)) (q := sumB n (pB P)) (fun kk2 m hm => ?_) (fun kk2 => ?_) (sumB n (pB P)) F 0 (by omega) (by omega)
      · unfold b_X9_mostAlike_17 b_X9_mostAlike_57
        dsimp only
        rw [if_neg (nI_ge hm (by omega)), show (8 : Int32) = nI 8 from rfl, pk_mul, pk_mul, nI_add, nI_add, if_pos (ib_n (show 8 * m + q < 56 by omega) (by decide)), if_pos (ib_n (show 8 * i + q < 56 by omega) (by decide)), nI_clamp (show 8 * m + q < 2 ^ 31 by omega), nI_clamp (show 8 * i + q < 2 ^ 31 by omega), hS m q hm hq, hS i q hi hq, nI_1, sumB_S m]
        have u1 := h3 (ixS P n m)
        have u2 := h3 (ixS P n i)
        by_cases z : st (ixS P n m) q = st (ixS P n i) q
        · rw [if_pos (show nI (st (ixS P n m) q) = nI (st (ixS P n i) q) by rw [z]), if_pos z, nI_1]
        · rw [if_neg (show ¬ nI (st (ixS P n m) q) = nI (st (ixS P n i) q) from fun y => z ((nI_eq (by omega) (by omega)).mp y)), if_neg z]
          rw [show nI (sumB m (fun m => if st (ixS P n m) q = st (ixS P n i) q then 1 else 0)) + 0 = nI (sumB m (fun m => if st (ixS P n m) q = st (ixS P n i) q then 1 else 0)) from Int32.add_zero _, nI_1]
          rfl
      · have cv := cv_tl (P := P) (st := st) (q := q) (v := st (ixS P n i) q) n
        have tl := tl_le (P := P) (st := st) (n := n) (q := q) (v := st (ixS P n i) q)
        have ml := mle i
        have e1 : mxN (fun i => tlN P st n q (st (ixS P n i) q)) (i + 1) = if tlN P st n q (st (ixS P n i) q) ≤ mxN (fun i => tlN P st n q (st (ixS P n i) q)) i then mxN (fun i => tlN P st n q (st (ixS P n i) q)) i else tlN P st n q (st (ixS P n i) q) := rfl
        unfold b_X9_mostAlike_17 b_X9_mostAlike_78
        dsimp only
        rw [if_pos (nI_le (Nat.le_refl _) (by omega)), cv, nI_1, e1]
        by_cases z : tlN P st n q (st (ixS P n i) q) ≤ mxN (fun i => tlN P st n q (st (ixS P n i) q)) i
        · rw [if_pos (nI_le z (by omega)), if_pos z]
        · rw [if_neg (nI_ge (by omega) (by omega)), if_neg z]
    unfold b_X9_mostAlike_5
    dsimp only
    rw [if_neg (nI_ge hi (by omega))]
    exact inner
  · unfold b_X9_mostAlike_5
    dsimp only
    rw [if_pos (nI_le (Nat.le_refl _) (by omega))]
/-- the reference goes through the rules -/
theorem lo_r {P : Nat → Bool} {nr n : Nat} {what : Int32} (H : HOK h) (C : CDd h cn S D mi rm) (M : MDd h cn S D mi mo) (hw : Rw (rm.2.1 4) 4 99) (N : NTd h nm nn nt mo) (hF : 600 ≤ F) (hn : nr ≤ 6) (hn6 : n ≤ 60) (h22 : mo.1 22 = nI nr) (hR : ∀ s, s < nr → RLk s (rz s) mo) (hm : Mus (h.1 3) 0 0 mo) (hP : ∀ i, P i = ntH nm nn (trj mo.2.1 (rlO i) 0 0 h (tcn rm) 0 0 0)) : ∀ (r i g : Nat) (w : OB), i + r = nr + 1 → r < g → RTd mo w → SHd P (stV mo.2.1 h (tcn rm) n) (h.1 3) i w → ∃ w2, lp (b_X9_look_40 F) g (nI n, what, nI (sumB i (pB P)), nI i + (-1), w) = (if nI (sumB (nr + 1) (pB P)) = 0 then b_X9_look_120 F w2 else if nI (h.1 3) = 0 then b_X9_look_120 F w2 else lp (b_X9_look_129 F) F (what, nI (sumB (nr + 1) (pB P)), 0, 1, w2)) ∧ RTd mo w2 ∧ SHd P (stV mo.2.1 h (tcn rm) n) (h.1 3) (nr + 1) w2
  | 0, i, g, w, hi, hg, T, hS => by
    obtain ⟨g, rfl⟩ : ∃ g', g = g' + 1 := ⟨g - 1, by omega⟩
    have ei : i = nr + 1 := by omega
    subst ei
    refine ⟨w, ?_, T, hS⟩
    rw [lp_S, b_X9_look_40]
    dsimp only
    rw [T.1.1 22 (by decide) (by decide), h22, pk_m1, if_pos (nI_le (Nat.le_refl _) (by omega)), t3, T.1.2.2.1 3 (by decide), M.1.1.2.2.2]
  | r + 1, i, g, w, hi, hg, T, hS => by
    obtain ⟨g, rfl⟩ : ∃ g', g = g' + 1 := ⟨g - 1, by omega⟩
    have hq := H.q8
    obtain ⟨w1, a1, a2, a3, e48⟩ := r_could (F := F) (rz := rz) (i := i) H C M hw N hF (show i ≤ nr by omega) hn hR hm T
    have hs := sumB_le (f := pB P) (M := 1) i (fun k _ => by
      unfold pB
      split <;> omega)
    have eS : sumB (i + 1) (pB P) = sumB i (pB P) + pB P i := rfl
    have nle : ¬ nI nr ≤ nI i + (-1) := fun z => by
      have u := (m1_lt (a := i) (b := nr) (by omega) (by omega)).mpr (by omega)
      rw [sp_lt] at u
      rw [sp_le] at z
      exact absurd u (Int.not_lt.mpr z)
    have ni : nI i + (-1) + 1 = nI (i + 1) + (-1) := by
      rw [pk_m1, Int32.add_assoc, show (-1 : Int32) + 1 = 0 from by decide, Int32.add_zero]
    by_cases z : P i = true
    · have pz : pB P i = 1 := if_pos z
      obtain ⟨row, hrow⟩ : ∃ row : Nat → Int32, row = fun j => if 8 * sumB i (pB P) ≤ j ∧ j < 8 * sumB i (pB P) + 8 then w1.2.1 47 (8 * n + (j - 8 * sumB i (pB P))) else w1.2.1 48 j := ⟨_, rfl⟩
      have T2 : RTd mo (w1.1, uF w1.2.1 48 row, w1.2.2) := by
        refine ⟨⟨a2.1.1, fun j hj => ?_, a2.1.2.2.1, a2.1.2.2.2.1, fun j k p q u => ?_, a2.1.2.2.2.2.2.1, a2.1.2.2.2.2.2.2⟩, a2.2⟩
        · show uF w1.2.1 48 row j = _
          rw [uF_n (by omega)]
          exact a2.1.2.1 j hj
        · show uF w1.2.1 48 row j k = _
          rw [uF_n (by omega)]
          exact a2.1.2.2.2.2.1 j k p q u
      have S2 : SHd P (stV mo.2.1 h (tcn rm) n) (h.1 3) (i + 1) (w1.1, uF w1.2.1 48 row, w1.2.2) := fun m q hm2 hq2 => by
        show row (8 * m + q) = _
        rw [hrow]
        dsimp only
        rw [eS, pz] at hm2
        by_cases y : m = sumB i (pB P)
        · rw [if_pos (show 8 * sumB i (pB P) ≤ 8 * m + q ∧ 8 * m + q < 8 * sumB i (pB P) + 8 by omega), show 8 * n + (8 * m + q - 8 * sumB i (pB P)) = 8 * n + q by omega, a3 n q (by omega) hq2]
          have ex : ixS P (i + 1) m = i := if_pos ⟨z, y⟩
          rw [ex]
          rfl
        · rw [if_neg (show ¬ (8 * sumB i (pB P) ≤ 8 * m + q ∧ 8 * m + q < 8 * sumB i (pB P) + 8) by omega), e48, hS m q (by omega) hq2]
          have ex : ixS P (i + 1) m = ixS P i m := if_neg (fun u => y u.2)
          rw [ex]
      obtain ⟨w2, b1, b2, b3⟩ := lo_r (what := what) H C M hw N hF hn hn6 h22 hR hm hP r (i + 1) g (w1.1, uF w1.2.1 48 row, w1.2.2) (by omega) (by omega) T2 S2
      refine ⟨w2, ?_, b2, b3⟩
      have inner : lp (b_X9_look_61 F (lp (b_X9_look_40 F) g)) F (nI n, what, nI (sumB i (pB P)), nI i + (-1), nI 0, (w1.1, uF w1.2.1 48 (fun j => if 8 * sumB i (pB P) ≤ j ∧ j < 8 * sumB i (pB P) + 0 then w1.2.1 47 (8 * n + (j - 8 * sumB i (pB P))) else w1.2.1 48 j), w1.2.2)) = lp (b_X9_look_40 F) g (nI n, what, nI (sumB i (pB P)) + 1, nI i + (-1) + 1, (w1.1, uF w1.2.1 48 row, w1.2.2)) := by
        refine lp_for (st := fun k => (nI n, what, nI (sumB i (pB P)), nI i + (-1), nI k, (w1.1, uF w1.2.1 48 (fun j => if 8 * sumB i (pB P) ≤ j ∧ j < 8 * sumB i (pB P) + k then w1.2.1 47 (8 * n + (j - 8 * sumB i (pB P))) else w1.2.1 48 j), w1.2.2))) (q := 8) (fun kk k hk => ?_) (fun kk => ?_) 8 F 0 (by omega) (by omega)
        · unfold b_X9_look_61
          dsimp only
          rw [if_neg (show ¬ (8 : Int32) ≤ nI k from nI_ge (a := k) (b := 8) hk (by decide)), show (8 : Int32) = nI 8 from rfl, pk_mul, pk_mul, nI_add, nI_add, if_pos (ib_n (show 8 * n + k < 488 by omega) (by decide)), if_pos (ib_n (show 8 * sumB i (pB P) + k < 56 by omega) (by decide)), nI_clamp (show 8 * n + k < 2 ^ 31 by omega), nI_clamp (show 8 * sumB i (pB P) + k < 2 ^ 31 by omega), nI_1, uF_uF, uF_s, uF_n (show 47 ≠ 48 by decide)]
          rw [show upd (fun j => if 8 * sumB i (pB P) ≤ j ∧ j < 8 * sumB i (pB P) + k then w1.2.1 47 (8 * n + (j - 8 * sumB i (pB P))) else w1.2.1 48 j) (8 * sumB i (pB P) + k) (w1.2.1 47 (8 * n + k)) = (fun j => if 8 * sumB i (pB P) ≤ j ∧ j < 8 * sumB i (pB P) + (k + 1) then w1.2.1 47 (8 * n + (j - 8 * sumB i (pB P))) else w1.2.1 48 j) from funext (fun j => by
            by_cases y : j = 8 * sumB i (pB P) + k
            · rw [y, pk_us, if_pos (show 8 * sumB i (pB P) ≤ 8 * sumB i (pB P) + k ∧ 8 * sumB i (pB P) + k < 8 * sumB i (pB P) + (k + 1) by omega), show 8 * sumB i (pB P) + k - 8 * sumB i (pB P) = k by omega]
            · rw [pk_un y]
              by_cases u : 8 * sumB i (pB P) ≤ j ∧ j < 8 * sumB i (pB P) + k
              · rw [if_pos u, if_pos (show 8 * sumB i (pB P) ≤ j ∧ j < 8 * sumB i (pB P) + (k + 1) by omega)]
              · rw [if_neg u, if_neg (show ¬ (8 * sumB i (pB P) ≤ j ∧ j < 8 * sumB i (pB P) + (k + 1)) by omega)])]
        · unfold b_X9_look_61 b_X9_look_101
          dsimp only
          rw [if_pos (show (8 : Int32) ≤ nI 8 by decide), hrow]
      rw [show (fun j => if 8 * sumB i (pB P) ≤ j ∧ j < 8 * sumB i (pB P) + 0 then w1.2.1 47 (8 * n + (j - 8 * sumB i (pB P))) else w1.2.1 48 j) = w1.2.1 48 from funext (fun j => if_neg (fun u => by omega)), uF_id] at inner
      rw [← b1, lp_S, b_X9_look_40]
      dsimp only
      rw [T.1.1 22 (by decide) (by decide), h22, if_neg nle, a1, bd_some]
      dsimp only
      rw [← hP i, if_pos z, if_neg (show ¬ (1 : Int32) = 0 by decide), eS, pz, ← ni, ← nI_1]
      exact inner
    · have pz : pB P i = 0 := if_neg z
      have S2 : SHd P (stV mo.2.1 h (tcn rm) n) (h.1 3) (i + 1) w1 := fun m q hm2 hq2 => by
        rw [eS, pz, Nat.add_zero] at hm2
        have ex : ixS P (i + 1) m = ixS P i m := if_neg (fun u => z u.1)
        rw [e48, ex]
        exact hS m q hm2 hq2
      obtain ⟨w2, b1, b2, b3⟩ := lo_r (what := what) H C M hw N hF hn hn6 h22 hR hm hP r (i + 1) g w1 (by omega) (by omega) a2 S2
      refine ⟨w2, ?_, b2, b3⟩
      rw [← b1, lp_S, b_X9_look_40]
      unfold b_X9_look_101
      dsimp only
      rw [T.1.1 22 (by decide) (by decide), h22, if_neg nle, a1, bd_some]
      dsimp only
      rw [← hP i, if_neg z, if_pos rfl, eS, pz, ni]
      rfl
/-- the first with the least: the class -/
theorem lc_loop {P : Nat → Bool} {st : Nat → Nat → Nat} {n q3 : Nat} {what : Int32} {xt : Nat → Int32} (h3 : rm.1 3 = nI q3) (h8 : q3 ≤ 8) (hn : n ≤ 7) (hx : ∀ j s, j < q3 → s < 3 → xt (j * 3 + s) = nI (tlN P st n j s)) : ∀ (r k g : Nat), k + 1 + r = q3 → r < g → lp (b_X8_look_56 F xi xrr si rm nt) g (what, nI (bsN (maK P st n) k), nI (maK P st n (bsN (maK P st n) k)), nI (k + 1), tm, xt, rz) = some (lkR what (maK P st n) q3, tm, xt, rz)
  | 0, k, g, h1, h2 => by
    obtain ⟨g, rfl⟩ : ∃ g', g = g' + 1 := ⟨g - 1, by omega⟩
    have hb := bsN_le (f := maK P st n) k
    have ek : q3 - 1 = k := by omega
    rw [lp_S, b_X8_look_56]
    unfold b_X8_look_120 lkR
    dsimp only
    rw [h3, if_pos (nI_le (by omega) (by omega)), if_neg (nI_nm1 (show bsN (maK P st n) k < 2 ^ 31 by omega)), ek]
    by_cases z : what = 0
    · rw [if_pos z, if_pos z]
    · rw [if_neg z, if_neg z]
  | r + 1, k, g, h1, h2 => by
    obtain ⟨g, rfl⟩ : ∃ g', g = g' + 1 := ⟨g - 1, by omega⟩
    have hb := bsN_le (f := maK P st n) k
    have m1 := ma_le (P := P) (st := st) (n := n) (q := k + 1)
    have m2 := ma_le (P := P) (st := st) (n := n) (q := bsN (maK P st n) k)
    have ih := lc_loop (what := what) h3 h8 hn hx r (k + 1) g (by omega) (by omega)
    have eb : bsN (maK P st n) (k + 1) = if maK P st n (bsN (maK P st n) k) ≤ maK P st n (k + 1) then bsN (maK P st n) k else k + 1 := rfl
    rw [eb] at ih
    rw [lp_S, b_X8_look_56]
    unfold b_X8_look_86 b_X8_look_94
    dsimp only
    rw [h3, if_neg (nI_ge (show k + 1 < q3 by omega) (by omega)), c_most (show k + 1 < 8 by omega) hn (fun s hs => hx (k + 1) s (by omega) hs), bd_some, if_neg (nI_nm1 (show bsN (maK P st n) k < 2 ^ 31 by omega)), nI_1]
    by_cases z : maK P st n (bsN (maK P st n) k) ≤ maK P st n (k + 1)
    · rw [if_pos z] at ih
      rw [if_pos (nI_le z (by omega))]
      exact ih
    · rw [if_neg z] at ih
      rw [if_neg (nI_ge (by omega) (by omega))]
      exact ih
/-- the first with the least: the reference -/
theorem lr_loop {P : Nat → Bool} {st : Nat → Nat → Nat} {n q3 : Nat} {what : Int32} {w : OB} (h3 : w.2.1 1 3 = nI q3) (h8 : q3 ≤ 8) (hn : n ≤ 7) (hF : 600 ≤ F) (h33 : ∀ i q, st i q < 3) (hS : SHd P st q3 n w) : ∀ (r k g : Nat), k + 1 + r = q3 → r < g → lp (b_X9_look_129 F) g (what, nI (sumB n (pB P)), nI (bsN (maK P st n) k), nI (k + 1), w) = some (lkR what (maK P st n) q3, w)
  | 0, k, g, h1, h2 => by
    obtain ⟨g, rfl⟩ : ∃ g', g = g' + 1 := ⟨g - 1, by omega⟩
    have hb := bsN_le (f := maK P st n) k
    have ek : q3 - 1 = k := by omega
    rw [lp_S, b_X9_look_129]
    unfold b_X9_look_188 lkR
    dsimp only
    rw [t3, h3, if_pos (nI_le (by omega) (by omega)), r_most hF hn h8 (show bsN (maK P st n) k < q3 by omega) (fun i => h33 i _) hS, bd_some, ek]
    by_cases z : what = 0
    · rw [if_pos z, if_pos z]
    · rw [if_neg z, if_neg z]
  | r + 1, k, g, h1, h2 => by
    obtain ⟨g, rfl⟩ : ∃ g', g = g' + 1 := ⟨g - 1, by omega⟩
    have hb := bsN_le (f := maK P st n) k
    have m1 := ma_le (P := P) (st := st) (n := n) (q := k + 1)
    have m2 := ma_le (P := P) (st := st) (n := n) (q := bsN (maK P st n) k)
    have ih := lr_loop (what := what) h3 h8 hn hF h33 hS r (k + 1) g (by omega) (by omega)
    have eb : bsN (maK P st n) (k + 1) = if maK P st n (bsN (maK P st n) k) ≤ maK P st n (k + 1) then bsN (maK P st n) k else k + 1 := rfl
    rw [eb] at ih
    rw [lp_S, b_X9_look_129]
    unfold b_X9_look_164
    dsimp only
    rw [t3, h3, if_neg (nI_ge (show k + 1 < q3 by omega) (by omega)), r_most hF hn h8 (show k + 1 < q3 by omega) (fun i => h33 i _) hS, bd_some, r_most hF hn h8 (show bsN (maK P st n) k < q3 by omega) (fun i => h33 i _) hS, bd_some, nI_1]
    by_cases z : maK P st n (bsN (maK P st n) k) ≤ maK P st n (k + 1)
    · rw [if_pos z] at ih
      rw [if_pos (nI_le z (by omega))]
      exact ih
    · rw [if_neg z] at ih
      rw [if_neg (nI_ge (by omega) (by omega))]
      exact ih
noncomputable def AskL (mo tm : OB) (rz : Nat → OB) (cl : Option (Int32 × OB × (Nat → Int32) × (Nat → OB))) (rr : Option (Int32 × OB)) : Prop := ∃ (r : Int32) (tm2 w : OB) (xt2 : Nat → Int32) (rz2 : Nat → OB), cl = some (r, tm2, xt2, rz2) ∧ rr = some (r, w) ∧ QKd mo w ∧ RZk rz rz2 ∧ (Rw (tm.2.1 4) 4 99 → Rw (tm2.2.1 4) 4 99)
theorem q_look {nr : Nat} {x1 x2 : Int32} {xt : Nat → Int32} (H : HOK h) (C : CDd h cn S D mi rm) (M : MDd h cn S D mi mo) (hw : Rw (rm.2.1 4) 4 99) (N : NTd h nm nn nt mo) (hF : 600 ≤ F) (hn : nr ≤ 6) (h2 : xi 2 = nI nr) (h22 : mo.1 22 = nI nr) (hR : ∀ s, s < nr → RLk s (rz s) mo) (hm : Mus (h.1 3) 0 0 mo) : AskL mo tm rz (f_X8_look F x1 x2 xi xrr si rm nt tm xt rz) (f_X9_look F x1 x2 mo) := by
  have t01 := H.1
  have hq := H.q8
  have e0 := r_isHall (F := F) H M.1
  have e1 := in_c (F := F) (x := x1) (a := 0) (b := 60) (la := 0) (lb := 60) (by decide) (by decide)
  have e3 := in_c (F := F) (x := x2) (a := 0) (b := 1) (la := 0) (lb := 1) (by decide) (by decide)
  have y1 : (1 : Int32).toInt = 1 := by decide
  have y60 : (60 : Int32).toInt = 60 := by decide
  by_cases c : h.1 0 = 1 ∧ (0 ≤ x1.toInt ∧ x1.toInt ≤ 60) ∧ 0 ≤ x2.toInt ∧ x2.toInt ≤ 1
  · obtain ⟨c1, c2, c3⟩ := c
    obtain ⟨n, hnn, rfl⟩ := ix_of (n := 61) (x := x1) (by omega)
    obtain ⟨P, hPd⟩ : ∃ P : Nat → Bool, P = fun i => ntH nm nn (trj mo.2.1 (rlO i) 0 0 h (tcn rm) 0 0 0) := ⟨_, rfl⟩
    have hP : ∀ i, P i = ntH nm nn (trj mo.2.1 (rlO i) 0 0 h (tcn rm) 0 0 0) := fun i => by rw [hPd]
    obtain ⟨x0, z1, z2⟩ := s_fill (F := F) (n := 24) (v := 0) (row := xt) (by decide) hF
    obtain ⟨t2, xt2, rz2, a1, a2, a3, a4⟩ := ty_loop (F := F) (xi := xi) (xrr := xrr) (si := si) (n := n) H C hw N hF hn (by omega) h2 hP (nr + 1) 0 F tm x0 rz (by omega) (by omega) hR (fun j s hj hs => (z2 (j * 3 + s) (by omega)).trans rfl)
    rw [show nI 0 + (-1) = (-1 : Int32) by decide] at a1
    have ta : f_X8_tallyStates F (nI n) xi xrr si rm nt tm xt rz = some (nI (sumB (nr + 1) (pB P)), t2, xt2, rz2) := by
      unfold f_X8_tallyStates
      rw [z1, bd_some]
      exact a1
    obtain ⟨w0, b1, b2, b3, b4⟩ := try_r (F := F) M hF
    obtain ⟨w2, d1, d2, d3⟩ := lo_r (F := F) (what := x2) (n := n) H C M hw N hF hn (by omega) h22 hR hm hP (nr + 1) 0 F w0 (by omega) (by omega) ⟨b4.q, b3⟩ (fun m q hm2 => absurd hm2 (Nat.not_lt_zero _))
    rw [show nI 0 + (-1) = (-1 : Int32) by decide] at d1
    have cB : f_X8_look F (nI n) x2 xi xrr si rm nt tm xt rz = if nI (sumB (nr + 1) (pB P)) = 0 then some (-2, t2, xt2, rz2) else lp (b_X8_look_56 F xi xrr si rm nt) F (x2, -1, 0, 0, t2, xt2, rz2) := by
      unfold f_X8_look
      rw [C.1.1.1, c1, if_neg (show ¬ nI 1 = 0 by decide), if_neg (nI_pos (by omega)), if_neg (show ¬ (60 : Int32) < nI n from nI_nlt (a := 60) (b := n) (by omega) (by omega)), if_neg (show ¬ x2 < 0 from fun z => by rw [sp_lt, sp0] at z; omega), if_pos (show x2 ≤ 1 by rw [sp_le, y1]; omega), ta, bd_some]
    have rB : f_X9_look F (nI n) x2 mo = (if nI (sumB (nr + 1) (pB P)) = 0 then b_X9_look_120 F w2 else if nI (h.1 3) = 0 then b_X9_look_120 F w2 else lp (b_X9_look_129 F) F (x2, nI (sumB (nr + 1) (pB P)), 0, 1, w2)) := by
      unfold f_X9_look
      rw [e0, bd_some, if_pos c1, if_neg (show ¬ (1 : Int32) = 0 by decide), e1, bd_some, if_pos (show 0 ≤ (nI n).toInt ∧ (nI n).toInt ≤ 60 from c2), if_neg (show ¬ (1 : Int32) = 0 by decide), e3, bd_some, if_pos c3, if_neg (show ¬ (1 : Int32) = 0 by decide), b1, bd_some]
      exact d1
    have hs := sumB_le (f := pB P) (M := 1) (nr + 1) (fun k _ => by
      unfold pB
      split <;> omega)
    by_cases m0 : nI (sumB (nr + 1) (pB P)) = 0
    · exact ⟨-2, t2, w2, xt2, rz2, by rw [cB, if_pos m0], by rw [rB, if_pos m0]; rfl, d2.1, a2, a3⟩
    · by_cases q0 : h.1 3 = 0
      · refine ⟨-2, t2, w2, xt2, rz2, ?_, by rw [rB, if_neg m0, if_pos (show nI (h.1 3) = 0 by rw [q0]; rfl)]; rfl, d2.1, a2, a3⟩
        obtain ⟨G, rfl⟩ : ∃ G, F = G + 1 := ⟨F - 1, by omega⟩
        rw [cB, if_neg m0, lp_S, b_X8_look_56]
        dsimp only
        rw [C.1.1.2.2.2, q0, if_pos (show nI 0 ≤ 0 by decide), if_pos rfl]
      · have lr := lr_loop (F := F) (what := x2) (w := w2) (P := P) (st := stV mo.2.1 h (tcn rm) n) (n := nr + 1) (q3 := h.1 3) ((d2.1.2.2.1 3 (by decide)).trans M.1.1.2.2.2) hq (by omega) hF (fun i q => stV_lt) d3 (h.1 3 - 1) 0 F (by omega) (by omega)
        refine ⟨lkR x2 (maK P (stV mo.2.1 h (tcn rm) n) (nr + 1)) (h.1 3), t2, w2, xt2, rz2, ?_, by rw [rB, if_neg m0, if_neg (nI_ne0 (Nat.pos_of_ne_zero q0) (by omega))]; exact lr, d2.1, a2, a3⟩
        have F0 : ∃ G, F = G + 1 := ⟨F - 1, by omega⟩
        have lc := lc_loop (F := F) (xi := xi) (xrr := xrr) (si := si) (rm := rm) (nt := nt) (tm := t2) (rz := rz2) (what := x2) (xt := xt2) (P := P) (st := stV mo.2.1 h (tcn rm) n) (n := nr + 1) (q3 := h.1 3) C.1.1.2.2.2 hq (by omega) a4 (h.1 3 - 1) 0 (F - 1) (by omega) (by omega)
        have step : lp (b_X8_look_56 F xi xrr si rm nt) F (x2, -1, 0, 0, t2, xt2, rz2) = lp (b_X8_look_56 F xi xrr si rm nt) (F - 1) (x2, nI (bsN (maK P (stV mo.2.1 h (tcn rm) n) (nr + 1)) 0), nI (maK P (stV mo.2.1 h (tcn rm) n) (nr + 1) (bsN (maK P (stV mo.2.1 h (tcn rm) n) (nr + 1)) 0)), nI (0 + 1), t2, xt2, rz2) := by
          have key : ∀ g, lp (b_X8_look_56 F xi xrr si rm nt) (g + 1) (x2, -1, nI 0, nI 0, t2, xt2, rz2) = lp (b_X8_look_56 F xi xrr si rm nt) g (x2, nI (bsN (maK P (stV mo.2.1 h (tcn rm) n) (nr + 1)) 0), nI (maK P (stV mo.2.1 h (tcn rm) n) (nr + 1) (bsN (maK P (stV mo.2.1 h (tcn rm) n) (nr + 1)) 0)), nI (0 + 1), t2, xt2, rz2) := fun g => by
            rw [lp_S, b_X8_look_56]
            unfold b_X8_look_86 b_X8_look_94
            dsimp only
            rw [C.1.1.2.2.2, if_neg (nI_ge (Nat.pos_of_ne_zero q0) (by omega)), c_most (P := P) (st := stV mo.2.1 h (tcn rm) n) (n := nr + 1) (k := 0) (by decide) (by omega) (fun s hs => a4 0 s (by omega) hs), bd_some, if_pos rfl, nI_1]
            rfl
          have k := key (F - 1)
          rw [show F - 1 + 1 = F by omega] at k
          exact k
        rw [cB, if_neg m0, step]
        exact lc
  · refine ⟨-1, tm, mo, xt, rz, ?_, ?_, QKd.rf, RZk.rf, fun z => z⟩
    · unfold f_X8_look b_X8_look_34
      rw [C.1.1.1]
      refine ite_no (fun _ => rfl) (fun a0 => ite_no (fun _ => rfl) (fun a1 => ite_no (fun _ => rfl) (fun a2 => ite_no (fun _ => rfl) (fun a3 => ite_no (fun a4 => absurd ?_ c) (fun _ => rfl)))))
      have z0 : h.1 0 = 1 := by
        have : ¬ h.1 0 = 0 := fun z => a0 (by rw [z]; rfl)
        omega
      rw [sp_lt, sp0] at a1
      rw [sp_lt, y60] at a2
      rw [sp_lt, sp0] at a3
      rw [sp_le, y1] at a4
      exact ⟨z0, ⟨by omega, by omega⟩, by omega, by omega⟩
    · unfold f_X9_look b_X9_look_29
      rw [e0, bd_some]
      refine ite_no (fun _ => rfl) (fun a0 => ?_)
      rw [e1, bd_some]
      refine ite_no (fun _ => rfl) (fun a1 => ?_)
      rw [e3, bd_some]
      refine ite_no (fun _ => rfl) (fun a2 => ?_)
      exact absurd ⟨one_of a0, one_of a1, one_of a2⟩ c
end LOK
