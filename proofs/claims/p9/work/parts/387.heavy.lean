/-! heavy, pence: by both -/
/-- a hall in which one is heavier or lighter -/
noncomputable def hwS (h : HLd) (k v : Nat) : HLd := (h.1, fun j i => if j = 8 ∧ i = k then v else h.2 j i)
theorem hw_ok {h : HLd} {k v : Nat} (H : HOK h) (h1 : 1 ≤ v) (h2 : v ≤ 20) : HOK (hwS h k v) := by
  obtain ⟨a0, a1, a2, a3, a4, a5, a6⟩ := H
  refine ⟨a0, a1, a2, a3, a4, a5, fun j hj => ⟨(a6 j hj).1, ?_⟩⟩
  show 1 ≤ (if 8 = 8 ∧ j = k then v else h.2 8 j) ∧ (if 8 = 8 ∧ j = k then v else h.2 8 j) ≤ 20
  by_cases e : j = k
  · rw [if_pos ⟨rfl, e⟩]
    exact ⟨h1, h2⟩
  · rw [if_neg (fun z => e z.2)]
    exact (a6 j hj).2
noncomputable def CKd (h : HLd) (cn : Nat → Nat) (D mi : Nat) (rm : OB) : Prop := HKd h rm ∧ (∀ k, k < 4 → rm.2.1 9 k = nI (cn k)) ∧ rm.1 11 = nI D ∧ rm.1 12 = nI mi
theorem CKd.w {h : HLd} {cn : Nat → Nat} {D mi k v v2 : Nat} {t : OB} (C : CKd (hwS h k v2) cn D mi t) : CKd (hwS h k v) cn D mi (t.1, uF t.2.1 8 (upd (t.2.1 8) k (nI v)), t.2.2) := by
  obtain ⟨⟨⟨a0, a1, a2, a3⟩, a4, a5, a6⟩, b1, b2, b3⟩ := C
  refine ⟨⟨⟨a0, a1, a2, a3⟩, a4, a5, fun j hj => ⟨(a6 j hj).1, ?_⟩⟩, b1, b2, b3⟩
  show upd (t.2.1 8) k (nI v) j = nI (if 8 = 8 ∧ j = k then v else h.2 8 j)
  by_cases e : j = k
  · rw [e, pk_us, if_pos ⟨rfl, rfl⟩]
  · rw [pk_un e, if_neg (fun z => e z.2)]
    have := (a6 j hj).2
    have : t.2.1 8 j = nI (if 8 = 8 ∧ j = k then v2 else h.2 8 j) := this
    rw [if_neg (fun z => e z.2)] at this
    exact this
noncomputable def lvS (P : Nat → Bool) : Nat → Int32
  | 0 => -2
  | r + 1 => if P (20 - r) = true then nI (20 - r) else lvS P r
noncomputable def pvS (P : Nat → Bool) (i : Nat) : Nat := if P (i + 1) = true then 1 else 0
noncomputable def fsS (P : Nat → Bool) : Nat → Int32
  | 0 => -2
  | n + 1 => if P (n + 1) = true then (if sumB n (pvS P) = 0 then nI (n + 1) else fsS P n) else fsS P n
theorem lv_fs {P : Nat → Bool} : ∀ n, n ≤ 20 → lvS P 20 = if sumB n (pvS P) = 0 then lvS P (20 - n) else fsS P n
  | 0, _ => by
    rw [if_pos (show sumB 0 (pvS P) = 0 from rfl)]
  | n + 1, hn => by
    rw [lv_fs n (by omega), sumB_S]
    have e : lvS P (20 - n) = if P (n + 1) = true then nI (n + 1) else lvS P (20 - (n + 1)) := by
      rw [show 20 - n = (20 - (n + 1)) + 1 by omega]
      show (if P (20 - (20 - (n + 1))) = true then nI (20 - (20 - (n + 1))) else lvS P (20 - (n + 1))) = _
      rw [show 20 - (20 - (n + 1)) = n + 1 by omega]
    have f : fsS P (n + 1) = if P (n + 1) = true then (if sumB n (pvS P) = 0 then nI (n + 1) else fsS P n) else fsS P n := rfl
    rw [e, f]
    unfold pvS
    by_cases p : P (n + 1) = true
    · rw [if_pos p, if_pos p, if_pos p, if_neg (show ¬ sumB n (fun i => if P (i + 1) = true then 1 else 0) + 1 = 0 by omega)]
    · rw [if_neg p, if_neg p, if_neg p] <;> rfl
theorem lv_all {P : Nat → Bool} : lvS P 20 = fsS P 20 := by
  rw [lv_fs 20 (Nat.le_refl _)]
  by_cases z : sumB 20 (pvS P) = 0
  · rw [if_pos z]
    have key : ∀ n, sumB n (pvS P) = 0 → fsS P n = -2 := fun n => by
      induction n with
      | zero => intro _; rfl
      | succ n ih =>
        intro e
        rw [sumB_S] at e
        have e1 : pvS P n = 0 := by omega
        have p : ¬ P (n + 1) = true := fun z => by
          unfold pvS at e1
          rw [if_pos z] at e1
          omega
        show (if P (n + 1) = true then _ else fsS P n) = -2
        rw [if_neg p]
        exact ih (by omega)
    rw [key 20 z]
    rfl
  · rw [if_neg z]
section HVY
variable {F : Nat} {h : HLd} {cn : Nat → Nat} {S D mi : Nat} {rm tm mo : OB} {x : Int32} {xi si : Nat → Int32}
theorem s_bearsK {A : Nat} {t : OB} (H : HOK h) (hc : ∀ k, k < h.1 1 → cn k ≤ 99) (C : CKd h cn D mi t) (hA : A < 2 ^ 31) (hF : 600 ≤ F) : ∃ t2, f_X3_bears F (nI A) t = some (if flS h cn A = 0 then 1 else 0, t2) ∧ CKd h cn D mi t2 ∧ t2.2.1 4 = t.2.1 4 := by
  have hfl := l28 (mk_lt (c := flc h cn A) (h.1 3)) H.q8
  have k0 : KRd t (uF t.1 10 (nI A), t.2.1, t.2.2) := ⟨fun j p _ _ => uF_n p, fun _ _ _ => rfl, rfl⟩
  have K := C.1.kr k0
  obtain ⟨l2, e2, g1, g2⟩ := s_weigh (F := F) (S := A) H K rfl hA hF
  have k1 : KRd (uF t.1 10 (nI A), t.2.1, t.2.2) (rmw (uF t.1 10 (nI A), t.2.1, t.2.2) l2 e2) := ⟨fun _ _ _ _ => rfl, fun j p q => by
    show uF (uF t.2.1 13 l2) 14 e2 j = t.2.1 j
    rw [uF_n q, uF_n p], rfl⟩
  have C2 : CDd h cn A D mi (rmw (uF t.1 10 (nI A), t.2.1, t.2.2) l2 e2) := ⟨K.kr k1, ⟨rfl, C.2.2.1, C.2.2.2⟩, C.2.1, g2⟩
  refine ⟨rmw (uF t.1 10 (nI A), t.2.1, t.2.2) l2 e2, ?_, ⟨C2.1, C.2.1, C.2.2.1, C.2.2.2⟩, rfl⟩
  unfold f_X3_bears b_X3_bears_21
  rw [g1, bd_some, s_out H hc C2 hA hF, bd_some]
  by_cases z : flS h cn A = 0
  · rw [if_pos (show nI (flS h cn A) = 0 by rw [z]; rfl), if_pos (Or.inr rfl), if_pos z]
  · rw [if_neg (nI_ne0 (Nat.pos_of_ne_zero z) (show mk_ (flc h cn A) (h.1 3) < 2 ^ 31 by omega)), if_pos (Or.inl rfl), if_neg z]
noncomputable def hvP (h : HLd) (cn : Nat → Nat) (A k v : Nat) : Bool := decide (flS (hwS h k v) cn A = 0)
theorem hv_c {k : Nat} {what : Int32} (H : HOK h) (hc : ∀ k, k < h.1 1 → cn k ≤ 99) (C : CDd h cn S D mi rm) (B : BDd (h.1 3) S D) (hk : k < h.1 3) (hF : 600 ≤ F) : ∀ (n g v2 : Nat) (t : OB), n ≤ 20 → n < g → CKd (hwS h k v2) cn D mi t → ∃ t2, lp (b_X8_heavy_46 F xi si rm) g (nI k, what, nI (sumB 20 (pvS (hvP h cn (S ||| 2 ^ k) k)) - sumB n (pvS (hvP h cn (S ||| 2 ^ k) k))), lvS (hvP h cn (S ||| 2 ^ k) k) (20 - n), nI n, t) = some (if what = 0 then nI (sumB 20 (pvS (hvP h cn (S ||| 2 ^ k) k))) else lvS (hvP h cn (S ||| 2 ^ k) k) 20, t2) ∧ t2.2.1 4 = t.2.1 4
  | 0, g, v2, t, hn, h2, CT => by
    obtain ⟨g, rfl⟩ : ∃ g', g = g' + 1 := ⟨g - 1, by omega⟩
    refine ⟨t, ?_, rfl⟩
    rw [lp_S, b_X8_heavy_46]
    unfold b_X8_heavy_105
    dsimp only
    rw [if_pos (show nI 0 < 1 by decide), show sumB 0 (pvS (hvP h cn (S ||| 2 ^ k) k)) = 0 from rfl, Nat.sub_zero, Nat.sub_zero]
    split <;> rfl
  | n + 1, g, v2, t, hn, h2, CT => by
    obtain ⟨g, rfl⟩ : ∃ g', g = g' + 1 := ⟨g - 1, by omega⟩
    have hq := H.q8
    have hor := l28 (or_lt B.1 (Nat.pow_lt_pow_right (by decide) hk)) hq
    have CT2 := CT.w (v := n + 1)
    obtain ⟨t2, d1, d2, d3⟩ := s_bearsK (F := F) (A := S ||| 2 ^ k) (hw_ok (k := k) (v := n + 1) H (by omega) (by omega)) hc CT2 (by omega) hF
    have mono : sumB (n + 1) (pvS (hvP h cn (S ||| 2 ^ k) k)) ≤ sumB 20 (pvS (hvP h cn (S ||| 2 ^ k) k)) := by
      have aux : ∀ m, n + 1 ≤ m → sumB (n + 1) (pvS (hvP h cn (S ||| 2 ^ k) k)) ≤ sumB m (pvS (hvP h cn (S ||| 2 ^ k) k)) := fun m hm => by
        induction m with
        | zero => omega
        | succ m ih =>
          by_cases e : n + 1 = m + 1
          · rw [e]
            exact Nat.le_refl _
          · have := ih (by omega)
            rw [sumB_S m]
            omega
      exact aux 20 hn
    have hT := sumB_le (f := pvS (hvP h cn (S ||| 2 ^ k) k)) (M := 1) 20 (fun i _ => by
      unfold pvS
      split <;> omega)
    have eL : lvS (hvP h cn (S ||| 2 ^ k) k) (20 - n) = if hvP h cn (S ||| 2 ^ k) k (n + 1) = true then nI (n + 1) else lvS (hvP h cn (S ||| 2 ^ k) k) (20 - (n + 1)) := by
      rw [show 20 - n = (20 - (n + 1)) + 1 by omega]
      show (if hvP h cn (S ||| 2 ^ k) k (20 - (20 - (n + 1))) = true then nI (20 - (20 - (n + 1))) else _) = _
      rw [show 20 - (20 - (n + 1)) = n + 1 by omega]
    have eM : sumB 20 (pvS (hvP h cn (S ||| 2 ^ k) k)) - sumB n (pvS (hvP h cn (S ||| 2 ^ k) k)) = sumB 20 (pvS (hvP h cn (S ||| 2 ^ k) k)) - sumB (n + 1) (pvS (hvP h cn (S ||| 2 ^ k) k)) + pvS (hvP h cn (S ||| 2 ^ k) k) n := by
      rw [sumB_S n] at mono ⊢
      omega
    obtain ⟨t5, i1, i2⟩ := hv_c (what := what) H hc C B hk hF n g (n + 1) t2 (by omega) (by omega) d2
    rw [eM, eL] at i1
    refine ⟨t5, ?_, i2.trans d3⟩
    rw [← i1, lp_S, b_X8_heavy_46]
    unfold b_X8_heavy_88
    dsimp only
    rw [if_neg (show ¬ nI (n + 1) < 1 from nI_nlt (a := n + 1) (b := 1) (by omega) (by omega)), if_pos (ib_n (show k < 8 by omega) (by decide)), nI_clamp (show k < 2 ^ 31 by omega), C.2.1.1, n_shl (by omega), n_or, d1, bd_some, pk_m1]
    dsimp only
    unfold pvS hvP
    by_cases z : flS (hwS h k (n + 1)) cn (S ||| 2 ^ k) = 0
    · rw [if_pos z, if_neg (show ¬ (1 : Int32) = 0 by decide), if_pos (decide_eq_true z), if_pos (decide_eq_true z), nI_1]
    · rw [if_neg z, if_pos rfl, if_neg (show ¬ decide (flS (hwS h k (n + 1)) cn (S ||| 2 ^ k) = 0) = true by rw [decide_eq_true_eq]; exact z), if_neg (show ¬ decide (flS (hwS h k (n + 1)) cn (S ||| 2 ^ k) = 0) = true by rw [decide_eq_true_eq]; exact z)] <;> rfl
theorem MCd.w {k v v2 : Nat} {w : OB} (M : MCd (hwS h k v2) cn w) : MCd (hwS h k v) cn (w.1, uF w.2.1 5 (upd (w.2.1 5) k (nI v)), w.2.2) := by
  obtain ⟨⟨⟨a0, a1, a2, a3⟩, a4, a5, a6⟩, b1⟩ := M
  refine ⟨⟨⟨a0, a1, a2, a3⟩, a4, a5, fun j hj => ⟨(a6 j hj).1, ?_⟩⟩, b1⟩
  show upd (w.2.1 5) k (nI v) j = nI (if 8 = 8 ∧ j = k then v else h.2 8 j)
  by_cases e : j = k
  · rw [e, pk_us, if_pos ⟨rfl, rfl⟩]
  · rw [pk_un e, if_neg (fun z => e z.2)]
    have := (a6 j hj).2
    have : w.2.1 5 j = nI (if 8 = 8 ∧ j = k then v2 else h.2 8 j) := this
    rw [if_neg (fun z => e z.2)] at this
    exact this
theorem hv_r {k A : Nat} {what was : Int32} (H : HOK h) (hc : ∀ k, k < h.1 1 → cn k ≤ 99) (hA : A < 256) (hk : k < h.1 3) (hF : 600 ≤ F) : ∀ (r n g v2 : Nat) (w : OB), n + r = 20 → r < g → MCd (hwS h k v2) cn w → ∃ row, lp (b_X9_heavy_58 F) g (nI k, what, was, nI A, nI (sumB n (pvS (hvP h cn A k))), fsS (hvP h cn A k) n, nI (n + 1), w) = some (if what = 0 then nI (sumB 20 (pvS (hvP h cn A k))) else fsS (hvP h cn A k) 20, (w.1, uF w.2.1 5 row, w.2.2)) ∧ row k = was ∧ ∀ j, j ≠ k → row j = w.2.1 5 j
  | 0, n, g, v2, w, h1, h2, M => by
    obtain ⟨g, rfl⟩ : ∃ g', g = g' + 1 := ⟨g - 1, by omega⟩
    have hq := H.q8
    have en : n = 20 := by omega
    subst en
    refine ⟨upd (w.2.1 5) k was, ?_, pk_us, fun j hj => pk_un hj⟩
    rw [lp_S, b_X9_heavy_58]
    unfold b_X9_heavy_123
    dsimp only
    rw [if_pos (show (20 : Int32) < nI (20 + 1) by decide), if_pos (ib_n (show k < 8 by omega) (by decide)), nI_clamp (show k < 2 ^ 31 by omega)]
    split <;> rfl
  | r + 1, n, g, v2, w, h1, h2, M => by
    obtain ⟨g, rfl⟩ : ∃ g', g = g' + 1 := ⟨g - 1, by omega⟩
    have hq := H.q8
    have M2 := M.w (v := n + 1)
    have hfl := l28 (mk_lt (c := flc (hwS h k (n + 1)) cn A) (h.1 3)) hq
    have hsn := sumB_le (f := pvS (hvP h cn A k)) (M := 1) n (fun i _ => by
      unfold pvS
      split <;> omega)
    have e : lp (b_X9_heavy_58 F) (g + 1) (nI k, what, was, nI A, nI (sumB n (pvS (hvP h cn A k))), fsS (hvP h cn A k) n, nI (n + 1), w) = lp (b_X9_heavy_58 F) g (nI k, what, was, nI A, nI (sumB (n + 1) (pvS (hvP h cn A k))), fsS (hvP h cn A k) (n + 1), nI (n + 1 + 1), (w.1, uF w.2.1 5 (upd (w.2.1 5) k (nI (n + 1))), w.2.2)) := by
      rw [lp_S, b_X9_heavy_58]
      unfold b_X9_heavy_94 b_X9_heavy_99
      dsimp only
      rw [if_neg (show ¬ (20 : Int32) < nI (n + 1) from nI_nlt (a := 20) (b := n + 1) (by omega) (by omega)), if_pos (ib_n (show k < 8 by omega) (by decide)), nI_clamp (show k < 2 ^ 31 by omega), s_drops (hw_ok (k := k) (v := n + 1) H (by omega) (by omega)) hc M2 (by omega) hF, bd_some, nI_1, nI_1, sumB_S]
      have f : fsS (hvP h cn A k) (n + 1) = if hvP h cn A k (n + 1) = true then (if sumB n (pvS (hvP h cn A k)) = 0 then nI (n + 1) else fsS (hvP h cn A k) n) else fsS (hvP h cn A k) n := rfl
      rw [f]
      by_cases z : flS (hwS h k (n + 1)) cn A = 0
      · have p : hvP h cn A k (n + 1) = true := decide_eq_true z
        have pp : pvS (hvP h cn A k) n = 1 := if_pos p
        rw [if_pos (show nI (flS (hwS h k (n + 1)) cn A) = 0 by rw [z]; rfl), if_pos p, pp]
        by_cases y : sumB n (pvS (hvP h cn A k)) = 0
        · rw [if_pos (show nI (sumB n (pvS (hvP h cn A k))) = 0 by rw [y]; rfl), if_pos y]
        · rw [if_neg (nI_ne0 (Nat.pos_of_ne_zero y) (by omega)), if_neg y]
      · have p : ¬ hvP h cn A k (n + 1) = true := by
          unfold hvP
          rw [decide_eq_true_eq]
          exact z
        have pp : pvS (hvP h cn A k) n = 0 := if_neg p
        rw [if_neg (nI_ne0 (Nat.pos_of_ne_zero z) (show mk_ (flc (hwS h k (n + 1)) cn A) (h.1 3) < 2 ^ 31 by omega)), if_neg p, pp] <;> rfl
    obtain ⟨row, i1, i2, i3⟩ := hv_r (what := what) (was := was) H hc hA hk hF r (n + 1) g (n + 1) _ (by omega) (by omega) M2
    refine ⟨row, ?_, i2, fun j hj => ?_⟩
    · rw [e, i1]
      refine congrArg some (Prod.ext rfl (Prod.ext rfl (Prod.ext ?_ rfl)))
      exact uF_uF
    · rw [i3 j hj]
      show upd (w.2.1 5) k (nI (n + 1)) j = _
      exact pk_un hj
theorem hw_id {k : Nat} : hwS h k (h.2 8 k) = h := by
  refine Prod.ext rfl (funext (fun j => funext (fun i => ?_)))
  show (if j = 8 ∧ i = k then h.2 8 k else h.2 j i) = h.2 j i
  by_cases e : j = 8 ∧ i = k
  · rw [if_pos e, e.1, e.2]
  · rw [if_neg e]
theorem q_heavy {y : Int32} (H : HOK h) (hc : ∀ k, k < 4 → cn k ≤ 99) (C : CDd h cn S D mi rm) (M : MDd h cn S D mi mo) (B : BDd (h.1 3) S D) (hF : 600 ≤ F) (hw : Rw (rm.2.1 4) 4 99) : AskT mo (f_X8_heavy F x y xi si rm tm) (f_X9_heavy F x y mo) tm := by
  have hq := H.q8
  have hcs : ∀ k, k < h.1 1 → cn k ≤ 99 := fun k hk => hc k (by have := H.2.1; omega)
  have e1 := c_isUp (F := F) (x := x) H C B
  have e2 := r_isSitter (F := F) (x := x) H M.1
  have e3 := in_c (F := F) (x := y) (a := 0) (b := 1) (la := 0) (lb := 1) (by decide) (by decide)
  have y1 : (1 : Int32).toInt = 1 := by decide
  by_cases c : (inR x (h.1 3) ∧ ¬ bS D (nat_ x)) ∧ 0 ≤ y.toInt ∧ y.toInt ≤ 1
  · obtain ⟨⟨c1, c2⟩, c3⟩ := c
    obtain ⟨k, hk, rfl⟩ := ix_of c1
    have ek : nat_ (nI k) = k := (nat_n rfl (show k < 2 ^ 31 by omega)).1
    have hd := c2
    rw [ek] at hd
    have hor := l28 (or_lt B.1 (Nat.pow_lt_pow_right (by decide) hk)) hq
    obtain ⟨t0, a1, a2, a3, a4, a5⟩ := s_copyFrom (F := F) (rm := tm) H C
    have C0 : CKd (hwS h k (h.2 8 k)) cn D mi t0 := by
      rw [hw_id]
      exact ⟨a2.1, a2.2.2.1, a2.2.1.2.1, a2.2.1.2.2⟩
    have M0 : MCd (hwS h k (h.2 8 k)) cn mo := by
      rw [hw_id]
      exact M.c
    obtain ⟨t2, b1, b2⟩ := hv_c (F := F) (rm := rm) (xi := xi) (si := si) (what := y) H hcs C B hk hF 20 F (h.2 8 k) t0 (by omega) (by omega) C0
    obtain ⟨row, d1, d2, d3⟩ := hv_r (F := F) (A := S ||| 2 ^ k) (what := y) (was := mo.2.1 5 k) H hcs hor hk hF 20 0 F (h.2 8 k) mo (by omega) (by omega) M0
    rw [Nat.sub_self, Nat.sub_self, lv_all] at b1
    refine ⟨if y = 0 then nI (sumB 20 (pvS (hvP h cn (S ||| 2 ^ k) k))) else fsS (hvP h cn (S ||| 2 ^ k) k) 20, t2, (mo.1, uF mo.2.1 5 row, mo.2.2), ?_, ?_, ⟨fun _ _ _ => rfl, fun j hj => uF_n (by omega), fun _ _ => rfl, fun _ _ => rfl, fun j i p q r => ?_, fun _ _ => rfl, fun _ _ => rfl⟩, fun _ j hj => ?_⟩
    rotate_left 1
    · unfold f_X9_heavy
      rw [e2, bd_some, if_pos c1, if_neg (show ¬ (1 : Int32) = 0 by decide), if_pos (ib_n (show k < 8 by omega) (by decide)), nI_clamp (show k < 2 ^ 31 by omega), M.2.2.2 k hk, if_neg (show ¬ nI (stt S D k) = 2 from fun z => hd (stt_2.mp z)), e3, bd_some, if_pos c3, if_neg (show ¬ (1 : Int32) = 0 by decide), s_sits H M B hF, bd_some, n_shl (by omega), n_or]
      exact d1
    · show uF mo.2.1 5 row j i = _
      by_cases z : j = 5
      · rw [z, uF_s]
        by_cases y : i = k
        · rw [y, d2]
        · exact d3 i y
      · rw [uF_n z]
    · rw [b2]
      exact (Rw.cp (tm := tm) hw a5) j hj
    · unfold f_X8_heavy
      rw [e1, bd_some, if_pos (show inR (nI k) (h.1 3) ∧ ¬ bS D (nat_ (nI k)) from ⟨c1, c2⟩), if_neg (show ¬ (1 : Int32) = 0 by decide), if_neg (fun z => by rw [sp_lt, sp0] at z; omega), if_pos (by rw [sp_le, y1]; omega), a1, bd_some]
      exact b1
  · refine AskT.no (r := -1) ?_ ?_
    · unfold f_X8_heavy b_X8_heavy_25
      rw [e1, bd_some]
      by_cases d1 : inR x (h.1 3) ∧ ¬ bS D (nat_ x)
      · rw [if_pos d1, if_neg (show ¬ (1 : Int32) = 0 by decide)]
        by_cases d2 : y < 0
        · rw [if_pos d2]
        · rw [if_neg d2, if_neg (fun d3 => c ⟨d1, by
            rw [sp_lt, sp0] at d2
            rw [sp_le, y1] at d3
            omega⟩)]
      · rw [if_neg d1, if_pos rfl]
    · unfold f_X9_heavy b_X9_heavy_28
      rw [e2, bd_some]
      by_cases d1 : inR x (h.1 3)
      · obtain ⟨k, hk, rfl⟩ := ix_of d1
        have ek : nat_ (nI k) = k := (nat_n rfl (show k < 2 ^ 31 by omega)).1
        rw [if_pos d1, if_neg (show ¬ (1 : Int32) = 0 by decide), if_pos (ib_n (show k < 8 by omega) (by decide)), nI_clamp (show k < 2 ^ 31 by omega), M.2.2.2 k hk]
        by_cases d2 : bS D k
        · rw [if_pos (stt_2.mpr d2)]
        · rw [if_neg (show ¬ nI (stt S D k) = 2 from fun z => d2 (stt_2.mp z)), e3, bd_some, if_neg (show ¬ (0 ≤ y.toInt ∧ y.toInt ≤ 1) from fun z => c ⟨⟨d1, by rw [ek]; exact d2⟩, z⟩), if_pos rfl]
      · rw [if_neg d1, if_pos rfl]
/-! pence -/
theorem pen_loop {much own all k0 : Nat} (H : HOK h) (hc : ∀ k, k < h.1 1 → cn k ≤ 99) (C : CDd h cn S D mi rm) (M : MDd h cn S D mi mo) (B : BDd (h.1 3) S D) (hF : 600 ≤ F) (hm : much ≤ 9999) (ho : own < 2 ^ 30) (h0 : 0 < all) (ha : all < 2 ^ 30) (hk0 : k0 < 8) : ∀ (r k gc gr : Nat) (l a : Int32), k + r = h.1 3 → r < gc → r < gr → ∃ res, lp (b_X8_pence_60 F xi si rm) gc (nI much, nI k0, nI all, nI own, l, a, nI k) = some res ∧ lp (b_X9_pence_51 F mo) gr (nI much, nI k0, nI all, l, a, nI own, nI k) = some res
  | 0, k, gc, gr, l, a, h1, h2, h3 => by
    obtain ⟨gc, rfl⟩ : ∃ g', gc = g' + 1 := ⟨gc - 1, by omega⟩
    obtain ⟨gr, rfl⟩ : ∃ g', gr = g' + 1 := ⟨gr - 1, by omega⟩
    have hq := H.q8
    rw [lp_S, b_X8_pence_60, lp_S, b_X9_pence_51]
    unfold b_X8_pence_147 b_X9_pence_140
    dsimp only
    rw [C.1.1.2.2.2, if_pos (nI_le (by omega) (by omega)), if_pos (nI_ne0 h0 (by omega)), t3, M.1.1.2.2.2, if_pos (nI_le (by omega) (by omega))]
    by_cases z : l ≤ a
    · rw [if_pos z]
      exact ⟨_, rfl, rfl⟩
    · rw [if_neg z]
      exact ⟨_, rfl, rfl⟩
  | r + 1, k, gc, gr, l, a, h1, h2, h3 => by
    obtain ⟨gc, rfl⟩ : ∃ g', gc = g' + 1 := ⟨gc - 1, by omega⟩
    obtain ⟨gr, rfl⟩ : ∃ g', gr = g' + 1 := ⟨gr - 1, by omega⟩
    have hq := H.q8
    have hk : k < h.1 3 := by omega
    have hS8 := l28 B.1 hq
    have hg := (gv_le (A := S) H hc hk).1
    have hp : much * gvS h cn S k ≤ 9999 * 1980 := Nat.mul_le_mul hm hg
    have m1 : much * gvS h cn S k % all < all := Nat.mod_lt _ h0
    have m2 : own % all < all := Nat.mod_lt _ h0
    rw [lp_S, b_X8_pence_60, lp_S, b_X9_pence_51]
    unfold b_X8_pence_121 b_X8_pence_124 b_X9_pence_110 b_X9_pence_114 b_X9_pence_115
    dsimp only
    rw [C.1.1.2.2.2, if_neg (nI_ge hk (by omega)), s_gives H hc C (by omega) hk, bd_some, if_pos (nI_ne0 h0 (by omega)), t3, M.1.1.2.2.2, if_neg (nI_ge hk (by omega)), r_givesNow H hc M B hk hF, bd_some, if_pos (nI_ne0 h0 (by omega)), pk_mul, pk_rem (show much * gvS h cn S k < 2 ^ 31 by omega) h0 (by omega), pk_rem (show own < 2 ^ 31 by omega) h0 (by omega), nI_1]
    have ts := pk_sub_toInt (a := much * gvS h cn S k % all) (b := own % all) (by omega) (by omega)
    by_cases z1 : own % all < much * gvS h cn S k % all
    · rw [if_pos (nI_lt z1 (by omega)), if_pos (show (0 : Int32) < nI (much * gvS h cn S k % all) - nI (own % all) from by rw [sp_lt, sp0, ts]; omega)]
      exact pen_loop H hc C M B hF hm ho h0 ha hk0 r (k + 1) gc gr _ _ (by omega) (by omega) (by omega)
    · rw [if_neg (nI_nlt (by omega) (by omega)), if_neg (show ¬ (0 : Int32) < nI (much * gvS h cn S k % all) - nI (own % all) from by rw [sp_lt, sp0, ts]; omega)]
      by_cases z2 : much * gvS h cn S k % all = own % all
      · rw [if_pos (show nI (much * gvS h cn S k % all) = nI (own % all) by rw [z2]), if_pos (show nI (much * gvS h cn S k % all) - nI (own % all) = 0 from by rw [sp_eq, sp0, ts]; omega)]
        by_cases z3 : k0 ≤ k
        · rw [if_pos (nI_le z3 (by omega)), if_pos (nI_le z3 (by omega)), show a + 0 = a from Int32.add_zero a]
          exact pen_loop H hc C M B hF hm ho h0 ha hk0 r (k + 1) gc gr _ _ (by omega) (by omega) (by omega)
        · rw [if_neg (nI_ge (by omega) (by omega)), if_neg (nI_ge (by omega) (by omega))]
          exact pen_loop H hc C M B hF hm ho h0 ha hk0 r (k + 1) gc gr _ _ (by omega) (by omega) (by omega)
      · rw [if_neg (show ¬ nI (much * gvS h cn S k % all) = nI (own % all) from fun w => z2 ((nI_eq (by omega) (by omega)).mp w)), if_neg (show ¬ nI (much * gvS h cn S k % all) - nI (own % all) = 0 from fun w => by rw [sp_eq, sp0, ts] at w; omega), show a + 0 = a from Int32.add_zero a]
        exact pen_loop H hc C M B hF hm ho h0 ha hk0 r (k + 1) gc gr _ _ (by omega) (by omega) (by omega)
theorem q_pence {y : Int32} (H : HOK h) (hc : ∀ k, k < 4 → cn k ≤ 99) (C : CDd h cn S D mi rm) (M : MDd h cn S D mi mo) (B : BDd (h.1 3) S D) (hF : 600 ≤ F) : ∃ r, f_X8_pence F x y xi si rm = some r ∧ f_X9_pence F x y mo = some r := by
  have hq := H.q8
  have hcs : ∀ k, k < h.1 1 → cn k ≤ 99 := fun k hk => hc k (by have := H.2.1; omega)
  have hS8 := l28 B.1 hq
  have e1 := c_hasSitter (F := F) (x := y) C.1.1.2.2.2 hq
  have e2 := r_isSitter (F := F) (x := y) H M.1
  have e3 := in_c (F := F) (x := x) (a := 0) (b := 9999) (la := 0) (lb := 9999) (by decide) (by decide)
  have y1 : (9999 : Int32).toInt = 9999 := by decide
  have hall := sumB_le (f := gvS h cn S) (M := 1980) (h.1 3) (fun k hk => (gv_le (A := S) H hcs hk).1)
  have hall2 : h.1 3 * 1980 ≤ 8 * 1980 := Nat.mul_le_mul_right _ hq
  unfold f_X8_pence f_X9_pence b_X8_pence_27 b_X9_pence_20
  rw [e1, bd_some, e2, bd_some, e3, bd_some, c_all H hcs C B hF, bd_some, r_all H hcs M B hF, bd_some]
  by_cases c : inR y (h.1 3)
  · rw [if_pos c, if_neg (show ¬ (1 : Int32) = 0 by decide), if_neg (show ¬ (1 : Int32) = 0 by decide)]
    by_cases d : 0 ≤ x.toInt ∧ x.toInt ≤ 9999
    · obtain ⟨m, hm, rfl⟩ := ix_of (n := 10000) (x := x) (by omega)
      obtain ⟨k, hk, rfl⟩ := ix_of c
      have hg := (gv_le (A := S) H hcs hk).1
      have hp : m * gvS h cn S k ≤ 9999 * 1980 := Nat.mul_le_mul (by omega) hg
      rw [if_neg (nI_pos (by omega)), if_neg (show ¬ (9999 : Int32) < nI m from nI_nlt (a := 9999) (b := m) (by omega) (by omega)), if_pos d, if_neg (show ¬ (1 : Int32) = 0 by decide)]
      by_cases z : sumB (h.1 3) (gvS h cn S) = 0
      · rw [if_neg (show ¬ (0 : Int32) < nI (sumB (h.1 3) (gvS h cn S)) by rw [z]; decide), if_pos (show nI (sumB (h.1 3) (gvS h cn S)) = 0 by rw [z]; rfl)]
        exact ⟨_, rfl, rfl⟩
      · rw [if_pos (show (0 : Int32) < nI (sumB (h.1 3) (gvS h cn S)) from nI_lt (a := 0) (Nat.pos_of_ne_zero z) (by omega)), if_neg (nI_ne0 (Nat.pos_of_ne_zero z) (by omega)), s_gives H hcs C (by omega) hk, bd_some, r_givesNow H hcs M B hk hF, bd_some, pk_mul]
        exact pen_loop (F := F) (xi := xi) (si := si) H hcs C M B hF (by omega) (by omega) (Nat.pos_of_ne_zero z) (by omega) (by omega) (h.1 3) 0 F F (nI m) 0 (by omega) (by omega) (by omega)
    · rw [if_neg d, if_pos rfl]
      by_cases z : x < 0
      · rw [if_pos z]
        exact ⟨_, rfl, rfl⟩
      · rw [if_neg z, if_pos (by
          rw [sp_lt, y1]
          rw [sp_lt, sp0] at z
          omega)]
        exact ⟨_, rfl, rfl⟩
  · rw [if_neg c, if_pos rfl, if_pos rfl]
    by_cases z : x < 0
    · rw [if_pos z]
      exact ⟨_, rfl, rfl⟩
    · rw [if_neg z]
      by_cases z2 : 9999 < x
      · rw [if_pos z2]
        exact ⟨_, rfl, rfl⟩
      · rw [if_neg z2]
        exact ⟨_, rfl, rfl⟩
end HVY
