/-! bits and sums; a hall in numbers; the class's room: what it weighs -/
theorem rb_l : ∀ n, n < 32 → ((nI n &&& 31).toBitVec.smod 32).toNat = n := by decide +kernel
theorem r_bit {n k : Nat} (hn : n < 2 ^ 31) (hk : k < 32) : ((nI n >>> (nI k &&& 31)) &&& 1) = nI (n / 2 ^ k % 2) := by
  have h1 : n / 2 ^ k ≤ n := Nat.div_le_self _ _
  have e := pk_andN (n := n / 2 ^ k) (by omega) (m := 1) 1 (by decide)
  rw [pk_shrN hn _ k (rb_l k hk)]
  exact e
/-- one is in a set -/
abbrev bS (S k : Nat) : Prop := S / 2 ^ k % 2 = 1
theorem r_bit0 {n k : Nat} (hn : n < 2 ^ 31) (hk : k < 32) : ((nI n >>> (nI k &&& 31)) &&& 1) = 0 ↔ ¬ bS n k := by
  have h2 : n / 2 ^ k % 2 < 2 := Nat.mod_lt _ (by decide)
  rw [r_bit hn hk]
  have e : nI (n / 2 ^ k % 2) = 0 ↔ n / 2 ^ k % 2 = 0 := nI_eq (b := 0) (by omega) (by decide)
  rw [e]
  show _ ↔ ¬ (n / 2 ^ k % 2 = 1)
  omega
noncomputable def sumB : Nat → (Nat → Nat) → Nat
  | 0, _ => 0
  | n + 1, f => sumB n f + f n
theorem sumB_S (n : Nat) (f : Nat → Nat) : sumB (n + 1) f = sumB n f + f n := rfl
theorem sumB_le {f : Nat → Nat} {M : Nat} : ∀ n, (∀ k, k < n → f k ≤ M) → sumB n f ≤ n * M
  | 0, _ => Nat.zero_le _
  | n + 1, h => by
    have h1 := sumB_le n (fun k hk => h k (by omega))
    have h2 := h n (by omega)
    rw [sumB_S, Nat.succ_mul]
    omega
theorem sumB_cg {f g : Nat → Nat} : ∀ n, (∀ k, k < n → f k = g k) → sumB n f = sumB n g
  | 0, _ => rfl
  | n + 1, h => by
    rw [sumB_S, sumB_S, sumB_cg n (fun k hk => h k (by omega)), h n (by omega)]
theorem sumB_mono {f g : Nat → Nat} : ∀ n, (∀ k, k < n → f k ≤ g k) → sumB n f ≤ sumB n g
  | 0, _ => Nat.le_refl _
  | n + 1, h => by
    have h1 := sumB_mono n (fun k hk => h k (by omega))
    have h2 := h n (by omega)
    rw [sumB_S, sumB_S]
    omega
theorem sumB_one {f : Nat → Nat} {j : Nat} : ∀ n, j < n → f j ≤ sumB n f
  | 0, h => absurd h (Nat.not_lt_zero _)
  | n + 1, h => by
    rw [sumB_S]
    by_cases e : j = n
    · rw [e]
      omega
    · have := sumB_one (f := f) n (show j < n by omega)
      omega
/-- a hall: told, strands, chairs, sitters; cane told, heights, strands of chairs, chairs of sitters, weights -/
abbrev HLd : Type := (Nat → Nat) × (Nat → Nat → Nat)
noncomputable def sq_ (h : HLd) (k : Nat) : Nat := h.2 6 (h.2 7 k)
noncomputable def ldT (h : HLd) (S s k : Nat) : Nat := if bS S k ∧ sq_ h k = s then h.2 8 k else 0
noncomputable def hdT (h : HLd) (S s k : Nat) : Nat := if bS S k ∧ sq_ h k = s then 1 else 0
noncomputable def ldS (h : HLd) (S s : Nat) : Nat := sumB (h.1 3) (ldT h S s)
noncomputable def hdS (h : HLd) (S s : Nat) : Nat := sumB (h.1 3) (hdT h S s)
noncomputable def HOK (h : HLd) : Prop := h.1 0 ≤ 1 ∧ h.1 1 ≤ 4 ∧ h.1 2 ≤ 8 ∧ h.1 3 ≤ h.1 2 ∧ (∀ k, k < h.1 1 → h.2 4 k ≤ 99) ∧ (∀ k, k < h.1 2 → 1 ≤ h.2 5 k ∧ h.2 5 k ≤ 60 ∧ h.2 6 k < h.1 1) ∧ ∀ k, k < h.1 3 → h.2 7 k < h.1 2 ∧ 1 ≤ h.2 8 k ∧ h.2 8 k ≤ 20
/-- the class's room holds the hall -/
noncomputable def HKd (h : HLd) (rm : OB) : Prop := (rm.1 0 = nI (h.1 0) ∧ rm.1 1 = nI (h.1 1) ∧ rm.1 2 = nI (h.1 2) ∧ rm.1 3 = nI (h.1 3)) ∧ (∀ k, k < h.1 1 → rm.2.1 4 k = nI (h.2 4 k)) ∧ (∀ k, k < h.1 2 → rm.2.1 5 k = nI (h.2 5 k) ∧ rm.2.1 6 k = nI (h.2 6 k)) ∧ ∀ k, k < h.1 3 → rm.2.1 7 k = nI (h.2 7 k) ∧ rm.2.1 8 k = nI (h.2 8 k)
theorem HOK.q8 {h : HLd} (H : HOK h) : h.1 3 ≤ 8 := Nat.le_trans H.2.2.2.1 H.2.2.1
theorem HOK.sq {h : HLd} (H : HOK h) {k : Nat} (hk : k < h.1 3) : sq_ h k < h.1 1 := (H.2.2.2.2.2.1 _ (H.2.2.2.2.2.2 k hk).1).2.2
theorem HOK.sq4 {h : HLd} (H : HOK h) {k : Nat} (hk : k < h.1 3) : sq_ h k < 4 := Nat.lt_of_lt_of_le (H.sq hk) H.2.1
theorem ld_le {h : HLd} (H : HOK h) (S s n : Nat) (hn : n ≤ h.1 3) : sumB n (ldT h S s) ≤ n * 20 := sumB_le n (fun k hk => by
  unfold ldT
  by_cases e : bS S k ∧ sq_ h k = s
  · rw [if_pos e]
    exact (H.2.2.2.2.2.2 k (by omega)).2.2
  · rw [if_neg e]
    omega)
theorem hd_le {h : HLd} (S s n : Nat) : sumB n (hdT h S s) ≤ n * 1 := sumB_le n (fun k hk => by
  unfold hdT
  by_cases e : bS S k ∧ sq_ h k = s
  · rw [if_pos e]
    omega
  · rw [if_neg e]
    omega)
section RM1
variable {F : Nat} {rm : OB} {h : HLd} {S : Nat}
theorem s_isDown {q k : Nat} (h3 : rm.1 3 = nI q) (hS : rm.1 10 = nI S) (h31 : S < 2 ^ 31) (hk : k < q) (hq : q ≤ 8) : f_X3_isDown F (nI k) rm = some (if bS S k then 1 else 0) := by
  unfold f_X3_isDown b_X3_isDown_27 b_X3_isDown_28
  rw [if_neg (nI_pos (by omega)), h3, if_neg (nI_ge hk (by omega)), hS]
  by_cases e : bS S k
  · rw [if_neg (fun z => (r_bit0 h31 (by omega)).mp z e), if_pos (Or.inr rfl), if_pos e]
  · rw [if_pos ((r_bit0 h31 (by omega)).mpr e), if_pos (Or.inl rfl), if_neg e]
theorem s_fillL {n : Nat} {v : Int32} (hn : n ≤ 30) : ∀ (r g k : Nat) (row : Nat → Int32), k + r = n → r < g → (∀ j, j < k → row j = v) → ∃ row2, lp (b_J7_fill_53178_5 F n) g (v, nI k, Int32.ofNat n, row) = some row2 ∧ ∀ j, j < n → row2 j = v
  | 0, g, k, row, h1, h2, h3 => by
    obtain ⟨g, rfl⟩ : ∃ g', g = g' + 1 := ⟨g - 1, by omega⟩
    refine ⟨row, ?_, fun j hj => h3 j (by omega)⟩
    rw [lp_S, b_J7_fill_53178_5]
    dsimp only
    rw [if_pos (show Int32.ofNat n ≤ nI k from nI_le (a := n) (b := k) (by omega) (by omega))]
  | r + 1, g, k, row, h1, h2, h3 => by
    obtain ⟨g, rfl⟩ : ∃ g', g = g' + 1 := ⟨g - 1, by omega⟩
    rw [lp_S, b_J7_fill_53178_5]
    dsimp only
    rw [if_neg (show ¬ Int32.ofNat n ≤ nI k from nI_ge (a := k) (b := n) (by omega) (by omega)), if_pos (ib_n (by omega) (by omega)), nI_1, nI_clamp (by omega)]
    exact s_fillL hn r g (k + 1) _ (by omega) (by omega) (fun j hj => by
      by_cases e : j = k
      · rw [e, pk_us]
      · rw [pk_un e]
        exact h3 j (by omega))
theorem s_fill {n : Nat} {v : Int32} {row : Nat → Int32} (hn : n ≤ 30) (hF : 600 ≤ F) : ∃ row2, f_J7_fill_53178 F n v row = some row2 ∧ ∀ j, j < n → row2 j = v := s_fillL (F := F) hn n F 0 row (by omega) (by omega) (fun j hj => absurd hj (Nat.not_lt_zero _))
noncomputable def rmw (rm : OB) (l e : Nat → Int32) : OB := (rm.1, uF (uF rm.2.1 13 l) 14 e, rm.2.2)
theorem rmw_up {l e l2 e2 : Nat → Int32} : (((rmw rm l e).1, uF (uF (rmw rm l e).2.1 13 l2) 14 e2, (rmw rm l e).2.2) : OB) = rmw rm l2 e2 := by
  unfold rmw
  dsimp only
  rw [uF_cm (i := 14) (j := 13) (by decide), uF_uF, uF_uF]
theorem w_loop (H : HOK h) (K : HKd h rm) (hS : rm.1 10 = nI S) (h31 : S < 2 ^ 31) : ∀ (r g k : Nat) (l e : Nat → Int32), k + r = h.1 3 → r < g → (∀ s, s < h.1 1 → l s = nI (sumB k (ldT h S s)) ∧ e s = nI (sumB k (hdT h S s))) → ∃ l2 e2, lp (b_X3_weigh_18 F) g (nI k, rmw rm l e) = some (rmw rm l2 e2) ∧ ∀ s, s < h.1 1 → l2 s = nI (ldS h S s) ∧ e2 s = nI (hdS h S s)
  | 0, g, k, l, e, h1, h2, h3 => by
    obtain ⟨g, rfl⟩ : ∃ g', g = g' + 1 := ⟨g - 1, by omega⟩
    have hq := H.q8
    refine ⟨l, e, ?_, fun s hs => ?_⟩
    · rw [lp_S, b_X3_weigh_18]
      dsimp only
      rw [show (rmw rm l e).1 3 = nI (h.1 3) from K.1.2.2.2, if_pos (nI_le (by omega) (by omega))]
    · have := h3 s hs
      rw [show k = h.1 3 by omega] at this
      exact this
  | r + 1, g, k, l, e, h1, h2, h3 => by
    obtain ⟨g, rfl⟩ : ∃ g', g = g' + 1 := ⟨g - 1, by omega⟩
    have hq := H.q8
    have hkq : k < h.1 3 := by omega
    have e3 : (rmw rm l e).1 3 = nI (h.1 3) := K.1.2.2.2
    rw [lp_S, b_X3_weigh_18]
    dsimp only
    rw [e3, if_neg (nI_ge hkq (by omega)), s_isDown (rm := rmw rm l e) e3 hS h31 hkq hq, bd_some]
    have nxt : ∀ l e, b_X3_weigh_71 F (lp (b_X3_weigh_18 F) g) (nI k) (rmw rm l e) = lp (b_X3_weigh_18 F) g (nI (k + 1), rmw rm l e) := fun l e => by
      unfold b_X3_weigh_71
      rw [nI_1]
    by_cases hb : bS S k
    · have h7 := (K.2.2.2 k hkq).1
      have h8 := (K.2.2.2 k hkq).2
      have hc := (H.2.2.2.2.2.2 k hkq).1
      have h6 := (K.2.2.1 _ hc).2
      have hs : sq_ h k < h.1 1 := H.sq hkq
      have hs4 : sq_ h k < 4 := H.sq4 hkq
      have h6' : rm.2.1 6 (h.2 7 k) = nI (sq_ h k) := h6
      have hc8 : h.2 7 k < 8 := Nat.lt_of_lt_of_le hc H.2.2.1
      rw [if_pos hb, if_neg (show ¬ (1 : Int32) = 0 by decide), if_pos (ib_n (show k < 8 by omega) (by decide)), nI_clamp (show k < 2 ^ 31 by omega), show (rmw rm l e).2.1 7 = rm.2.1 7 from rfl, h7, nI_clamp (show h.2 7 k < 2 ^ 31 by omega), show (rmw rm l e).2.1 6 = rm.2.1 6 from rfl, h6', nI_clamp (show sq_ h k < 2 ^ 31 by omega), if_pos (ib_n hc8 (by decide)), if_pos (ib_n hs4 (by decide)), show (rmw rm l e).2.1 13 = l from rfl, show (rmw rm l e).2.1 14 = e from rfl, show (rmw rm l e).2.1 8 = rm.2.1 8 from rfl, h8, (h3 _ hs).1, (h3 _ hs).2, nI_add, nI_1, rmw_up, nxt]
      refine w_loop H K hS h31 r g (k + 1) _ _ (by omega) (by omega) (fun s hs2 => ?_)
      rw [sumB_S, sumB_S]
      unfold ldT hdT
      by_cases es : s = sq_ h k
      · rw [es, pk_us, pk_us, if_pos ⟨hb, rfl⟩, if_pos ⟨hb, rfl⟩]
        exact ⟨rfl, rfl⟩
      · rw [pk_un es, pk_un es, if_neg (fun z => es z.2.symm), if_neg (fun z => es z.2.symm)]
        exact h3 s hs2
    · rw [if_neg hb, if_pos rfl, nxt]
      refine w_loop H K hS h31 r g (k + 1) _ _ (by omega) (by omega) (fun s hs2 => ?_)
      rw [sumB_S, sumB_S]
      unfold ldT hdT
      rw [if_neg (fun z => hb z.1), if_neg (fun z => hb z.1)]
      exact h3 s hs2
theorem s_weigh (H : HOK h) (K : HKd h rm) (hS : rm.1 10 = nI S) (h31 : S < 2 ^ 31) (hF : 600 ≤ F) : ∃ l2 e2, f_X3_weigh F rm = some (rmw rm l2 e2) ∧ ∀ s, s < h.1 1 → l2 s = nI (ldS h S s) ∧ e2 s = nI (hdS h S s) := by
  have hq := H.q8
  have h4 := H.2.1
  obtain ⟨r1, e1, g1⟩ := s_fill (F := F) (n := 4) (v := 0) (row := rm.2.1 13) (by decide) hF
  obtain ⟨r2, e2, g2⟩ := s_fill (F := F) (n := 4) (v := 0) (row := rm.2.1 14) (by decide) hF
  unfold f_X3_weigh
  rw [e1, bd_some, e2, bd_some]
  exact w_loop H K hS h31 (h.1 3) F 0 r1 r2 (by omega) (by omega) (fun s hs => ⟨g1 s (by omega), g2 s (by omega)⟩)
end RM1
/-- the class's room holds the hall and how it is -/
noncomputable def CDd (h : HLd) (cn : Nat → Nat) (S D mi : Nat) (rm : OB) : Prop := HKd h rm ∧ (rm.1 10 = nI S ∧ rm.1 11 = nI D ∧ rm.1 12 = nI mi) ∧ (∀ k, k < 4 → rm.2.1 9 k = nI (cn k)) ∧ ∀ s, s < h.1 1 → rm.2.1 13 s = nI (ldS h S s) ∧ rm.2.1 14 s = nI (hdS h S s)
