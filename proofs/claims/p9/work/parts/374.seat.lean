/-! one sits down or rises: by the class -/
theorem sum_at {f : Nat → Nat} {k : Nat} : ∀ n, k < n → sumB n f = sumB n (fun j => if j = k then 0 else f j) + f k
  | 0, h => absurd h (Nat.not_lt_zero _)
  | n + 1, h => by
    rw [sumB_S, sumB_S]
    by_cases e : k = n
    · subst e
      rw [if_pos rfl]
      have e2 : sumB k (fun j => if j = k then 0 else f j) = sumB k f := sumB_cg k (fun j hj => if_neg (by omega))
      rw [e2]
      omega
    · have ih := sum_at (f := f) n (show k < n by omega)
      rw [if_neg (show ¬ n = k by omega)]
      omega
theorem ld_flip {h : HLd} {S k s : Nat} (hk : k < h.1 3) : ldS h (S ^^^ 2 ^ k) s + ldT h S s k = ldS h S s + ldT h (S ^^^ 2 ^ k) s k := by
  have e1 := sum_at (f := ldT h S s) (h.1 3) hk
  have e2 := sum_at (f := ldT h (S ^^^ 2 ^ k) s) (h.1 3) hk
  have e3 : sumB (h.1 3) (fun j => if j = k then 0 else ldT h (S ^^^ 2 ^ k) s j) = sumB (h.1 3) (fun j => if j = k then 0 else ldT h S s j) := sumB_cg _ (fun j _ => by
    by_cases z : j = k
    · rw [if_pos z, if_pos z]
    · rw [if_neg z, if_neg z]
      unfold ldT
      have hb : bS (S ^^^ 2 ^ k) j ↔ bS S j := by
        rw [bS_flip, if_neg z]
      by_cases w : bS S j ∧ sq_ h j = s
      · rw [if_pos w, if_pos ⟨hb.mpr w.1, w.2⟩]
      · rw [if_neg w, if_neg (fun u => w ⟨hb.mp u.1, u.2⟩)])
  unfold ldS
  omega
theorem hd_flip {h : HLd} {S k s : Nat} (hk : k < h.1 3) : hdS h (S ^^^ 2 ^ k) s + hdT h S s k = hdS h S s + hdT h (S ^^^ 2 ^ k) s k := by
  have e1 := sum_at (f := hdT h S s) (h.1 3) hk
  have e2 := sum_at (f := hdT h (S ^^^ 2 ^ k) s) (h.1 3) hk
  have e3 : sumB (h.1 3) (fun j => if j = k then 0 else hdT h (S ^^^ 2 ^ k) s j) = sumB (h.1 3) (fun j => if j = k then 0 else hdT h S s j) := sumB_cg _ (fun j _ => by
    by_cases z : j = k
    · rw [if_pos z, if_pos z]
    · rw [if_neg z, if_neg z]
      unfold hdT
      have hb : bS (S ^^^ 2 ^ k) j ↔ bS S j := by
        rw [bS_flip, if_neg z]
      by_cases w : bS S j ∧ sq_ h j = s
      · rw [if_pos w, if_pos ⟨hb.mpr w.1, w.2⟩]
      · rw [if_neg w, if_neg (fun u => w ⟨hb.mp u.1, u.2⟩)])
  unfold hdS
  omega
/-- one sits from now on, or stands: those who sit -/
noncomputable def sT1 (D k : Nat) (b : Bool) (S : Nat) : Nat := if bS D k then S else if (bS S k ↔ b = true) then S else S ^^^ 2 ^ k
theorem sT1_bit {D k j : Nat} {b : Bool} {S : Nat} : bS (sT1 D k b S) j ↔ if j = k ∧ ¬ bS D k then b = true else bS S j := by
  unfold sT1
  by_cases hd : bS D k
  · rw [if_pos hd, if_neg (show ¬ (j = k ∧ ¬ bS D k) from fun z => z.2 hd)]
  · rw [if_neg hd]
    by_cases e : j = k
    · rw [if_pos (show j = k ∧ ¬ bS D k from ⟨e, hd⟩), e]
      by_cases c : (bS S k ↔ b = true)
      · rw [if_pos c]
        exact c
      · rw [if_neg c, bS_flip, if_pos rfl]
        by_cases x : bS S k
        · have : ¬ b = true := fun y => c ⟨fun _ => y, fun _ => x⟩
          exact ⟨fun z => absurd x z, fun z => absurd z this⟩
        · have : b = true := Classical.byContradiction (fun y => c ⟨fun z => absurd z x, fun z => absurd z y⟩)
          exact ⟨fun _ => this, fun _ => x⟩
    · rw [if_neg (show ¬ (j = k ∧ ¬ bS D k) from fun z => e z.1)]
      by_cases c : (bS S k ↔ b = true)
      · rw [if_pos c]
      · rw [if_neg c, bS_flip, if_neg e]
theorem sT1_bd {q D k : Nat} {b : Bool} {S : Nat} (B : BDd q S D) (hk : k < q) : BDd q (sT1 D k b S) D := by
  refine ⟨lt_bS (fun j hj z => ?_), B.2.1, fun j z => ?_⟩
  · rw [sT1_bit, if_neg (fun w => by omega)] at z
    exact bS_lt B.1 hj z
  · have z1 := z.1
    rw [sT1_bit] at z1
    by_cases w : j = k ∧ ¬ bS D k
    · exact w.2 (w.1 ▸ z.2)
    · rw [if_neg w] at z1
      exact B.2.2 j ⟨z1, z.2⟩
section STC
variable {F : Nat} {h : HLd} {cn : Nat → Nat} {S D mi k : Nat} {rm : OB}
theorem s_isUp {q : Nat} (h3 : rm.1 3 = nI q) (hD : rm.1 11 = nI D) (h31 : D < 2 ^ 31) (hk : k < q) (hq : q ≤ 8) : f_X3_isUp F (nI k) rm = some (if bS D k then 0 else 1) := by
  unfold f_X3_isUp b_X3_isUp_27 b_X3_isUp_28
  rw [if_neg (nI_pos (by omega)), h3, if_neg (nI_ge hk (by omega)), hD]
  by_cases e : bS D k
  · rw [if_neg (fun z => (r_bit0 h31 (by omega)).mp z e), if_pos (Or.inl rfl), if_pos e]
  · rw [if_pos ((r_bit0 h31 (by omega)).mpr e), if_pos (Or.inr rfl), if_neg e]
theorem s_seat {b : Bool} {x : Int32} (H : HOK h) (C : CDd h cn S D mi rm) (B : BDd (h.1 3) S D) (hk : k < h.1 3) (hx : x = if b = true then 1 else 0) : ∃ rm2, f_X3_seat F (nI k) x rm = some rm2 ∧ CDd h cn (sT1 D k b S) D mi rm2 ∧ KRd rm rm2 := by
  have hq := H.q8
  have hS8 := l28 B.1 hq
  have hD8 := l28 B.2.1 hq
  have C0 := C
  obtain ⟨K, ⟨c1, c2, c3⟩, C4, C5⟩ := C
  unfold f_X3_seat b_X3_seat_17
  rw [s_isUp K.1.2.2.2 c2 (by omega) hk hq, bd_some]
  by_cases hd : bS D k
  · rw [if_pos hd, if_pos rfl]
    refine ⟨rm, rfl, ?_, KRd.rf⟩
    unfold sT1
    rw [if_pos hd]
    exact C0
  · rw [if_neg hd, if_neg (show ¬ (1 : Int32) = 0 by decide), s_isDown K.1.2.2.2 c1 (by omega) hk hq, bd_some]
    by_cases c : (bS S k ↔ b = true)
    · have e : (if bS S k then (1 : Int32) else 0) = x := by
        rw [hx]
        by_cases z : bS S k
        · rw [if_pos z, if_pos (c.mp z)]
        · rw [if_neg z, if_neg (fun w => z (c.mpr w))]
      rw [if_pos e]
      refine ⟨rm, rfl, ?_, KRd.rf⟩
      unfold sT1
      rw [if_neg hd, if_pos c]
      exact C0
    · have ne : ¬ (if bS S k then (1 : Int32) else 0) = x := by
        rw [hx]
        by_cases z : bS S k
        · rw [if_pos z, if_neg (fun w => c ⟨fun _ => w, fun _ => z⟩)]
          decide
        · rw [if_neg z, if_pos (Classical.byContradiction (fun y => c ⟨fun w => absurd w z, fun w => absurd w y⟩))]
          decide
      have h7 := (K.2.2.2 k hk).1
      have h8 := (K.2.2.2 k hk).2
      have hcb := (H.2.2.2.2.2.2 k hk).1
      have hw8 := (H.2.2.2.2.2.2 k hk).2
      have h6' : rm.2.1 6 (h.2 7 k) = nI (sq_ h k) := (K.2.2.1 _ hcb).2
      have hs : sq_ h k < h.1 1 := H.sq hk
      have hs4 : sq_ h k < 4 := H.sq4 hk
      have hc8 : h.2 7 k < 8 := Nat.lt_of_lt_of_le hcb H.2.2.1
      have fl1 := ld_flip (S := S) (s := sq_ h k) hk
      have fh1 := hd_flip (S := S) (s := sq_ h k) hk
      have eS : sT1 D k b S = S ^^^ 2 ^ k := by
        unfold sT1
        rw [if_neg hd, if_neg c]
      rw [eS]
      -- the rows behind it
      have fin : ∀ (l e : Nat → Int32) (I : Nat → Int32), I = uF rm.1 10 (nI (S ^^^ 2 ^ k)) → (∀ s, s < h.1 1 → l s = nI (ldS h (S ^^^ 2 ^ k) s) ∧ e s = nI (hdS h (S ^^^ 2 ^ k) s)) → CDd h cn (S ^^^ 2 ^ k) D mi (I, uF (uF rm.2.1 13 l) 14 e, rm.2.2) ∧ KRd rm (I, uF (uF rm.2.1 13 l) 14 e, rm.2.2) := fun l e I hI hl => by
        have kr : KRd rm (I, uF (uF rm.2.1 13 l) 14 e, rm.2.2) := ⟨fun j p _ _ => by
          rw [hI]
          exact uF_n p, fun j p q => by
          show uF (uF rm.2.1 13 l) 14 e j = rm.2.1 j
          rw [uF_n q, uF_n p], rfl⟩
        refine ⟨⟨K.kr kr, ⟨by rw [hI]; rfl, by rw [hI]; exact c2, by rw [hI]; exact c3⟩, C4, hl⟩, kr⟩
      have oth : ∀ s, s < h.1 1 → ¬ s = sq_ h k → ldS h (S ^^^ 2 ^ k) s = ldS h S s ∧ hdS h (S ^^^ 2 ^ k) s = hdS h S s := fun s _ hne => by
        have a1 := ld_flip (S := S) (s := s) hk
        have a2 := hd_flip (S := S) (s := s) hk
        have b1 : ∀ S', ldT h S' s k = 0 := fun S' => if_neg (fun z => hne z.2.symm)
        have b2 : ∀ S', hdT h S' s k = 0 := fun S' => if_neg (fun z => hne z.2.symm)
        rw [b1, b1] at a1
        rw [b2, b2] at a2
        exact ⟨by omega, by omega⟩
      rw [if_neg ne, if_pos (ib_n (show k < 8 by omega) (by decide)), nI_clamp (show k < 2 ^ 31 by omega), h7, if_pos (ib_n hc8 (by decide)), nI_clamp (show h.2 7 k < 2 ^ 31 by omega), h6', if_pos (ib_n hs4 (by decide)), nI_clamp (show sq_ h k < 2 ^ 31 by omega), h8, (C5 _ hs).1, c1, n_shl (by omega), n_xor]
      by_cases hb : b = true
      · -- one sits down
        have hS : ¬ bS S k := fun z => c ⟨fun _ => hb, fun _ => z⟩
        have x1 : x = 1 := by rw [hx, if_pos hb]
        have t1 : ldT h S (sq_ h k) k = 0 := if_neg (fun z => hS z.1)
        have t2 : ldT h (S ^^^ 2 ^ k) (sq_ h k) k = h.2 8 k := if_pos ⟨by rw [bS_flip, if_pos rfl]; exact hS, rfl⟩
        have t3' : hdT h S (sq_ h k) k = 0 := if_neg (fun z => hS z.1)
        have t4 : hdT h (S ^^^ 2 ^ k) (sq_ h k) k = 1 := if_pos ⟨by rw [bS_flip, if_pos rfl]; exact hS, rfl⟩
        rw [t1, t2] at fl1
        rw [t3', t4] at fh1
        rw [if_neg (show ¬ x = 0 by rw [x1]; decide)]
        unfold b_X3_seat_69 b_X3_seat_87
        rw [if_pos (ib_n hs4 (by decide)), if_pos (ib_n hs4 (by decide)), if_neg (show ¬ x = 0 by rw [x1]; decide), if_pos (ib_n hs4 (by decide)), nI_clamp (show sq_ h k < 2 ^ 31 by omega), (C5 _ hs).2, nI_add, nI_1]
        dsimp only
        obtain ⟨f1, f2⟩ := fin (upd (rm.2.1 13) (sq_ h k) (nI (ldS h S (sq_ h k) + h.2 8 k))) (upd (rm.2.1 14) (sq_ h k) (nI (hdS h S (sq_ h k) + 1))) _ rfl (fun s hs2 => by
          by_cases es : s = sq_ h k
          · rw [es, pk_us, pk_us]
            exact ⟨congrArg nI (by omega), congrArg nI (by omega)⟩
          · rw [pk_un es, pk_un es, (oth s hs2 es).1, (oth s hs2 es).2]
            exact C5 s hs2)
        exact ⟨_, rfl, f1, f2⟩
      · -- one rises
        have hS : bS S k := Classical.byContradiction (fun z => c ⟨fun w => absurd w z, fun w => absurd w hb⟩)
        have x0 : x = 0 := by rw [hx, if_neg hb]
        have t1 : ldT h S (sq_ h k) k = h.2 8 k := if_pos ⟨hS, rfl⟩
        have nf : ¬ bS (S ^^^ 2 ^ k) k := by
          rw [bS_flip, if_pos rfl]
          exact fun z => z hS
        have t2 : ldT h (S ^^^ 2 ^ k) (sq_ h k) k = 0 := if_neg (fun z => nf z.1)
        have t3' : hdT h S (sq_ h k) k = 1 := if_pos ⟨hS, rfl⟩
        have t4 : hdT h (S ^^^ 2 ^ k) (sq_ h k) k = 0 := if_neg (fun z => nf z.1)
        rw [t1, t2] at fl1
        rw [t3', t4] at fh1
        rw [if_pos x0]
        unfold b_X3_seat_69 b_X3_seat_87
        rw [if_pos (ib_n hs4 (by decide)), if_pos (ib_n hs4 (by decide)), if_pos x0, if_pos (ib_n hs4 (by decide)), nI_clamp (show sq_ h k < 2 ^ 31 by omega), (C5 _ hs).2, show hdS h S (sq_ h k) = hdS h (S ^^^ 2 ^ k) (sq_ h k) + 1 by omega, pk_m1, ← Int32.sub_eq_add_neg, pk_sub (show h.2 8 k ≤ ldS h S (sq_ h k) by omega)]
        dsimp only
        obtain ⟨f1, f2⟩ := fin (upd (rm.2.1 13) (sq_ h k) (nI (ldS h S (sq_ h k) - h.2 8 k))) (upd (rm.2.1 14) (sq_ h k) (nI (hdS h (S ^^^ 2 ^ k) (sq_ h k)))) _ rfl (fun s hs2 => by
          by_cases es : s = sq_ h k
          · rw [es, pk_us, pk_us]
            exact ⟨congrArg nI (by omega), rfl⟩
          · rw [pk_un es, pk_un es, (oth s hs2 es).1, (oth s hs2 es).2]
            exact C5 s hs2)
        exact ⟨_, rfl, f1, f2⟩
end STC
