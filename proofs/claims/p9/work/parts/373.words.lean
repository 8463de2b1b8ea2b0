/-! what a rule's words say: by both -/
noncomputable def othF (h : HLd) (S k : Nat) (f : Nat → Nat) (j : Nat) : Nat := if (bS S j ∧ sq_ h j = sq_ h k) ∧ j ≠ k then f j else 0
/-- a word's value for one -/
noncomputable def wvS (h : HLd) (cn : Nat → Nat) (S D mi k w : Nat) : Nat := if w = 0 then k else if w = 1 then h.2 7 k else if w = 2 then h.2 8 k else if w = 3 then h.2 5 (h.2 7 k) else if w = 4 then cn (sq_ h k) else if w = 5 then (if bS S k then 1 else 0) else if w = 6 then gvS h cn S k else if w = 7 then sumB (h.1 3) (othF h S k (fun _ => 1)) else if w = 8 then sumB (h.1 3) (othF h S k (h.2 8)) else if w = 9 then cntN D else mi
theorem sum_wo {P : Nat → Prop} [DecidablePred P] {f : Nat → Nat} {k : Nat} (hP : P k) : ∀ n, k < n → sumB n (fun j => if P j ∧ j ≠ k then f j else 0) + f k = sumB n (fun j => if P j then f j else 0)
  | 0, h => absurd h (Nat.not_lt_zero _)
  | n + 1, h => by
    rw [sumB_S, sumB_S]
    by_cases e : k = n
    · subst e
      rw [if_neg (fun z => z.2 rfl), if_pos hP]
      have e2 : sumB k (fun j => if P j ∧ j ≠ k then f j else 0) = sumB k (fun j => if P j then f j else 0) := sumB_cg k (fun j hj => by
        by_cases z : P j
        · rw [if_pos ⟨z, by omega⟩, if_pos z]
        · rw [if_neg (fun w => z w.1), if_neg z])
      rw [e2]
      omega
    · have ih := sum_wo (P := P) (f := f) hP n (by omega)
      have e3 : (if P n ∧ n ≠ k then f n else 0) = if P n then f n else 0 := by
        by_cases z : P n
        · rw [if_pos ⟨z, by omega⟩, if_pos z]
        · rw [if_neg (fun w => z w.1), if_neg z]
      rw [e3]
      omega
theorem sum_no {P : Nat → Prop} [DecidablePred P] {f : Nat → Nat} {k : Nat} (hP : ¬ P k) (n : Nat) : sumB n (fun j => if P j ∧ j ≠ k then f j else 0) = sumB n (fun j => if P j then f j else 0) := sumB_cg n (fun j _ => by
  by_cases z : P j
  · rw [if_pos ⟨z, fun e => hP (e ▸ z)⟩, if_pos z]
  · rw [if_neg (fun w => z w.1), if_neg z])
theorem oth_h {h : HLd} {S k : Nat} (hk : k < h.1 3) : sumB (h.1 3) (othF h S k (fun _ => 1)) + (if bS S k then 1 else 0) = hdS h S (sq_ h k) := by
  by_cases b : bS S k
  · rw [if_pos b]
    exact sum_wo (P := fun j => bS S j ∧ sq_ h j = sq_ h k) (f := fun _ => 1) ⟨b, rfl⟩ (h.1 3) hk
  · rw [if_neg b]
    exact sum_no (P := fun j => bS S j ∧ sq_ h j = sq_ h k) (f := fun _ => 1) (fun z => b z.1) (h.1 3)
theorem oth_w {h : HLd} {S k : Nat} (hk : k < h.1 3) : sumB (h.1 3) (othF h S k (h.2 8)) + (if bS S k then h.2 8 k else 0) = ldS h S (sq_ h k) := by
  by_cases b : bS S k
  · rw [if_pos b]
    exact sum_wo (P := fun j => bS S j ∧ sq_ h j = sq_ h k) (f := h.2 8) ⟨b, rfl⟩ (h.1 3) hk
  · rw [if_neg b]
    exact sum_no (P := fun j => bS S j ∧ sq_ h j = sq_ h k) (f := h.2 8) (fun z => b z.1) (h.1 3)
noncomputable def bcx (x0 : Int32) : Int32 := (f_J6_bitCount_0f7a4 0 x0).getD 0
theorem bc_all : ∀ n, n < 256 → bcx (nI n) = nI (cntN n) := by decide +kernel
theorem s_bc {F n : Nat} (hn : n < 256) : f_J6_bitCount_0f7a4 F (nI n) = some (nI (cntN n)) := by
  rw [← bc_all n hn]
  rfl
section WDS
variable {F : Nat} {rm mo : OB} {h : HLd} {cn : Nat → Nat} {S D mi k : Nat}
theorem s_hasS {q : Nat} (h3 : rm.1 3 = nI q) (hk : k < q) (hq : q ≤ 8) : f_X3_hasSitter F (nI k) rm = some 1 := by
  unfold f_X3_hasSitter b_X3_hasSitter_17
  rw [if_neg (nI_pos (by omega)), h3, if_neg (nI_ge hk (by omega)), if_pos (Or.inr rfl)]
theorem s_wordOf {w : Nat} (H : HOK h) (hc : ∀ k, k < h.1 1 → cn k ≤ 99) (C : CDd h cn S D mi rm) (h31 : S < 2 ^ 31) (hD : D < 256) (hk : k < h.1 3) (hw : w < 11) : f_X3_wordOf F (nI (260 + w)) (nI k) rm = some (nI (wvS h cn S D mi k w)) := by
  have G := s_gives (F := F) H hc C h31 hk
  obtain ⟨K, ⟨c1, c2, c3⟩, C4, C5⟩ := C
  have hq := H.q8
  have h7 := (K.2.2.2 k hk).1
  have h8 := (K.2.2.2 k hk).2
  have hcb := (H.2.2.2.2.2.2 k hk).1
  have hw8 := (H.2.2.2.2.2.2 k hk).2
  have h6' : rm.2.1 6 (h.2 7 k) = nI (sq_ h k) := (K.2.2.1 _ hcb).2
  have hs4 : sq_ h k < 4 := H.sq4 hk
  have hc8 : h.2 7 k < 8 := Nat.lt_of_lt_of_le hcb H.2.2.1
  have ol := oth_w (S := S) hk
  have oh := oth_h (S := S) hk
  have l1 := ld_31 H S (sq_ h k)
  have l2 := hd_31 H S (sq_ h k)
  have pre : f_X3_wordOf F (nI (260 + w)) (nI k) rm = (if nI (260 + w) = 260 then (some (nI k)) else if nI (260 + w) = 261 then (some (nI (h.2 7 k))) else if nI (260 + w) = 262 then (some (nI (h.2 8 k))) else if nI (260 + w) = 263 then (some (nI (h.2 5 (h.2 7 k)))) else if nI (260 + w) = 264 then (some (nI (cn (sq_ h k)))) else if nI (260 + w) = 265 then (if (if bS S k then (1 : Int32) else 0) = 0 then (some 0) else (some 1)) else if nI (260 + w) = 266 then (some (nI (gvS h cn S k))) else if nI (260 + w) = 267 then (if (if bS S k then (1 : Int32) else 0) = 0 then some (nI (hdS h S (sq_ h k))) else some (nI (hdS h S (sq_ h k)) - 1)) else if nI (260 + w) = 268 then (if (if bS S k then (1 : Int32) else 0) = 0 then some (nI (ldS h S (sq_ h k))) else some (nI (ldS h S (sq_ h k)) - nI (h.2 8 k))) else if nI (260 + w) = 269 then (some (nI (cntN D))) else if nI (260 + w) = 270 then (some (nI mi)) else (some 0)) := by
    unfold f_X3_wordOf b_X3_wordOf_133 b_X3_wordOf_162 b_X3_wordOf_190
    rw [s_hasS K.1.2.2.2 hk hq, bd_some, if_neg (show ¬ (1 : Int32) = 0 by decide), if_pos (ib_n (show k < 8 by omega) (by decide)), nI_clamp (show k < 2 ^ 31 by omega), h7, if_pos (ib_n hc8 (by decide)), nI_clamp (show h.2 7 k < 2 ^ 31 by omega), s_isDown K.1.2.2.2 c1 h31 hk hq, bd_some, h6', nI_clamp (show sq_ h k < 2 ^ 31 by omega), if_pos (ib_n hs4 (by decide)), if_pos (ib_n hs4 (by decide)), if_pos (ib_n hs4 (by decide)), G, bd_some, c2, s_bc hD, bd_some, c3, h8, (K.2.2.1 _ hcb).1, C4 _ hs4, (C5 _ (H.sq hk)).1, (C5 _ (H.sq hk)).2, if_pos (ib_n hs4 (by decide)), if_pos (ib_n hs4 (by decide))]
  rw [pre]
  have e01 : ∀ (x y : Option Int32), (if (if bS S k then (1 : Int32) else 0) = 0 then x else y) = if bS S k then y else x := fun x y => by
    by_cases b : bS S k
    · rw [if_pos b, if_neg (by decide), if_pos b]
    · rw [if_neg b, if_pos rfl, if_neg b]
  rw [e01, e01, e01]
  rcases (show w = 0 ∨ w = 1 ∨ w = 2 ∨ w = 3 ∨ w = 4 ∨ w = 5 ∨ w = 6 ∨ w = 7 ∨ w = 8 ∨ w = 9 ∨ w = 10 by omega) with e | e | e | e | e | e | e | e | e | e | e <;> subst e
  · rfl
  · rfl
  · rfl
  · rfl
  · rfl
  · show (if bS S k then some (1 : Int32) else some 0) = some (nI (if bS S k then 1 else 0))
    by_cases b : bS S k
    · rw [if_pos b, if_pos b]
      rfl
    · rw [if_neg b, if_neg b]
      rfl
  · rfl
  · show (if bS S k then some (nI (hdS h S (sq_ h k)) - 1) else some (nI (hdS h S (sq_ h k)))) = some (nI (sumB (h.1 3) (othF h S k (fun _ => 1))))
    by_cases b : bS S k
    · rw [if_pos b] at oh ⊢
      rw [← oh, nI_pred]
    · rw [if_neg b] at oh ⊢
      rw [← oh]
      rfl
  · show (if bS S k then some (nI (ldS h S (sq_ h k)) - nI (h.2 8 k)) else some (nI (ldS h S (sq_ h k)))) = some (nI (sumB (h.1 3) (othF h S k (h.2 8))))
    by_cases b : bS S k
    · rw [if_pos b] at ol ⊢
      rw [← ol, pk_sub (by omega), Nat.add_sub_cancel]
    · rw [if_neg b] at ol ⊢
      rw [← ol]
      rfl
  · rfl
  · rfl
end WDS
/-! the reference's words -/
theorem s_bits {F n : Nat} (hn : n < 256) (hF : 600 ≤ F) : f_X9_bits F (nI n) = some (nI (cntN n)) := by
  have e : sumB 16 (fun k => n / 2 ^ k % 2) = cntN n := by
    have hz : ∀ k, 8 ≤ k → n / 2 ^ k % 2 = 0 := fun k hk => by
      have := bS_lt (S := n) (n := 8) (by omega) hk
      have h2 : n / 2 ^ k % 2 < 2 := Nat.mod_lt _ (by decide)
      have h3 : ¬ n / 2 ^ k % 2 = 1 := this
      omega
    have e8 : sumB 8 (fun k => n / 2 ^ k % 2) = cntN n := sumB_cg 8 (fun k _ => by
      have h2 : n / 2 ^ k % 2 < 2 := Nat.mod_lt _ (by decide)
      by_cases b : bS n k
      · rw [if_pos b]
        exact b
      · rw [if_neg b]
        have h3 : ¬ n / 2 ^ k % 2 = 1 := b
        omega)
    show sumB 8 (fun k => n / 2 ^ k % 2) + n / 2 ^ 8 % 2 + n / 2 ^ 9 % 2 + n / 2 ^ 10 % 2 + n / 2 ^ 11 % 2 + n / 2 ^ 12 % 2 + n / 2 ^ 13 % 2 + n / 2 ^ 14 % 2 + n / 2 ^ 15 % 2 = cntN n
    rw [hz 8 (by decide), hz 9 (by decide), hz 10 (by decide), hz 11 (by decide), hz 12 (by decide), hz 13 (by decide), hz 14 (by decide), hz 15 (by decide), e8]
    rfl
  rw [← e]
  unfold f_X9_bits
  refine lp_for (st := fun k => (nI n, nI (sumB k (fun k => n / 2 ^ k % 2)), nI k)) (q := 16) (fun kk k hk => ?_) (fun kk => ?_) 16 F 0 (by omega) (by omega)
  · unfold b_X9_bits_4
    dsimp only
    rw [if_neg (show ¬ (16 : Int32) ≤ nI k from nI_ge (a := k) (b := 16) hk (by decide)), r_bit (by omega) (by omega), nI_add, nI_1]
    rfl
  · unfold b_X9_bits_4
    dsimp only
    rw [if_pos (show (16 : Int32) ≤ nI 16 by decide)]
noncomputable def mas (mo : OB) (A : Nat → Int64) : OB := (mo.1, mo.2.1, uF mo.2.2 36 A)
theorem mas_up {mo : OB} {A B : Nat → Int64} : (((mas mo A).1, (mas mo A).2.1, uF (mas mo A).2.2 36 B) : OB) = mas mo B := by
  unfold mas
  dsimp only
  rw [uF_uF]
section CHO
variable {F : Nat} {mo : OB} {h : HLd} {cn : Nat → Nat} {S D mi k : Nat}
theorem MDd.as {A : Nat → Int64} (M : MDd h cn S D mi mo) : MDd h cn S D mi (mas mo A) := M
/-- the words of one who is not dropped, as the reference lays them -/
theorem choice_w (H : HOK h) (hc : ∀ k, k < h.1 1 → cn k ≤ 99) (M : MDd h cn S D mi mo) (B : BDd (h.1 3) S D) (hk : k < h.1 3) (hd : ¬ bS D k) (hF : 600 ≤ F) (hm : mo.2.1 38 k = -1) (h7 : ¬ mo.2.1 1 7 = -1) : ∃ A : Nat → Int64, (∀ w, w < 11 → A w = (nI (wvS h cn S D mi k w)).toInt64) ∧ f_X9_choice F (nI k) mo = b_X9_choice_218 F (mas mo A) := by
  have hq := H.q8
  have hS8 := l28 B.1 hq
  have hD8 := l28 B.2.1 hq
  have m7 := (M.1.2.2.2 k hk).1
  have m5 := (M.1.2.2.2 k hk).2
  have hcb := (H.2.2.2.2.2.2 k hk).1
  have m4 : mo.2.1 4 (h.2 7 k) = nI (sq_ h k) := (M.1.2.2.1 _ hcb).2
  have m6 := (M.1.2.2.1 _ hcb).1
  have hs4 : sq_ h k < 4 := H.sq4 hk
  have hc8 : h.2 7 k < 8 := Nat.lt_of_lt_of_le hcb H.2.2.1
  have is : mo.2.1 3 k = nI (if bS S k then 1 else 0) := by
    rw [M.2.2.2 k hk]
    unfold stt
    rw [if_neg hd]
  have oth : nI (mk_ (fun j => decide (bS S j ∧ sq_ h j = sq_ h k)) (h.1 3)) &&& (((1 : Int32) <<< (nI k &&& 31)) ^^^ (-1)) = nI (mk_ (fun j => decide ((bS S j ∧ sq_ h j = sq_ h k) ∧ j ≠ k)) (h.1 3)) := by
    rw [n_shl (by omega), n_dif]
    refine congrArg nI (eq_bS (fun j => ?_))
    rw [bS_dif, bS_mk, bS_mk, bS_2, decide_eq_true_eq, decide_eq_true_eq]
    exact ⟨fun z => ⟨z.1.1, z.1.2, z.2⟩, fun z => ⟨⟨z.1, z.2.1⟩, z.2.2⟩⟩
  have ol8 := l28 (mk_lt (c := fun j => decide ((bS S j ∧ sq_ h j = sq_ h k) ∧ j ≠ k)) (h.1 3)) hq
  have ob : cntN (mk_ (fun j => decide ((bS S j ∧ sq_ h j = sq_ h k) ∧ j ≠ k)) (h.1 3)) = sumB (h.1 3) (othF h S k (fun _ => 1)) := by
    have aux : ∀ (n q : Nat) (c : Nat → Bool), q ≤ n → sumB n (fun j => if bS (mk_ c q) j then 1 else 0) = sumB q (fun j => if c j = true then 1 else 0) := fun n q c hqn => by
      induction n with
      | zero =>
        rw [show q = 0 by omega]
        rfl
      | succ n ih =>
        by_cases e : q = n + 1
        · rw [e]
          exact sumB_cg _ (fun j hj => by
            by_cases b : c j = true
            · rw [if_pos b, if_pos ((bS_mk _).mpr ⟨hj, b⟩)]
            · rw [if_neg b, if_neg (fun z => b ((bS_mk _).mp z).2)])
        · rw [sumB_S, ih (by omega), if_neg (fun z => absurd ((bS_mk q).mp z).1 (by omega))]
          rfl
    unfold cntN
    rw [aux 8 (h.1 3) _ hq]
    exact sumB_cg _ (fun j _ => by
      unfold othF
      by_cases b : (bS S j ∧ sq_ h j = sq_ h k) ∧ j ≠ k
      · rw [if_pos (decide_eq_true b), if_pos b]
      · rw [if_neg (by rw [decide_eq_true_eq]; exact b), if_neg b])
  have ow : sumB (h.1 3) (fun j => if bS (mk_ (fun j => decide ((bS S j ∧ sq_ h j = sq_ h k) ∧ j ≠ k)) (h.1 3)) j then h.2 8 j else 0) = sumB (h.1 3) (othF h S k (h.2 8)) := sumB_cg _ (fun j hj => by
    unfold othF
    by_cases b : (bS S j ∧ sq_ h j = sq_ h k) ∧ j ≠ k
    · rw [if_pos ((bS_mk _).mpr ⟨hj, decide_eq_true b⟩), if_pos b]
    · rw [if_neg (fun z => b (of_decide_eq_true ((bS_mk _).mp z).2)), if_neg b])
  have i8 : ib (nI k) 8 := ib_n (show k < 8 by omega) (by decide)
  have kc : Int32.toNatClampNeg (nI k) = k := nI_clamp (by omega)
  have start : f_X9_choice F (nI k) mo = b_X9_choice_70 F (nI k) (nI (mk_ (fun j => decide ((bS S j ∧ sq_ h j = sq_ h k) ∧ j ≠ k)) (h.1 3))) (mas mo (vp_updL (mo.2.2 36) 0 (nI k).toInt64)) := by
    unfold f_X9_choice
    rw [if_pos i8, kc, if_pos hm, show Int32.toNatClampNeg 7 = 7 from by decide, if_neg h7, s_sits H M B hF, bd_some, m7, if_pos (ib_n hc8 (by decide)), nI_clamp (show h.2 7 k < 2 ^ 31 by omega), m4, s_onStrand H M.c (by omega) hs4 hF, bd_some, oth]
    rfl
  have c70 : ∀ A v, b_X9_choice_70 F (nI k) v (mas mo A) = b_X9_choice_83 F (nI k) v (mas mo (vp_updL A 1 (nI (h.2 7 k)).toInt64)) := fun A v => by
    unfold b_X9_choice_70
    rw [if_pos i8, kc, show (mas mo A).2.1 7 k = nI (h.2 7 k) from m7, mas_up]
    rfl
  have c83 : ∀ A v, b_X9_choice_83 F (nI k) v (mas mo A) = b_X9_choice_96 F (nI k) v (mas mo (vp_updL A 2 (nI (h.2 8 k)).toInt64)) := fun A v => by
    unfold b_X9_choice_83
    rw [if_pos i8, kc, show (mas mo A).2.1 5 k = nI (h.2 8 k) from m5, mas_up]
    rfl
  have c96 : ∀ A v, b_X9_choice_96 F (nI k) v (mas mo A) = b_X9_choice_114 F (nI k) v (mas mo (vp_updL A 3 (nI (h.2 5 (h.2 7 k))).toInt64)) := fun A v => by
    unfold b_X9_choice_96
    rw [if_pos i8, kc, show (mas mo A).2.1 7 k = nI (h.2 7 k) from m7, if_pos (ib_n hc8 (by decide)), nI_clamp (show h.2 7 k < 2 ^ 31 by omega), show (mas mo A).2.1 6 (h.2 7 k) = nI (h.2 5 (h.2 7 k)) from m6, mas_up]
    rfl
  have c114 : ∀ A v, b_X9_choice_114 F (nI k) v (mas mo A) = b_X9_choice_137 F (nI k) v (mas mo (vp_updL A 4 (nI (cn (sq_ h k))).toInt64)) := fun A v => by
    unfold b_X9_choice_114
    rw [if_pos i8, kc, show (mas mo A).2.1 7 k = nI (h.2 7 k) from m7, if_pos (ib_n hc8 (by decide)), nI_clamp (show h.2 7 k < 2 ^ 31 by omega), show (mas mo A).2.1 4 (h.2 7 k) = nI (sq_ h k) from m4, if_pos (ib_n hs4 (by decide)), nI_clamp (show sq_ h k < 2 ^ 31 by omega), show (mas mo A).2.1 2 (sq_ h k) = nI (cn (sq_ h k)) from M.2.2.1 _ (H.sq hk), mas_up]
    rfl
  have c137 : ∀ A v, b_X9_choice_137 F (nI k) v (mas mo A) = b_X9_choice_150 F (nI k) v (mas mo (vp_updL A 5 (nI (if bS S k then 1 else 0)).toInt64)) := fun A v => by
    unfold b_X9_choice_137
    rw [if_pos i8, kc, show (mas mo A).2.1 3 k = nI (if bS S k then 1 else 0) from is, mas_up]
    rfl
  have c150 : ∀ A v, b_X9_choice_150 F (nI k) v (mas mo A) = b_X9_choice_163 F v (mas mo (vp_updL A 6 (nI (gvS h cn S k)).toInt64)) := fun A v => by
    unfold b_X9_choice_150 f_X9_givesNow
    rw [s_sits H (M.as (A := A)) B hF, bd_some, s_gives9 H hc (M.as (A := A)).c (by omega) hk hF, bd_some, bd_some, mas_up]
    rfl
  have c163 : ∀ A, b_X9_choice_163 F (nI (mk_ (fun j => decide ((bS S j ∧ sq_ h j = sq_ h k) ∧ j ≠ k)) (h.1 3))) (mas mo A) = b_X9_choice_175 F (nI (mk_ (fun j => decide ((bS S j ∧ sq_ h j = sq_ h k) ∧ j ≠ k)) (h.1 3))) (mas mo (vp_updL A 7 (nI (sumB (h.1 3) (othF h S k (fun _ => 1)))).toInt64)) := fun A => by
    unfold b_X9_choice_163
    rw [s_bits ol8 hF, bd_some, ob, mas_up]
    rfl
  have c175 : ∀ A, b_X9_choice_175 F (nI (mk_ (fun j => decide ((bS S j ∧ sq_ h j = sq_ h k) ∧ j ≠ k)) (h.1 3))) (mas mo A) = b_X9_choice_188 F (mas mo (vp_updL A 8 (nI (sumB (h.1 3) (othF h S k (h.2 8)))).toInt64)) := fun A => by
    unfold b_X9_choice_175
    rw [s_weightOf H (M.as (A := A)).c (by omega) hF, bd_some, ow, mas_up]
    rfl
  have c188 : ∀ A, b_X9_choice_188 F (mas mo A) = b_X9_choice_204 F (mas mo (vp_updL A 9 (nI (cntN D)).toInt64)) := fun A => by
    unfold b_X9_choice_188
    rw [s_drpd H (M.as (A := A)) B hF, bd_some, s_bits hD8 hF, bd_some, mas_up]
    rfl
  have c204 : ∀ A, b_X9_choice_204 F (mas mo A) = b_X9_choice_218 F (mas mo (vp_updL A 10 (nI mi).toInt64)) := fun A => by
    unfold b_X9_choice_204
    rw [show Int32.toNatClampNeg 4 = 4 from by decide, show (mas mo A).2.1 1 4 = nI mi from M.2.1, mas_up]
    rfl
  rw [start, c70, c83, c96, c114, c137, c150, c163, c175, c188, c204]
  refine ⟨_, fun w hw => ?_, rfl⟩
  rcases (show w = 0 ∨ w = 1 ∨ w = 2 ∨ w = 3 ∨ w = 4 ∨ w = 5 ∨ w = 6 ∨ w = 7 ∨ w = 8 ∨ w = 9 ∨ w = 10 by omega) with e | e | e | e | e | e | e | e | e | e | e <;> subst e <;> rfl
end CHO
