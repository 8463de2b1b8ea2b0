/-! a minute as an act; what is read off: by both -/
noncomputable def ActM (h : HLd) (rm mo : OB) (rz : Nat → OB) (cl : Option (Int32 × OB × OB × (Nat → OB))) (rr : Option (Int32 × OB)) : Prop := ∃ (r : Int32) (cn : Nat → Nat) (S D mi : Nat) (rc : Nat → Rc) (n : Nat) (rm2 ac2 mo2 : OB) (rz2 : Nat → OB), cl = some (r, rm2, ac2, rz2) ∧ rr = some (r, mo2) ∧ OKD h cn S D mi rc n ∧ ACd h cn S D mi rc n rm2 ac2 ∧ AMd h cn S D mi rc n mo2 ∧ KXd rm rm2 ∧ KYd mo mo2 ∧ RZk rz rz2
theorem hld0 {rm : OB} (h15 : rm.1 15 = 0) : Hld 0 0 rm := ⟨h15, by decide, by decide, fun j z => absurd z (bS_0 j)⟩
section RDS
variable {F : Nat} {h : HLd} {cn : Nat → Nat} {S D mi : Nat} {rc : Nat → Rc} {n : Nat} {rm ac mo : OB} {x : Int32} {xi si : Nat → Int32} {xrr : Nat → Option Nat} {rz : Nat → OB}
theorem act_minute {rl : Option Nat} (K : OKD h cn S D mi rc n) (A : ACd h cn S D mi rc n rm ac) (M : AMd h cn S D mi rc n mo) (hF : 600 ≤ F) (hri : f_X8_ruleInForce F xi xrr si = some x) (hx : RLx rl x rz mo) (hf : FIn rl mo) (hm : Mus (h.1 3) 0 0 mo) (h15 : rm.1 15 = 0) : ActM h rm mo rz (f_X8_minute F xi xrr si rm ac rz) (f_X9_minute F mo) := by
  have t01 := K.1.1
  have e0 := r_isHall (F := F) K.1 M.1.1
  by_cases c : h.1 0 = 1 ∧ mi < 999
  · obtain ⟨ac2, mo2, a1, a2, a3, a4, a5, a6⟩ := keep_b (F := F) K A M hF
    obtain ⟨rm3, rz2, g1, g2, g3, g4⟩ := s_pass (F := F) (He := 0) (Hd := 0) K.1 K.c hF hx A.1 K.2.2.1 (hld0 h15)
    have k2 : KGd mo mo2 ∨ True := Or.inr trivial
    have f2 : FIn rl mo2 := by
      rcases hf with ⟨u1, u2⟩ | ⟨s, u1, u2, u3, ru, u4⟩
      · exact Or.inl ⟨u1, by rw [a6.2.1 1 (by decide)]; exact u2⟩
      · exact Or.inr ⟨s, u1, u2, by rw [a6.2.1 1 (by decide)]; exact u3, ru, u4.cg rfl rfl (fun j p q => a6.2.1 j (by omega))⟩
    have m2 : Mus (h.1 3) 0 0 mo2 := fun j hj => by
      rw [a6.2.1 38 (by decide)]
      exact hm j hj
    obtain ⟨mo3, e1, e2, e3⟩ := s_goes9 (F := F) (R := mo.2.1) K.1 K.c hF a5 K.2.2.1 f2 m2 (fun j p q => a6.2.1 j (by omega))
    have B3 := (mn_bd (R := mo.2.1) (rl := rl) (He := 0) (Hd := 0) (cn := cn) (mi := mi) K.1 K.2.2.1).1
    refine ⟨nI (mnS mo.2.1 rl 0 0 h cn S D mi).2.2, cn, (mnS mo.2.1 rl 0 0 h cn S D mi).1, (mnS mo.2.1 rl 0 0 h cn S D mi).2.1, mi + 1, rcK (S, D, mi, cn) rc, min (n + 1) 20, rm3, ac2, mo3, rz2, ?_, ?_, K.push K.2.1 B3 (by omega), ⟨g2, a3⟩, ⟨e2, a4.kg (congrFun e3.1 41) (e3.2.1 39 (by decide) (by decide))⟩, g3.x, a6.y.tr e3.y, g4⟩
    · unfold f_X8_minute
      rw [A.1.1.1.1, c.1, if_neg (show ¬ nI 1 = 0 by decide), A.1.2.1.2.2, if_pos (show nI mi < 999 from nI_lt (a := mi) (b := 999) c.2 (by decide)), a1, bd_some, hri, bd_some, g1, bd_some]
    · unfold f_X9_minute
      rw [e0, bd_some, if_pos c.1, if_neg (show ¬ (1 : Int32) = 0 by decide), show Int32.toNatClampNeg 4 = 4 from by decide, M.1.2.1, if_neg (show ¬ nI mi = (999 : Int32) from fun z => by
        have := (nI_eq (a := mi) (b := 999) (by omega) (by decide)).mp z
        omega), a2, bd_some, e1, bd_some]
  · refine ⟨-1, cn, S, D, mi, rc, n, rm, ac, mo, rz, ?_, ?_, K, A, M, KXd.rf, KYd.rf, RZk.rf⟩
    · unfold f_X8_minute b_X8_minute_25
      rw [A.1.1.1.1]
      by_cases d : h.1 0 = 0
      · rw [d, if_pos (show nI 0 = 0 from rfl)]
      · have d1 : h.1 0 = 1 := by omega
        have d2 : mi = 999 := by
          have := K.2.2.2.1
          have : ¬ mi < 999 := fun z => c ⟨d1, z⟩
          omega
        rw [d1, if_neg (show ¬ nI 1 = 0 by decide), A.1.2.1.2.2, d2, if_neg (show ¬ nI 999 < 999 by decide)]
    · unfold f_X9_minute b_X9_minute_19
      rw [e0, bd_some]
      by_cases d : h.1 0 = 1
      · have d2 : mi = 999 := by
          have := K.2.2.2.1
          have : ¬ mi < 999 := fun z => c ⟨d, z⟩
          omega
        rw [if_pos d, if_neg (show ¬ (1 : Int32) = 0 by decide), show Int32.toNatClampNeg 4 = 4 from by decide, M.1.2.1, d2, if_pos (show nI 999 = 999 by decide)]
      · rw [if_neg d, if_pos rfl]
/-- the first for whom something holds -/
noncomputable def fi_ (P : Nat → Bool) : Nat → Nat → Int32
  | 0, _ => -1
  | r + 1, k => if P k = true then nI k else fi_ P r (k + 1)
theorem fi_c {P : Nat → Bool} : ∀ r k, fi_ P r k = -1 ∨ ∃ j, k ≤ j ∧ j < k + r ∧ fi_ P r k = nI j
  | 0, _ => Or.inl rfl
  | r + 1, k => by
    show (if P k = true then nI k else fi_ P r (k + 1)) = -1 ∨ ∃ j, k ≤ j ∧ j < k + (r + 1) ∧ (if P k = true then nI k else fi_ P r (k + 1)) = nI j
    by_cases e : P k = true
    · rw [if_pos e]
      exact Or.inr ⟨k, by omega, by omega, rfl⟩
    · rw [if_neg e]
      rcases fi_c (P := P) r (k + 1) with z | ⟨j, z1, z2, z3⟩
      · exact Or.inl z
      · exact Or.inr ⟨j, by omega, by omega, z3⟩
theorem lp_fi {α : Type} {body : (α → Option Int32) → α → Option Int32} {st : Nat → α} {q : Nat} {P : Nat → Bool} (hs : ∀ kk k, k < q → body kk (st k) = if P k = true then some (nI k) else kk (st (k + 1))) (he : ∀ kk, body kk (st q) = some (-1)) : ∀ (r g k : Nat), k + r = q → r < g → lp body g (st k) = some (fi_ P r k)
  | 0, g, k, h1, h2 => by
    obtain ⟨g, rfl⟩ : ∃ g', g = g' + 1 := ⟨g - 1, by omega⟩
    rw [lp_S, show k = q by omega, he]
    rfl
  | r + 1, g, k, h1, h2 => by
    obtain ⟨g, rfl⟩ : ∃ g', g = g' + 1 := ⟨g - 1, by omega⟩
    rw [lp_S, hs _ k (by omega)]
    show _ = some (if P k = true then nI k else fi_ P r (k + 1))
    by_cases e : P k = true
    · rw [if_pos e, if_pos e]
    · rw [if_neg e, if_neg e]
      exact lp_fi hs he r g (k + 1) (by omega) (by omega)
theorem c_sitOn {c : Nat} (H : HOK h) (K : HKd h rm) (hc : c < 8) (hF : 600 ≤ F) : f_X3_sitterOn F (nI c) rm = some (fi_ (fun k => decide (h.2 7 k = c)) (h.1 3) 0) := by
  have hq := H.q8
  unfold f_X3_sitterOn
  refine lp_fi (st := fun k => (nI c, nI k)) (q := h.1 3) (fun kk k hk => ?_) (fun kk => ?_) (h.1 3) F 0 (by omega) (by omega)
  · have hcb := (H.2.2.2.2.2.2 k hk).1
    have h8 := H.2.2.1
    unfold b_X3_sitterOn_2
    dsimp only
    rw [K.1.2.2.2, if_neg (nI_ge hk (by omega)), if_pos (ib_n (show k < 8 by omega) (by decide)), nI_clamp (by omega), (K.2.2.2 k hk).1, nI_1]
    by_cases e : h.2 7 k = c
    · rw [if_pos (by rw [e]), if_pos (decide_eq_true e)]
    · rw [if_neg (fun z => e ((nI_eq (by omega) (by omega)).mp z)), if_neg (by rw [decide_eq_true_eq]; exact e)]
  · unfold b_X3_sitterOn_2
    dsimp only
    rw [K.1.2.2.2, if_pos (nI_le (Nat.le_refl _) (by omega))]
theorem r_sitOf {c : Nat} (H : HOK h) (M : MKd h mo) (hc : c < 8) (hF : 600 ≤ F) : f_X9_sitterOf F (nI c) mo = some (fi_ (fun k => decide (h.2 7 k = c)) (h.1 3) 0) := by
  have hq := H.q8
  unfold f_X9_sitterOf
  refine lp_fi (st := fun k => (nI c, nI k)) (q := h.1 3) (fun kk k hk => ?_) (fun kk => ?_) (h.1 3) F 0 (by omega) (by omega)
  · have hcb := (H.2.2.2.2.2.2 k hk).1
    have h8 := H.2.2.1
    unfold b_X9_sitterOf_2
    dsimp only
    rw [t3, M.1.2.2.2, if_neg (nI_ge hk (by omega)), if_pos (ib_n (show k < 8 by omega) (by decide)), nI_clamp (by omega), (M.2.2.2 k hk).1, nI_1]
    by_cases e : h.2 7 k = c
    · rw [if_pos (by rw [e]), if_pos (decide_eq_true e)]
    · rw [if_neg (fun z => e ((nI_eq (by omega) (by omega)).mp z)), if_neg (by rw [decide_eq_true_eq]; exact e)]
  · unfold b_X9_sitterOf_2
    dsimp only
    rw [t3, M.1.2.2.2, if_pos (nI_le (Nat.le_refl _) (by omega))]
theorem r_givesNow {k : Nat} (H : HOK h) (hc : ∀ k, k < h.1 1 → cn k ≤ 99) (M : MDd h cn S D mi mo) (B : BDd (h.1 3) S D) (hk : k < h.1 3) (hF : 600 ≤ F) : f_X9_givesNow F (nI k) mo = some (nI (gvS h cn S k)) := by
  have hS8 := l28 B.1 H.q8
  unfold f_X9_givesNow
  rw [s_sits H M B hF, bd_some, s_gives9 H hc M.c (by omega) hk hF, bd_some]
theorem q_strand (H : HOK h) (C : CDd h cn S D mi rm) (M : MDd h cn S D mi mo) : ∃ r, f_X8_strand F x xi si rm = some r ∧ f_X9_strand F x mo = some r := by
  have h4 := H.2.1
  unfold f_X8_strand f_X9_strand b_X8_strand_30 b_X9_strand_18
  rw [c_hasStrand C.1.1.2.1 (by omega), bd_some, r_isStrand H M.1, bd_some]
  by_cases c : inR x (h.1 1)
  · obtain ⟨k, hk, rfl⟩ := ix_of c
    rw [if_pos c, if_neg (show ¬ (1 : Int32) = 0 by decide), if_neg (show ¬ (1 : Int32) = 0 by decide), if_pos (ib_n (show k < 4 by omega) (by decide)), if_pos (ib_n (show k < 4 by omega) (by decide)), nI_clamp (show k < 2 ^ 31 by omega), C.2.2.1 k (by omega), M.2.2.1 k hk]
    exact ⟨_, rfl, rfl⟩
  · rw [if_neg c, if_pos rfl, if_pos rfl]
    exact ⟨_, rfl, rfl⟩
theorem x4 {y : Int32} (d : 0 ≤ y.toInt ∧ y.toInt ≤ 3) : y = 0 ∨ y = 1 ∨ y = 2 ∨ y = 3 := by
  obtain ⟨k, hk, rfl⟩ := ix_of (n := 4) (x := y) (by omega)
  rcases (show k = 0 ∨ k = 1 ∨ k = 2 ∨ k = 3 by omega) with e | e | e | e <;> subst e
  · exact Or.inl rfl
  · exact Or.inr (Or.inl rfl)
  · exact Or.inr (Or.inr (Or.inl rfl))
  · exact Or.inr (Or.inr (Or.inr rfl))
theorem n4 {y : Int32} {n : Nat} {c : Int32} (hc : c.toInt = n) (d : ¬ (0 ≤ y.toInt ∧ y.toInt ≤ n)) : ∀ j : Nat, j ≤ n → j < 2 ^ 31 → ¬ y = nI j := fun j hj h31 e => d (by
  rw [e, nI_toInt h31]
  omega)
theorem q_chair {y : Int32} (H : HOK h) (hc : ∀ k, k < h.1 1 → cn k ≤ 99) (C : CDd h cn S D mi rm) (M : MDd h cn S D mi mo) (B : BDd (h.1 3) S D) (hF : 600 ≤ F) : ∃ r, f_X8_chair F x y xi si rm = some r ∧ f_X9_chair F x y mo = some r := by
  have h8 := H.2.2.1
  have hq := H.q8
  have hS8 := l28 B.1 hq
  unfold f_X8_chair f_X9_chair b_X9_chair_20 b_X9_chair_86
  rw [c_hasChair C.1.1.2.2.1 (by omega), bd_some, r_isChair H M.1, bd_some]
  by_cases c : inR x (h.1 2)
  · obtain ⟨k, hk, rfl⟩ := ix_of c
    rw [if_pos c, if_neg (show ¬ (1 : Int32) = 0 by decide), if_neg (show ¬ (1 : Int32) = 0 by decide), in_c (la := 0) (lb := 3) (by decide) (by decide), bd_some]
    by_cases d : 0 ≤ y.toInt ∧ y.toInt ≤ 3
    · rw [if_pos d, if_neg (show ¬ (1 : Int32) = 0 by decide), c_sitOn H C.1 (by omega) hF, bd_some, bd_some, r_sitOf H M.1 (by omega) hF, bd_some]
      have hb := ib_n (n := 8) (show k < 8 by omega) (by decide)
      simp only [if_pos hb]
      rw [nI_clamp (show k < 2 ^ 31 by omega), (C.1.2.2.1 k hk).1, (C.1.2.2.1 k hk).2, (M.1.2.2.1 k hk).1, (M.1.2.2.1 k hk).2]
      rcases x4 d with e | e | e | e <;> subst e
      · exact ⟨_, rfl, rfl⟩
      · exact ⟨_, rfl, rfl⟩
      · exact ⟨_, rfl, rfl⟩
      · show ∃ r, Option.bind (f_X3_givesUnder F (fi_ (fun j => decide (h.2 7 j = k)) (h.1 3) 0) rm) (fun q11 => some q11) = some r ∧ (if fi_ (fun j => decide (h.2 7 j = k)) (h.1 3) 0 = -1 then some 0 else Option.bind (f_X9_givesNow F (fi_ (fun j => decide (h.2 7 j = k)) (h.1 3) 0) mo) (fun q12 => some q12)) = some r
        rcases fi_c (P := fun j => decide (h.2 7 j = k)) (h.1 3) 0 with z | ⟨j, z1, z2, z3⟩
        · rw [z, c_gives H hc C B, if_neg (show ¬ inR (-1) (h.1 3) from fun w => absurd w.1 (by decide)), if_pos rfl]
          exact ⟨_, rfl, rfl⟩
        · rw [z3, s_gives H hc C (by omega) (by omega), bd_some, if_neg (nI_nm1 (by omega)), r_givesNow H hc M B (by omega) hF, bd_some]
          exact ⟨_, rfl, rfl⟩
    · have nn := n4 (y := y) (n := 3) (c := 3) (by decide) d
      rw [if_neg d, if_pos rfl, if_neg (show ¬ y = (0 : Int32) from nn 0 (by decide) (by decide)), if_neg (show ¬ y = (1 : Int32) from nn 1 (by decide) (by decide)), if_neg (show ¬ y = (2 : Int32) from nn 2 (by decide) (by decide)), if_neg (show ¬ y = (3 : Int32) from nn 3 (by decide) (by decide))]
      exact ⟨_, rfl, rfl⟩
  · rw [if_neg c, if_pos rfl, if_pos rfl]
    exact ⟨_, rfl, rfl⟩
theorem q_sitter {y : Int32} (H : HOK h) (C : CDd h cn S D mi rm) (M : MDd h cn S D mi mo) (B : BDd (h.1 3) S D) : ∃ r, f_X8_sitter F x y xi si rm = some r ∧ f_X9_sitter F x y mo = some r := by
  have hq := H.q8
  unfold f_X8_sitter f_X9_sitter b_X9_sitter_20 b_X9_sitter_55
  rw [c_hasSitter C.1.1.2.2.2 hq, bd_some, r_isSitter H M.1, bd_some]
  by_cases c : inR x (h.1 3)
  · obtain ⟨k, hk, rfl⟩ := ix_of c
    rw [if_pos c, if_neg (show ¬ (1 : Int32) = 0 by decide), if_neg (show ¬ (1 : Int32) = 0 by decide), in_c (la := 0) (lb := 2) (by decide) (by decide), bd_some]
    by_cases d : 0 ≤ y.toInt ∧ y.toInt ≤ 2
    · rw [if_pos d, if_neg (show ¬ (1 : Int32) = 0 by decide), c_stateOf H C B, bd_some, if_pos c, (nat_n rfl (show k < 2 ^ 31 by omega)).1]
      have hb := ib_n (n := 8) (show k < 8 by omega) (by decide)
      simp only [if_pos hb]
      rw [nI_clamp (show k < 2 ^ 31 by omega), (C.1.2.2.2 k hk).1, (C.1.2.2.2 k hk).2, (M.1.2.2.2 k hk).1, (M.1.2.2.2 k hk).2, M.2.2.2 k hk]
      rcases x4 (y := y) (by omega) with e | e | e | e
      · subst e
        exact ⟨_, rfl, rfl⟩
      · subst e
        exact ⟨_, rfl, rfl⟩
      · subst e
        exact ⟨_, rfl, rfl⟩
      · rw [e] at d
        exact absurd d.2 (by decide)
    · have nn := n4 (y := y) (n := 2) (c := 2) (by decide) d
      rw [if_neg d, if_pos rfl, if_neg (show ¬ y = (0 : Int32) from nn 0 (by decide) (by decide)), if_neg (show ¬ y = (1 : Int32) from nn 1 (by decide) (by decide)), if_neg (show ¬ y = (2 : Int32) from nn 2 (by decide) (by decide))]
      exact ⟨_, rfl, rfl⟩
  · rw [if_neg c, if_pos rfl, if_pos rfl]
    exact ⟨_, rfl, rfl⟩
/-- what all chairs give -/
theorem c_all (H : HOK h) (hc : ∀ k, k < h.1 1 → cn k ≤ 99) (C : CDd h cn S D mi rm) (B : BDd (h.1 3) S D) (hF : 600 ≤ F) : f_X3_givesInAll F rm = some (nI (sumB (h.1 3) (gvS h cn S))) := by
  have hq := H.q8
  have hS8 := l28 B.1 hq
  unfold f_X3_givesInAll
  refine lp_for (st := fun k => (nI (sumB k (gvS h cn S)), nI k)) (q := h.1 3) (fun kk k hk => ?_) (fun kk => ?_) (h.1 3) F 0 (by omega) (by omega)
  · unfold b_X3_givesInAll_4
    dsimp only
    rw [C.1.1.2.2.2, if_neg (nI_ge hk (by omega)), s_gives H hc C (by omega) hk, bd_some, nI_add, nI_1]
    rfl
  · unfold b_X3_givesInAll_4
    dsimp only
    rw [C.1.1.2.2.2, if_pos (nI_le (Nat.le_refl _) (by omega))]
theorem r_all (H : HOK h) (hc : ∀ k, k < h.1 1 → cn k ≤ 99) (M : MDd h cn S D mi mo) (B : BDd (h.1 3) S D) (hF : 600 ≤ F) : f_X9_allGive F mo = some (nI (sumB (h.1 3) (gvS h cn S))) := by
  have hq := H.q8
  unfold f_X9_allGive
  refine lp_for (st := fun k => (nI (sumB k (gvS h cn S)), nI k)) (q := h.1 3) (fun kk k hk => ?_) (fun kk => ?_) (h.1 3) F 0 (by omega) (by omega)
  · unfold b_X9_allGive_4
    dsimp only
    rw [t3, M.1.1.2.2.2, if_neg (nI_ge hk (by omega)), r_givesNow H hc M B hk hF, bd_some, nI_add, nI_1]
    rfl
  · unfold b_X9_allGive_4
    dsimp only
    rw [t3, M.1.1.2.2.2, if_pos (nI_le (Nat.le_refl _) (by omega))]
end RDS
