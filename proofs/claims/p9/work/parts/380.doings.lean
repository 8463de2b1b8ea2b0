/-! acts: by both -/
noncomputable def OKD (h : HLd) (cn : Nat → Nat) (S D mi : Nat) (rc : Nat → Rc) (n : Nat) : Prop := HOK h ∧ (∀ k, k < 4 → cn k ≤ 99) ∧ BDd (h.1 3) S D ∧ mi ≤ 999 ∧ ∀ j, j < n → RcOK h (rc j)
noncomputable def ACd (h : HLd) (cn : Nat → Nat) (S D mi : Nat) (rc : Nat → Rc) (n : Nat) (rm ac : OB) : Prop := CDd h cn S D mi rm ∧ AKd rc n ac
noncomputable def AMd (h : HLd) (cn : Nat → Nat) (S D mi : Nat) (rc : Nat → Rc) (n : Nat) (mo : OB) : Prop := MDd h cn S D mi mo ∧ PKd h rc n mo
/-- what of a room, and of the reference, stays in acts -/
noncomputable def KXd (rm rm2 : OB) : Prop := (∀ j, j ≠ 10 → j ≠ 11 → j ≠ 12 → rm2.1 j = rm.1 j) ∧ ∀ j, j ≠ 9 → j ≠ 13 → j ≠ 14 → rm2.2.1 j = rm.2.1 j
noncomputable def KYd (mo mo2 : OB) : Prop := (∀ j, j ≠ 41 → j ≠ 42 → j ≠ 43 → mo2.1 j = mo.1 j) ∧ (∀ j, j ≠ 1 → j ≠ 2 → j ≠ 3 → j ≠ 39 → mo2.2.1 j = mo.2.1 j) ∧ (∀ j, j ≠ 4 → mo2.2.1 1 j = mo.2.1 1 j) ∧ ∀ j, j ≠ 36 → j ≠ 37 → mo2.2.2 j = mo.2.2 j
theorem KXd.rf {a : OB} : KXd a a := ⟨fun _ _ _ _ => rfl, fun _ _ _ _ => rfl⟩
theorem KXd.tr {a b c : OB} (h1 : KXd a b) (h2 : KXd b c) : KXd a c := ⟨fun j p q r => (h2.1 j p q r).trans (h1.1 j p q r), fun j p q r => (h2.2 j p q r).trans (h1.2 j p q r)⟩
theorem KRd.x {a b : OB} (k : KRd a b) : KXd a b := ⟨k.1, fun j _ q r => k.2.1 j q r⟩
theorem KYd.rf {a : OB} : KYd a a := ⟨fun _ _ _ _ => rfl, fun _ _ _ _ _ => rfl, fun _ _ => rfl, fun _ _ _ => rfl⟩
theorem KYd.tr {a b c : OB} (h1 : KYd a b) (h2 : KYd b c) : KYd a c := ⟨fun j p q r => (h2.1 j p q r).trans (h1.1 j p q r), fun j p q r s => (h2.2.1 j p q r s).trans (h1.2.1 j p q r s), fun j p => (h2.2.2.1 j p).trans (h1.2.2.1 j p), fun j p q => (h2.2.2.2 j p q).trans (h1.2.2.2 j p q)⟩
theorem KGd.y {a b : OB} (k : KGd a b) : KYd a b := ⟨fun j _ _ _ => congrFun k.1 j, fun j p _ q _ => k.2.1 j q p, k.2.2.1, k.2.2.2⟩
theorem KAd.y {a b : OB} (k : KAd a b) : KYd a b := ⟨k.1, fun j _ _ _ q => k.2.1 j q, fun j _ => congrFun (k.2.1 1 (by decide)) j, fun j _ _ => congrFun k.2.2 j⟩
theorem KUd.y {a b : OB} (k : KUd a b) : KYd a b := ⟨k.1, fun j p q r _ => k.2.1 j p q r, k.2.2.1, fun j _ _ => congrFun k.2.2.2 j⟩
/-- both act alike -/
noncomputable def ActB (h : HLd) (rm mo : OB) (cl : Option (Int32 × OB × OB)) (rr : Option (Int32 × OB)) : Prop := ∃ (r : Int32) (cn : Nat → Nat) (S D mi : Nat) (rc : Nat → Rc) (n : Nat) (rm2 ac2 mo2 : OB), cl = some (r, rm2, ac2) ∧ rr = some (r, mo2) ∧ OKD h cn S D mi rc n ∧ ACd h cn S D mi rc n rm2 ac2 ∧ AMd h cn S D mi rc n mo2 ∧ KXd rm rm2 ∧ KYd mo mo2
section DOI
variable {F : Nat} {h : HLd} {cn : Nat → Nat} {S D mi : Nat} {rc : Nat → Rc} {n : Nat} {rm ac mo : OB} {x : Int32} {xi si : Nat → Int32}
theorem OKD.c (K : OKD h cn S D mi rc n) : ∀ k, k < h.1 1 → cn k ≤ 99 := fun k hk => K.2.1 k (by have := K.1.2.1; omega)
theorem OKD.push (K : OKD h cn S D mi rc n) {cn2 : Nat → Nat} {S2 D2 m2 : Nat} (h1 : ∀ k, k < 4 → cn2 k ≤ 99) (h2 : BDd (h.1 3) S2 D2) (h3 : m2 ≤ 999) : OKD h cn2 S2 D2 m2 (rcK (S, D, mi, cn) rc) (min (n + 1) 20) := ⟨K.1, h1, h2, h3, fun j hj => by
  cases j with
  | zero => exact ⟨K.2.2.1, K.2.2.2.1, K.2.1⟩
  | succ j => exact K.2.2.2.2 j (by omega)⟩
/-- how it was is kept by both -/
theorem keep_b (K : OKD h cn S D mi rc n) (A : ACd h cn S D mi rc n rm ac) (M : AMd h cn S D mi rc n mo) (hF : 600 ≤ F) : ∃ ac2 mo2, f_X0_keep F ac rm = some ac2 ∧ f_X9_keepsAct F mo = some mo2 ∧ AKd (rcK (S, D, mi, cn) rc) (min (n + 1) 20) ac2 ∧ PKd h (rcK (S, D, mi, cn) rc) (min (n + 1) 20) mo2 ∧ MDd h cn S D mi mo2 ∧ KAd mo mo2 := by
  obtain ⟨ac2, a1, a2⟩ := s_keep (F := F) K.1 A.1 K.2.2.1 K.2.1 hF A.2
  obtain ⟨mo2, b1, b2, b3, b4⟩ := s_keeps9 (F := F) K.1 M.1 hF M.2
  exact ⟨ac2, mo2, a1, b1, a2, b2, b3, b4⟩
theorem ActB.no (K : OKD h cn S D mi rc n) (A : ACd h cn S D mi rc n rm ac) (M : AMd h cn S D mi rc n mo) {r : Int32} {cl : Option (Int32 × OB × OB)} {rr : Option (Int32 × OB)} (e1 : cl = some (r, rm, ac)) (e2 : rr = some (r, mo)) : ActB h rm mo cl rr := ⟨r, cn, S, D, mi, rc, n, rm, ac, mo, e1, e2, K, A, M, KXd.rf, KYd.rf⟩
theorem PKd.kg {mo2 : OB} (P : PKd h rc n mo) (h41 : mo2.1 41 = mo.1 41) (h39 : mo2.2.1 39 = mo.2.1 39) : PKd h rc n mo2 := by
  unfold PKd
  rw [h41, h39]
  exact P
theorem stt_0 {k : Nat} : stt S D k = 0 ↔ ¬ bS D k ∧ ¬ bS S k := by
  unfold stt
  by_cases a : bS D k
  · rw [if_pos a]
    exact ⟨fun z => absurd z (by decide), fun z => absurd a z.1⟩
  · rw [if_neg a]
    by_cases b : bS S k
    · rw [if_pos b]
      exact ⟨fun z => absurd z (by decide), fun z => absurd b z.2⟩
    · rw [if_neg b]
      exact ⟨fun _ => ⟨a, b⟩, fun _ => rfl⟩
theorem stt_1 {q k : Nat} (B : BDd q S D) : stt S D k = 1 ↔ bS S k := by
  unfold stt
  by_cases a : bS D k
  · rw [if_pos a]
    exact ⟨fun z => absurd z (by decide), fun z => absurd ⟨z, a⟩ (B.2.2 k)⟩
  · rw [if_neg a]
    by_cases b : bS S k
    · rw [if_pos b]
      exact ⟨fun _ => b, fun _ => rfl⟩
    · rw [if_neg b]
      exact ⟨fun z => absurd z (by decide), fun z => absurd z b⟩
theorem stt_2' {k : Nat} : stt S D k = 2 ↔ bS D k := by
  unfold stt
  by_cases a : bS D k
  · rw [if_pos a]
    exact ⟨fun _ => a, fun _ => rfl⟩
  · rw [if_neg a]
    by_cases b : bS S k
    · rw [if_pos b]
      exact ⟨fun z => absurd z (by decide), fun z => absurd z a⟩
    · rw [if_neg b]
      exact ⟨fun z => absurd z (by decide), fun z => absurd z a⟩
/-- one sits down or rises, and it settles -/
theorem move_b {k : Nat} {b : Bool} {x : Int32} {mo2 : OB} (K : OKD h cn S D mi rc n) (C : CDd h cn S D mi rm) (M : MDd h cn S D mi mo2) (hk : k < h.1 3) (hd : ¬ bS D k) (hx : x = if b = true then 1 else 0) (hF : 600 ≤ F) : ∃ (S2 D2 f : Nat) (rm2 rm3 mo3 : OB), f_X3_seat F (nI k) x rm = some rm2 ∧ f_X3_settle F rm2 = some (nI f, rm3) ∧ f_X9_settles F (mo2.1, uF mo2.2.1 3 (upd (mo2.2.1 3) k x), mo2.2.2) = some (nI f, mo3) ∧ CDd h cn S2 D2 mi rm3 ∧ MDd h cn S2 D2 mi mo3 ∧ BDd (h.1 3) S2 D2 ∧ KRd rm rm3 ∧ KGd mo2 mo3 := by
  have B := K.2.2.1
  obtain ⟨rm2, e1, e2, e3⟩ := s_seat (F := F) (k := k) (b := b) (x := x) K.1 C B hk hx
  have B2 := sT1_bd (b := b) B hk
  obtain ⟨rm3, f1, f2, f3⟩ := s_settle (F := F) K.1 K.c hF e2 B2
  have M2 := M.set (k := k) (b := b) (v := x) (mo' := mo2) rfl (by rw [if_neg hd]; exact hx)
  obtain ⟨mo3, g1, g2, g3⟩ := s_settles (F := F) K.1 K.c hF M2 B2
  have k0 : KGd mo2 (mo2.1, uF mo2.2.1 3 (upd (mo2.2.1 3) k x), mo2.2.2) := ⟨rfl, fun j p _ => uF_n p, fun _ _ => rfl, fun _ _ _ => rfl⟩
  exact ⟨_, _, _, rm2, rm3, mo3, e1, f1, g1, f2, g2, (stl_bd K.1 9 _ _ _ B2 (Nat.pow_pos (by decide))).1, e3.tr f3, k0.tr g3.g⟩
theorem act_sit (K : OKD h cn S D mi rc n) (A : ACd h cn S D mi rc n rm ac) (M : AMd h cn S D mi rc n mo) (hF : 600 ≤ F) : ActB h rm mo (f_X8_sit F x xi si rm ac) (f_X9_sit F x mo) := by
  have hq := K.1.q8
  have e1 := c_stateOf (F := F) (x := x) K.1 A.1 K.2.2.1
  have e2 := r_isSo (F := F) (x := x) (st := 0) K.1 M.1 (by decide)
  have e2 : f_X9_isSo F x 0 mo = _ := e2
  by_cases c : inR x (h.1 3) ∧ stt S D (nat_ x) = 0
  · obtain ⟨k, hk, rfl⟩ := ix_of c.1
    have ek : nat_ (nI k) = k := (nat_n rfl (show k < 2 ^ 31 by omega)).1
    have c2 := c.2
    rw [ek] at c2
    obtain ⟨hd, hs⟩ := stt_0.mp c2
    obtain ⟨ac2, mo2, a1, a2, a3, a4, a5, a6⟩ := keep_b (F := F) K A M hF
    obtain ⟨S2, D2, f, rm2, rm3, mo3, g1, g2, g3, g4, g5, g6, g7, g8⟩ := move_b (F := F) (k := k) (b := true) (x := 1) K A.1 a5 hk hd rfl hF
    refine ⟨nI f, cn, S2, D2, mi, rcK (S, D, mi, cn) rc, min (n + 1) 20, rm3, ac2, mo3, ?_, ?_, K.push K.2.1 g6 K.2.2.2.1, ⟨g4, a3⟩, ⟨g5, a4.kg (congrFun g8.1 41) (g8.2.1 39 (by decide) (by decide))⟩, g7.x, a6.y.tr g8.y⟩
    · unfold f_X8_sit
      rw [e1, bd_some, if_pos c.1, ek, c2, if_pos (show nI 0 = 0 from rfl), a1, bd_some, g1, bd_some, g2, bd_some]
    · unfold f_X9_sit
      rw [e2, bd_some, if_pos c, if_neg (show ¬ (1 : Int32) = 0 by decide), a2, bd_some, if_pos (ib_n (show k < 8 by omega) (by decide)), nI_clamp (show k < 2 ^ 31 by omega), g3, bd_some]
  · refine ActB.no K A M (r := -1) ?_ ?_
    · unfold f_X8_sit
      rw [e1, bd_some]
      by_cases d : inR x (h.1 3)
      · have hl := stt_lt S D (nat_ x)
        rw [if_pos d, if_neg (show ¬ nI (stt S D (nat_ x)) = (0 : Int32) from fun z => c ⟨d, (nI_eq (b := 0) (by omega) (by decide)).mp z⟩)]
      · rw [if_neg d, if_neg (show ¬ (-1 : Int32) = 0 by decide)]
    · unfold f_X9_sit
      rw [e2, bd_some, if_neg c, if_pos rfl]
theorem act_rise (K : OKD h cn S D mi rc n) (A : ACd h cn S D mi rc n rm ac) (M : AMd h cn S D mi rc n mo) (hF : 600 ≤ F) : ActB h rm mo (f_X8_rise F x xi si rm ac) (f_X9_rise F x mo) := by
  have hq := K.1.q8
  have B := K.2.2.1
  have e1 := c_isDown (F := F) (x := x) K.1 A.1 B
  have e2 := r_isSo (F := F) (x := x) (st := 1) K.1 M.1 (by decide)
  have e2 : f_X9_isSo F x 1 mo = _ := e2
  by_cases c : inR x (h.1 3) ∧ bS S (nat_ x)
  · have c' : inR x (h.1 3) ∧ stt S D (nat_ x) = 1 := ⟨c.1, (stt_1 B).mpr c.2⟩
    obtain ⟨k, hk, rfl⟩ := ix_of c.1
    have ek : nat_ (nI k) = k := (nat_n rfl (show k < 2 ^ 31 by omega)).1
    have hs := c.2
    rw [ek] at hs
    have hd : ¬ bS D k := fun z => B.2.2 k ⟨hs, z⟩
    obtain ⟨ac2, mo2, a1, a2, a3, a4, a5, a6⟩ := keep_b (F := F) K A M hF
    obtain ⟨S2, D2, f, rm2, rm3, mo3, g1, g2, g3, g4, g5, g6, g7, g8⟩ := move_b (F := F) (k := k) (b := false) (x := 0) K A.1 a5 hk hd rfl hF
    refine ⟨nI f, cn, S2, D2, mi, rcK (S, D, mi, cn) rc, min (n + 1) 20, rm3, ac2, mo3, ?_, ?_, K.push K.2.1 g6 K.2.2.2.1, ⟨g4, a3⟩, ⟨g5, a4.kg (congrFun g8.1 41) (g8.2.1 39 (by decide) (by decide))⟩, g7.x, a6.y.tr g8.y⟩
    · unfold f_X8_rise
      rw [e1, bd_some, if_pos c, if_neg (show ¬ (1 : Int32) = 0 by decide), a1, bd_some, g1, bd_some, g2, bd_some]
    · unfold f_X9_rise
      rw [e2, bd_some, if_pos c', if_neg (show ¬ (1 : Int32) = 0 by decide), a2, bd_some, if_pos (ib_n (show k < 8 by omega) (by decide)), nI_clamp (show k < 2 ^ 31 by omega), g3, bd_some]
  · refine ActB.no K A M (r := -1) ?_ ?_
    · unfold f_X8_rise
      rw [e1, bd_some, if_neg c, if_pos rfl]
    · unfold f_X9_rise
      rw [e2, bd_some, if_neg (show ¬ (inR x (h.1 3) ∧ stt S D (nat_ x) = 1) from fun z => c ⟨z.1, (stt_1 B).mp z.2⟩), if_pos rfl]
theorem act_help (K : OKD h cn S D mi rc n) (A : ACd h cn S D mi rc n rm ac) (M : AMd h cn S D mi rc n mo) (hF : 600 ≤ F) : ActB h rm mo (f_X8_help F x xi si rm ac) (f_X9_help F x mo) := by
  have hq := K.1.q8
  have B := K.2.2.1
  have e1 := c_stateOf (F := F) (x := x) K.1 A.1 B
  have e2 := r_isSo (F := F) (x := x) (st := 2) K.1 M.1 (by decide)
  have e2 : f_X9_isSo F x 2 mo = _ := e2
  by_cases c : inR x (h.1 3) ∧ stt S D (nat_ x) = 2
  · obtain ⟨k, hk, rfl⟩ := ix_of c.1
    have ek : nat_ (nI k) = k := (nat_n rfl (show k < 2 ^ 31 by omega)).1
    have c2 := c.2
    rw [ek] at c2
    have hd := stt_2'.mp c2
    obtain ⟨ac2, mo2, a1, a2, a3, a4, a5, a6⟩ := keep_b (F := F) K A M hF
    have B2 : BDd (h.1 3) S (difS D (2 ^ k)) := ⟨B.1, lt_bS (fun j hj z => bS_lt B.2.1 hj (bS_dif.mp z).1), fun j z => B.2.2 j ⟨z.1, (bS_dif.mp z.2).1⟩⟩
    have hD8 := l28 B2.2.1 hq
    have M3 : MDd h cn S (difS D (2 ^ k)) mi (mo2.1, uF mo2.2.1 3 (upd (mo2.2.1 3) k 0), mo2.2.2) := by
      refine ⟨a5.1.km (fun j hj => uF_n hj), a5.2.1, a5.2.2.1, fun j hj => ?_⟩
      show uF mo2.2.1 3 (upd (mo2.2.1 3) k 0) 3 j = _
      rw [uF_s]
      by_cases e : j = k
      · rw [e, pk_us, stt_0.mpr ⟨fun z => (bS_dif.mp z).2 (bS_2.mpr rfl), fun z => B.2.2 k ⟨z, hd⟩⟩]
        rfl
      · rw [pk_un e, a5.2.2.2 j hj]
        refine congrArg nI ?_
        unfold stt
        have hb : bS (difS D (2 ^ k)) j ↔ bS D j := by
          rw [bS_dif, bS_2]
          exact ⟨fun z => z.1, fun z => ⟨z, e⟩⟩
        by_cases w : bS D j
        · rw [if_pos w, if_pos (hb.mpr w)]
        · rw [if_neg w, if_neg (fun u => w (hb.mp u))]
    have kr : KRd rm (uF rm.1 11 (nI (difS D (2 ^ k))), rm.2.1, rm.2.2) := ⟨fun j _ q _ => uF_n q, fun _ _ _ => rfl, rfl⟩
    have C3 : CDd h cn S (difS D (2 ^ k)) mi (uF rm.1 11 (nI (difS D (2 ^ k))), rm.2.1, rm.2.2) := ⟨A.1.1.kr kr, ⟨A.1.2.1.1, rfl, A.1.2.1.2.2⟩, A.1.2.2.1, A.1.2.2.2⟩
    have k0 : KGd mo2 (mo2.1, uF mo2.2.1 3 (upd (mo2.2.1 3) k 0), mo2.2.2) := ⟨rfl, fun j p _ => uF_n p, fun _ _ => rfl, fun _ _ _ => rfl⟩
    refine ⟨nI (cntN (difS D (2 ^ k))), cn, S, difS D (2 ^ k), mi, rcK (S, D, mi, cn) rc, min (n + 1) 20, _, ac2, _, ?_, ?_, K.push K.2.1 B2 K.2.2.2.1, ⟨C3, a3⟩, ⟨M3, a4.kg rfl rfl⟩, kr.x, a6.y.tr k0.y⟩
    · unfold f_X8_help
      rw [e1, bd_some, if_pos c.1, ek, c2, if_pos (show nI 2 = 2 from rfl), a1, bd_some, A.1.2.1.2.1, n_shl (by omega), n_dif, s_bc hD8, bd_some]
    · unfold f_X9_help
      rw [e2, bd_some, if_pos c, if_neg (show ¬ (1 : Int32) = 0 by decide), a2, bd_some, if_pos (ib_n (show k < 8 by omega) (by decide)), nI_clamp (show k < 2 ^ 31 by omega), s_drpd K.1 M3 B2 hF, bd_some, s_bits hD8 hF, bd_some]
  · refine ActB.no K A M (r := -1) ?_ ?_
    · unfold f_X8_help
      rw [e1, bd_some]
      by_cases d : inR x (h.1 3)
      · have hl := stt_lt S D (nat_ x)
        rw [if_pos d, if_neg (show ¬ nI (stt S D (nat_ x)) = (2 : Int32) from fun z => c ⟨d, (nI_eq (b := 2) (by omega) (by decide)).mp z⟩)]
      · rw [if_neg d, if_neg (show ¬ (-1 : Int32) = 2 by decide)]
    · unfold f_X9_help
      rw [e2, bd_some, if_neg c, if_pos rfl]
theorem act_let {y : Int32} (K : OKD h cn S D mi rc n) (A : ACd h cn S D mi rc n rm ac) (M : AMd h cn S D mi rc n mo) (hF : 600 ≤ F) : ActB h rm mo (f_X8_let F x y xi si rm ac) (f_X9_let F x y mo) := by
  have h4 := K.1.2.1
  have B := K.2.2.1
  have e1 := c_hasStrand (F := F) (x := x) A.1.1.1.2.1 (by omega)
  have e2 := r_isStrand (F := F) (x := x) K.1 M.1.1
  have e3 := in_c (F := F) (x := y) (a := 0) (b := 99) (la := 0) (lb := 99) (by decide) (by decide)
  by_cases c : inR x (h.1 1)
  · obtain ⟨k, hk, rfl⟩ := ix_of c
    have k4 : k < 4 := by omega
    have hcn := K.2.1 k k4
    by_cases d : 0 ≤ y.toInt ∧ y.toInt ≤ 99
    · obtain ⟨v, hv, rfl⟩ := ix_of (n := 100) (x := y) (by omega)
      by_cases e : v = cn k
      · refine ActB.no K A M (r := -1) ?_ ?_
        · unfold f_X8_let b_X8_let_36
          rw [e1, bd_some, if_pos c, if_neg (show ¬ (1 : Int32) = 0 by decide), if_neg (nI_pos (by omega)), if_neg (show ¬ (99 : Int32) < nI v from nI_nlt (a := 99) (b := v) (by omega) (by omega)), if_pos (ib_n k4 (by decide)), nI_clamp (show k < 2 ^ 31 by omega), A.1.2.2.1 k k4, if_pos (by rw [e])]
        · unfold f_X9_let b_X9_let_30
          rw [e2, bd_some, if_pos c, if_neg (show ¬ (1 : Int32) = 0 by decide), e3, bd_some, if_pos d, if_neg (show ¬ (1 : Int32) = 0 by decide), if_pos (ib_n k4 (by decide)), nI_clamp (show k < 2 ^ 31 by omega), M.1.2.2.1 k hk, if_pos (by rw [e])]
      · obtain ⟨ac2, mo2, a1, a2, a3, a4, a5, a6⟩ := keep_b (F := F) K A M hF
        have hc2 : ∀ j, j < 4 → (fun j => if j = k then v else cn j) j ≤ 99 := fun j hj => by
          dsimp only
          by_cases z : j = k
          · rw [if_pos z]
            omega
          · rw [if_neg z]
            exact K.2.1 j hj
        have hc3 : ∀ j, j < h.1 1 → (fun j => if j = k then v else cn j) j ≤ 99 := fun j hj => hc2 j (by omega)
        have C2 : CDd h (fun j => if j = k then v else cn j) S D mi (rm.1, (uF rm.2.1 9 (upd (rm.2.1 9) k (nI v))), rm.2.2) := ⟨A.1.1, A.1.2.1, fun j hj => by
          show upd (rm.2.1 9) k (nI v) j = nI (if j = k then v else cn j)
          by_cases z : j = k
          · rw [z, pk_us, if_pos rfl]
          · rw [pk_un z, if_neg z]
            exact A.1.2.2.1 j hj, A.1.2.2.2⟩
        have M2 : MDd h (fun j => if j = k then v else cn j) S D mi (mo2.1, (uF mo2.2.1 2 (upd (mo2.2.1 2) k (nI v))), mo2.2.2) := ⟨a5.1, a5.2.1, fun j hj => by
          show upd (mo2.2.1 2) k (nI v) j = nI (if j = k then v else cn j)
          by_cases z : j = k
          · rw [z, pk_us, if_pos rfl]
          · rw [pk_un z, if_neg z]
            exact a5.2.2.1 j hj, a5.2.2.2⟩
        obtain ⟨rm3, f1, f2, f3⟩ := s_settle (F := F) K.1 hc3 hF C2 B
        obtain ⟨mo3, g1, g2, g3⟩ := s_settles (F := F) K.1 hc3 hF M2 B
        have kx : KXd rm (rm.1, (uF rm.2.1 9 (upd (rm.2.1 9) k (nI v))), rm.2.2) := ⟨fun _ _ _ _ => rfl, fun j p _ _ => uF_n p⟩
        have ky : KYd mo2 (mo2.1, (uF mo2.2.1 2 (upd (mo2.2.1 2) k (nI v))), mo2.2.2) := ⟨fun _ _ _ _ => rfl, fun j _ q _ _ => uF_n q, fun _ _ => rfl, fun _ _ _ => rfl⟩
        refine ⟨nI (stl h (fun j => if j = k then v else cn j) 9 S D 0).2.2, fun j => if j = k then v else cn j, (stl h (fun j => if j = k then v else cn j) 9 S D 0).1, (stl h (fun j => if j = k then v else cn j) 9 S D 0).2.1, mi, rcK (S, D, mi, cn) rc, min (n + 1) 20, rm3, ac2, mo3, ?_, ?_, K.push hc2 (stl_bd K.1 9 _ _ _ B (Nat.pow_pos (by decide))).1 K.2.2.2.1, ⟨f2, a3⟩, ⟨g2, (a4.kg (mo2 := (mo2.1, (uF mo2.2.1 2 (upd (mo2.2.1 2) k (nI v))), mo2.2.2)) rfl rfl).kg (congrFun g3.1 41) (g3.2.1 39 (by decide))⟩, kx.tr f3.x, (a6.y.tr ky).tr g3.g.y⟩
        · unfold f_X8_let
          rw [e1, bd_some, if_pos c, if_neg (show ¬ (1 : Int32) = 0 by decide), if_neg (nI_pos (by omega)), if_neg (show ¬ (99 : Int32) < nI v from nI_nlt (a := 99) (b := v) (by omega) (by omega)), if_pos (ib_n k4 (by decide)), nI_clamp (show k < 2 ^ 31 by omega), A.1.2.2.1 k k4, if_neg (fun z => e ((nI_eq (by omega) (by omega)).mp z)), a1, bd_some, f1, bd_some]
        · unfold f_X9_let
          rw [e2, bd_some, if_pos c, if_neg (show ¬ (1 : Int32) = 0 by decide), e3, bd_some, if_pos d, if_neg (show ¬ (1 : Int32) = 0 by decide), if_pos (ib_n k4 (by decide)), nI_clamp (show k < 2 ^ 31 by omega), M.1.2.2.1 k hk, if_neg (fun z => e ((nI_eq (by omega) (by omega)).mp z).symm), a2, bd_some, g1, bd_some]
    · refine ActB.no K A M (r := -1) ?_ ?_
      · unfold f_X8_let b_X8_let_36
        rw [e1, bd_some, if_pos c, if_neg (show ¬ (1 : Int32) = 0 by decide)]
        by_cases z : y < 0
        · rw [if_pos z]
        · rw [if_neg z, if_pos (by
            rw [sp_lt, show (99 : Int32).toInt = 99 from by decide]
            rw [sp_lt, sp0] at z
            omega)]
      · unfold f_X9_let b_X9_let_30
        rw [e2, bd_some, if_pos c, if_neg (show ¬ (1 : Int32) = 0 by decide), e3, bd_some, if_neg d, if_pos rfl]
  · refine ActB.no K A M (r := -1) ?_ ?_
    · unfold f_X8_let b_X8_let_36
      rw [e1, bd_some, if_neg c, if_pos rfl]
    · unfold f_X9_let b_X9_let_30
      rw [e2, bd_some, if_neg c, if_pos rfl]
theorem act_undo (K : OKD h cn S D mi rc n) (A : ACd h cn S D mi rc n rm ac) (M : AMd h cn S D mi rc n mo) (hF : 600 ≤ F) : ActB h rm mo (f_X8_undo F xi si rm ac) (f_X9_undo F mo) := by
  obtain ⟨nx, b1, b2, b3, b4, b5⟩ := A.2
  cases n with
  | zero =>
    refine ActB.no K A M (r := -2) ?_ ?_
    · unfold f_X8_undo
      rw [b4, if_neg (show ¬ (0 : Int32) < nI 0 by decide)]
    · unfold f_X9_undo
      rw [M.2.1, if_pos (show nI 0 = 0 from rfl)]
  | succ n =>
    have hr := K.2.2.2.2 0 (by omega)
    obtain ⟨ac2, rm2, a1, a2, a3, a4, a5⟩ := s_take0 (F := F) K.1 A.1 hF A.2 hr
    obtain ⟨mo2, c1, c2, c3, c4⟩ := s_undo9 (F := F) K.1 M.1 hF M.2
    obtain ⟨nx2, d1, d2, d3, d4, d5⟩ := a2
    refine ⟨nI n, _, _, _, _, fun j => rc (j + 1), n, rm2, ac2, mo2, ?_, c1, ⟨K.1, hr.2.2, hr.1, hr.2.1, fun j hj => K.2.2.2.2 (j + 1) (by omega)⟩, ⟨a3, ⟨nx2, d1, d2, d3, d4, d5⟩⟩, ⟨c3, c2⟩, ⟨a4, a5⟩, c4.y⟩
    unfold f_X8_undo
    rw [b4, if_pos (show (0 : Int32) < nI (n + 1) from nI_lt (a := 0) (b := n + 1) (by omega) (by omega)), a1, bd_some, d4]
end DOI
