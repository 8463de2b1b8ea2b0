/-! falls, felled, tall: by both -/
section FAL
variable {F : Nat} {h : HLd} {cn : Nat → Nat} {S D mi : Nat} {rm tm mo : OB} {rz : Nat → OB} {rl : Option Nat} {x e : Int32} {xi si : Nat → Int32} {xrr : Nat → Option Nat}
theorem fal_loop (H : HOK h) (hc : ∀ k, k < h.1 1 → cn k ≤ 99) (hF : 600 ≤ F) (hmi : mi ≤ 999) (B : BDd (h.1 3) S D) {what : Nat} (hwh : what < 2) : ∀ (r k gc gr : Nat) (tm w : OB) (rz : Nat → OB), k + r = 200 → r < gc → r + 1 < gr → RLx rl e rz mo → CDd h cn (trj mo.2.1 rl 0 0 h cn S D mi k).1 (trj mo.2.1 rl 0 0 h cn S D mi k).2 (mi + k) tm → Hld 0 0 tm → MDd h cn (trj mo.2.1 rl 0 0 h cn S D mi k).1 (trj mo.2.1 rl 0 0 h cn S D mi k).2 (mi + k) w → FIn rl w → Mus (h.1 3) 0 0 w → (∀ j, 29 ≤ j → j ≤ 34 → w.2.1 j = mo.2.1 j) → ∃ (res : Int32) (tm2 w2 : OB) (rz2 : Nat → OB), lp (b_X8_falls_45 F xi xrr si rm) gc (nI what, e, nI k, tm, rz) = some (res, tm2, rz2) ∧ lp (b_X9_falls_28 F) gr (nI what, -2, nI k, w) = b_X9_falls_81 F res w2 ∧ KRd tm tm2 ∧ RZk rz rz2 ∧ KGd w w2
  | 0, k, gc, gr, tm, w, rz, h1, h2, h3, hx, C, L, M, f, m, hR => by
    obtain ⟨gc, rfl⟩ : ∃ g', gc = g' + 1 := ⟨gc - 1, by omega⟩
    obtain ⟨gr, rfl⟩ : ∃ g', gr = g' + 1 := ⟨gr - 1, by omega⟩
    refine ⟨-2, tm, w, rz, ?_, ?_, KRd.rf, RZk.rf, KGd.rf⟩
    · rw [lp_S, b_X8_falls_45]
      dsimp only
      rw [if_pos (show (200 : Int32) ≤ nI k from nI_le (a := 200) (b := k) (by omega) (by omega))]
    · rw [lp_S, b_X9_falls_28]
      dsimp only
      rw [if_pos (show (200 : Int32) ≤ nI k from nI_le (a := 200) (b := k) (by omega) (by omega))]
  | r + 1, k, gc, gr, tm, w, rz, h1, h2, h3, hx, C, L, M, f, m, hR => by
    obtain ⟨gc, rfl⟩ : ∃ g', gc = g' + 1 := ⟨gc - 1, by omega⟩
    obtain ⟨gr, rfl⟩ : ∃ g', gr = g' + 1 + 1 := ⟨gr - 2, by omega⟩
    obtain ⟨t2, rz2, e1, e2, e3, e4⟩ := pass1 (F := F) H hc hF hx B C L
    obtain ⟨w2, g1, g2, g3⟩ := go1 (F := F) H hc hF B M f m hR
    have hlt := fln_lt (R := mo.2.1) (rl := rl) (He := 0) (Hd := 0) (cn := cn) (mi := mi) (k := k) H B
    have cl : lp (b_X8_falls_45 F xi xrr si rm) (gc + 1) (nI what, e, nI k, tm, rz) = if nI (fln mo.2.1 rl 0 0 h cn S D mi k) = 0 then lp (b_X8_falls_45 F xi xrr si rm) gc (nI what, e, nI (k + 1), t2, rz2) else if nI what = 0 then some (nI (mi + k), t2, rz2) else some (nI (fln mo.2.1 rl 0 0 h cn S D mi k), t2, rz2) := by
      rw [lp_S, b_X8_falls_45]
      unfold b_X8_falls_87
      dsimp only
      rw [if_neg (show ¬ (200 : Int32) ≤ nI k from nI_ge (a := k) (b := 200) (by omega) (by decide)), e1, bd_some, nI_1, C.2.1.2.2]
    have rl' : lp (b_X9_falls_28 F) (gr + 1 + 1) (nI what, -2, nI k, w) = if nI (fln mo.2.1 rl 0 0 h cn S D mi k) = 0 then lp (b_X9_falls_28 F) (gr + 1) (nI what, -2, nI (k + 1), w2) else if nI what = 0 then lp (b_X9_falls_28 F) (gr + 1) (nI what, nI (mi + k), nI (k + 1), w2) else lp (b_X9_falls_28 F) (gr + 1) (nI what, nI (fln mo.2.1 rl 0 0 h cn S D mi k), nI (k + 1), w2) := by
      rw [lp_S, b_X9_falls_28]
      unfold b_X9_falls_74
      dsimp only
      rw [if_neg (show ¬ (200 : Int32) ≤ nI k from nI_ge (a := k) (b := 200) (by omega) (by decide)), if_pos rfl, g1, bd_some, nI_1, show Int32.toNatClampNeg 4 = 4 from by decide, g2.2.1, show nI (mi + (k + 1)) - 1 = nI (mi + k) from nI_pred (mi + k)]
    have stop : ∀ v : Nat, v < 2 ^ 31 → lp (b_X9_falls_28 F) (gr + 1) (nI what, nI v, nI (k + 1), w2) = b_X9_falls_81 F (nI v) w2 := fun v hv => by
      rw [lp_S, b_X9_falls_28]
      dsimp only
      by_cases z : k + 1 < 200
      · rw [if_neg (show ¬ (200 : Int32) ≤ nI (k + 1) from nI_ge (a := k + 1) (b := 200) z (by decide)), if_neg (fun q => by
          have := congrArg Int32.toInt q
          rw [nI_toInt hv, show (-2 : Int32).toInt = -2 from by decide] at this
          omega)]
      · rw [if_pos (show (200 : Int32) ≤ nI (k + 1) from nI_le (a := 200) (b := k + 1) (by omega) (by omega))]
    by_cases z : fln mo.2.1 rl 0 0 h cn S D mi k = 0
    · rw [if_pos (by rw [z]; rfl)] at cl rl'
      obtain ⟨res, t3, w3, rz3, i1, i2, i3, i4, i5⟩ := fal_loop H hc hF hmi B hwh r (k + 1) gc (gr + 1) t2 w2 rz2 (by omega) (by omega) (by omega) (hx.kz e4) e2 (L.kr e3) g2 (f.kg g3) (m.kg g3) (fun j p q => (g3.2.1 j (by omega) (by omega)).trans (hR j p q))
      exact ⟨res, t3, w3, rz3, cl.trans i1, rl'.trans i2, e3.tr i3, e4.tr i4, g3.tr i5⟩
    · rw [if_neg (nI_ne0 (Nat.pos_of_ne_zero z) (by omega))] at cl rl'
      by_cases y : what = 0
      · rw [if_pos (by rw [y]; rfl)] at cl rl'
        exact ⟨_, t2, w2, rz2, cl, rl'.trans (stop _ (by omega)), e3, e4, g3⟩
      · rw [if_neg (nI_ne0 (Nat.pos_of_ne_zero y) (by omega))] at cl rl'
        exact ⟨_, t2, w2, rz2, cl, rl'.trans (stop _ (by omega)), e3, e4, g3⟩
theorem q_falls (H : HOK h) (hc : ∀ k, k < 4 → cn k ≤ 99) (C : CDd h cn S D mi rm) (M : MDd h cn S D mi mo) (B : BDd (h.1 3) S D) (hmi : mi ≤ 999) (hF : 600 ≤ F) (hw : Rw (rm.2.1 4) 4 99) (hri : f_X8_ruleInForce F xi xrr si = some e) (hx : RLx rl e rz mo) (hf : FIn rl mo) (hm : Mus (h.1 3) 0 0 mo) : AskB mo tm rz (f_X8_falls F x xi xrr si rm tm rz) (f_X9_falls F x mo) := by
  have t01 := H.1
  have hcs : ∀ k, k < h.1 1 → cn k ≤ 99 := fun k hk => hc k (by have := H.2.1; omega)
  have e0 := r_isHall (F := F) H M.1
  have e3 := in_c (F := F) (x := x) (a := 0) (b := 1) (la := 0) (lb := 1) (by decide) (by decide)
  have y1 : (1 : Int32).toInt = 1 := by decide
  by_cases c : h.1 0 = 1 ∧ 0 ≤ x.toInt ∧ x.toInt ≤ 1
  · obtain ⟨c1, c2⟩ := c
    obtain ⟨k, hk, rfl⟩ := ix_of (n := 2) (x := x) (by omega)
    obtain ⟨t0, w0, a1, a2, a3, a4, a5, a6, a7, a8⟩ := try_b (F := F) (tm := tm) H C M hF
    obtain ⟨res, t1, w1, rz2, b1, b2, b3, b4, b5⟩ := fal_loop (F := F) (rm := rm) (xi := xi) (si := si) (xrr := xrr) (what := k) H hcs hF hmi B hk 200 0 F F t0 w0 rz (by omega) (by omega) (by omega) hx a3 (hld0 a4) a6 (a8.f hf) (a8.m hm) (fun j p q => a8.2.1 j (by omega))
    obtain ⟨w2, f1, f2, -, -⟩ := lays_q (F := F) hF (b5.blk a7) (KGd.go a8.go b5) (fun i hi => by rw [b5.2.1 38 (by decide) (by decide), a8.2.1 38 (by decide)])
    refine ⟨res, t1, w2, rz2, ?_, ?_, f2, b4, fun _ j hj => ?_⟩
    · unfold f_X8_falls
      rw [C.1.1.1, c1, if_neg (show ¬ nI 1 = 0 by decide), if_neg (nI_pos (by omega)), if_pos (show nI k ≤ 1 from nI_le (a := k) (b := 1) (by omega) (by decide)), hri, bd_some, a1, bd_some]
      exact b1
    · unfold f_X9_falls
      rw [e0, bd_some, if_pos c1, if_neg (show ¬ (1 : Int32) = 0 by decide), e3, bd_some, if_pos c2, if_neg (show ¬ (1 : Int32) = 0 by decide), a2, bd_some]
      refine Eq.trans b2 ?_
      unfold b_X9_falls_81
      rw [f1, bd_some]
    · rw [b3.2.1 4 (by decide) (by decide)]
      exact (Rw.cp (tm := tm) hw a5) j hj
  · refine AskB.no (r := -1) ?_ ?_
    · unfold f_X8_falls b_X8_falls_22
      rw [C.1.1.1]
      by_cases d1 : h.1 0 = 1
      · rw [d1, if_neg (show ¬ nI 1 = 0 by decide)]
        by_cases d2 : x < 0
        · rw [if_pos d2]
        · rw [if_neg d2, if_neg (fun d3 => c ⟨d1, by
            rw [sp_lt, sp0] at d2
            rw [sp_le, y1] at d3
            omega⟩)]
      · rw [show h.1 0 = 0 by omega, if_pos (show nI 0 = 0 from rfl)]
    · unfold f_X9_falls b_X9_falls_17
      rw [e0, bd_some]
      by_cases d1 : h.1 0 = 1
      · rw [if_pos d1, if_neg (show ¬ (1 : Int32) = 0 by decide), e3, bd_some, if_neg (fun z => c ⟨d1, z⟩), if_pos rfl]
      · rw [if_neg d1, if_pos rfl]
/-- who is dropped if one rises -/
noncomputable def felS (h : HLd) (cn : Nat → Nat) (S D k : Nat) : Nat := (stl h cn 9 (sT1 D k false S) D 0).2.2
theorem fel_lt (H : HOK h) (B : BDd (h.1 3) S D) {k : Nat} (hk : k < h.1 3) : felS h cn S D k < 256 := l28 (stl_bd H 9 _ _ _ (sT1_bd B hk) (Nat.pow_pos (by decide))).2 H.q8
theorem c_fel {k : Nat} (H : HOK h) (hc : ∀ k, k < h.1 1 → cn k ≤ 99) (C : CDd h cn S D mi rm) (B : BDd (h.1 3) S D) (hk : k < h.1 3) (hF : 600 ≤ F) (hw : Rw (rm.2.1 4) 4 99) : ∃ t2, f_X8_felledBy F (nI k) xi si rm tm = some (nI (felS h cn S D k), t2) ∧ Rw (t2.2.1 4) 4 99 := by
  obtain ⟨t0, a1, a2, a3, a4, a5⟩ := s_copyFrom (F := F) (rm := tm) H C
  obtain ⟨t1, b1, b2, b3⟩ := s_seat (F := F) (k := k) (b := false) (x := 0) H a2 B hk rfl
  obtain ⟨t2, d1, d2, d3⟩ := s_settle (F := F) H hc hF b2 (sT1_bd B hk)
  refine ⟨t2, ?_, fun j hj => ?_⟩
  · unfold f_X8_felledBy
    rw [a1, bd_some, b1, bd_some, d1, bd_some]
    rfl
  · rw [d3.2.1 4 (by decide) (by decide), b3.2.1 4 (by decide) (by decide)]
    exact (Rw.cp (tm := tm) hw a5) j hj
theorem r_fel {k : Nat} (H : HOK h) (hc : ∀ k, k < h.1 1 → cn k ≤ 99) (M : MDd h cn S D mi mo) (B : BDd (h.1 3) S D) (hk : k < h.1 3) (hd : ¬ bS D k) (hF : 600 ≤ F) : ∃ w, f_X9_felledBy F (nI k) mo = some (nI (felS h cn S D k), w) ∧ QKd mo w := by
  have hq := H.q8
  obtain ⟨w0, a1, a2, a3, a4⟩ := try_r (F := F) M hF
  have M2 := a2.set (k := k) (b := false) (v := 0) (mo' := w0) rfl (by rw [if_neg hd]; rfl)
  obtain ⟨w1, b1, b2, b3⟩ := s_settles (F := F) H hc hF M2 (sT1_bd B hk)
  have k0 : KGd w0 (w0.1, uF w0.2.1 3 (upd (w0.2.1 3) k 0), w0.2.2) := ⟨rfl, fun j p _ => uF_n p, fun _ _ => rfl, fun _ _ _ => rfl⟩
  have kk := k0.tr b3.g
  obtain ⟨w2, f1, f2, -, -⟩ := lays_q (F := F) hF (kk.blk a3) (KGd.go a4.go kk) (fun i hi => by rw [kk.2.1 38 (by decide) (by decide), a4.2.1 38 (by decide)])
  refine ⟨w2, ?_, f2⟩
  unfold f_X9_felledBy
  rw [a1, bd_some, if_pos (ib_n (show k < 8 by omega) (by decide)), nI_clamp (show k < 2 ^ 31 by omega), b1, bd_some, f1, bd_some]
  rfl
/-- a question that takes no rule -/
noncomputable def AskT (mo : OB) (cl : Option (Int32 × OB)) (rr : Option (Int32 × OB)) (tm : OB) : Prop := ∃ (r : Int32) (tm2 w : OB), cl = some (r, tm2) ∧ rr = some (r, w) ∧ QKd mo w ∧ (Rw (tm.2.1 4) 4 99 → Rw (tm2.2.1 4) 4 99)
theorem AskT.no {r : Int32} {cl rr : Option (Int32 × OB)} (e1 : cl = some (r, tm)) (e2 : rr = some (r, mo)) : AskT mo cl rr tm := ⟨r, tm, mo, e1, e2, QKd.rf, fun z => z⟩
theorem q_felled (H : HOK h) (hc : ∀ k, k < 4 → cn k ≤ 99) (C : CDd h cn S D mi rm) (M : MDd h cn S D mi mo) (B : BDd (h.1 3) S D) (hF : 600 ≤ F) (hw : Rw (rm.2.1 4) 4 99) : AskT mo (f_X8_felled F x xi si rm tm) (f_X9_felled F x mo) tm := by
  have hcs : ∀ k, k < h.1 1 → cn k ≤ 99 := fun k hk => hc k (by have := H.2.1; omega)
  have hq := H.q8
  have e1 := c_isDown (F := F) (x := x) H C B
  have e2 := r_isSo (F := F) (x := x) (st := 1) H M (by decide)
  have e2 : f_X9_isSo F x 1 mo = _ := e2
  unfold f_X8_felled f_X9_felled b_X8_felled_23 b_X9_felled_18
  rw [e1, bd_some, e2, bd_some]
  by_cases c : inR x (h.1 3) ∧ bS S (nat_ x)
  · have c' : inR x (h.1 3) ∧ stt S D (nat_ x) = 1 := ⟨c.1, (stt_1 B).mpr c.2⟩
    obtain ⟨k, hk, rfl⟩ := ix_of c.1
    have hs := c.2
    rw [(nat_n rfl (show k < 2 ^ 31 by omega)).1] at hs
    obtain ⟨t2, a1, a2⟩ := c_fel (F := F) (tm := tm) (xi := xi) (si := si) H hcs C B hk hF hw
    obtain ⟨w, b1, b2⟩ := r_fel (F := F) H hcs M B hk (fun z => B.2.2 k ⟨hs, z⟩) hF
    rw [if_pos c, if_neg (show ¬ (1 : Int32) = 0 by decide), a1, bd_some, if_pos c', if_neg (show ¬ (1 : Int32) = 0 by decide), b1, bd_some]
    exact ⟨_, t2, w, rfl, rfl, b2, fun _ => a2⟩
  · rw [if_neg c, if_pos rfl, if_neg (show ¬ (inR x (h.1 3) ∧ stt S D (nat_ x) = 1) from fun z => c ⟨z.1, (stt_1 B).mp z.2⟩), if_pos rfl]
    exact AskT.no rfl rfl
theorem tal_loop (H : HOK h) (hc : ∀ k, k < h.1 1 → cn k ≤ 99) (C : CDd h cn S D mi rm) (B : BDd (h.1 3) S D) (hF : 600 ≤ F) (hw : Rw (rm.2.1 4) 4 99) {what : Nat} (hwh : what < 2) : ∀ (r k gc gr : Nat) (a b a' b' : Int32) (tm w : OB), k + r = h.1 3 → r < gc → r < gr → ((a = -1 ∧ b = -1 ∧ a' = -2 ∧ b' = -2) ∨ ∃ j m : Nat, j < 8 ∧ m ≤ 8 ∧ a = nI j ∧ b = nI m ∧ a' = nI j ∧ b' = nI m) → MDd h cn S D mi w → Rw (tm.2.1 4) 4 99 → ∃ (res : Int32) (tm2 w2 : OB), lp (b_X8_tall_34 F xi si rm) gc (nI what, a, b, nI k, tm) = some (res, tm2) ∧ lp (b_X9_tall_28 F) gr (nI what, a', b', nI k, w) = some (res, w2) ∧ QKd w w2 ∧ Rw (tm2.2.1 4) 4 99
  | 0, k, gc, gr, a, b, a', b', tm, w, h1, h2, h3, hab, M, hT => by
    obtain ⟨gc, rfl⟩ : ∃ g', gc = g' + 1 := ⟨gc - 1, by omega⟩
    obtain ⟨gr, rfl⟩ : ∃ g', gr = g' + 1 := ⟨gr - 1, by omega⟩
    have hq := H.q8
    have e1 : lp (b_X8_tall_34 F xi si rm) (gc + 1) (nI what, a, b, nI k, tm) = if a = -1 then some (-2, tm) else if nI what = 0 then some (a, tm) else some (b, tm) := by
      rw [lp_S, b_X8_tall_34]
      unfold b_X8_tall_105
      dsimp only
      rw [C.1.1.2.2.2, if_pos (nI_le (by omega) (by omega))]
    have e2 : lp (b_X9_tall_28 F) (gr + 1) (nI what, a', b', nI k, w) = if nI what = 0 then some (a', w) else some (b', w) := by
      rw [lp_S, b_X9_tall_28]
      unfold b_X9_tall_91
      dsimp only
      rw [t3, M.1.1.2.2.2, if_pos (nI_le (by omega) (by omega))]
    rcases hab with ⟨z1, z2, z3, z4⟩ | ⟨j, m, z0, z5, z1, z2, z3, z4⟩
    · rw [if_pos z1] at e1
      refine ⟨-2, tm, w, e1, e2.trans ?_, QKd.rf, hT⟩
      rw [z3, z4]
      split <;> rfl
    · rw [if_neg (by rw [z1]; exact nI_nm1 (by omega)), z1, z2] at e1
      rw [z3, z4] at e2
      by_cases y : nI what = 0
      · rw [if_pos y] at e1 e2
        exact ⟨_, tm, w, by rw [z1, z2]; exact e1, by rw [z3, z4]; exact e2, QKd.rf, hT⟩
      · rw [if_neg y] at e1 e2
        exact ⟨_, tm, w, by rw [z1, z2]; exact e1, by rw [z3, z4]; exact e2, QKd.rf, hT⟩
  | r + 1, k, gc, gr, a, b, a', b', tm, w, h1, h2, h3, hab, M, hT => by
    obtain ⟨gc, rfl⟩ : ∃ g', gc = g' + 1 := ⟨gc - 1, by omega⟩
    obtain ⟨gr, rfl⟩ : ∃ g', gr = g' + 1 := ⟨gr - 1, by omega⟩
    have hq := H.q8
    have hk : k < h.1 3 := by omega
    have hS8 := l28 B.1 hq
    have hb1 : ¬ b < -1 := by
      rcases hab with ⟨z1, z2, z3, z4⟩ | ⟨j, m, z0, z5, z1, z2, z3, z4⟩
      · rw [z2]
        decide
      · rw [z2, sp_lt, nI_toInt (by omega), spm1]
        omega
    have cl : lp (b_X8_tall_34 F xi si rm) (gc + 1) (nI what, a, b, nI k, tm) = Option.bind (some (if bS S k then (1 : Int32) else 0)) (fun q5 => (if q5 = 0 then (b_X8_tall_65 F xi si rm (lp (b_X8_tall_34 F xi si rm) gc) (nI what) a b (nI k) (-1) tm) else (Option.bind (f_X8_felledBy F (nI k) xi si rm tm) (fun q7 => (Option.bind (f_J6_bitCount_0f7a4 F q7.1) (fun q8 => (b_X8_tall_65 F xi si rm (lp (b_X8_tall_34 F xi si rm) gc) (nI what) a b (nI k) q8 q7.2))))))) := by
      rw [lp_S, b_X8_tall_34]
      dsimp only
      rw [C.1.1.2.2.2, if_neg (nI_ge hk (by omega)), s_isDown C.1.1.2.2.2 C.2.1.1 (by omega) hk hq]
    have rl' : lp (b_X9_tall_28 F) (gr + 1) (nI what, a', b', nI k, w) = if nI (stt S D k) = 1 then (Option.bind (f_X9_felledBy F (nI k) w) (fun q5 => (Option.bind (f_X9_bits F q5.1) (fun q6 => (if q6 ≤ b' then (b_X9_tall_76 F (lp (b_X9_tall_28 F) gr) (nI what) a' b' (nI k) q5.2) else (Option.bind (f_X9_felledBy F (nI k) q5.2) (fun q8 => (Option.bind (f_X9_bits F q8.1) (fun q9 => (b_X9_tall_76 F (lp (b_X9_tall_28 F) gr) (nI what) (nI k) q9 (nI k) q8.2)))))))))) else (b_X9_tall_76 F (lp (b_X9_tall_28 F) gr) (nI what) a' b' (nI k) w) := by
      rw [lp_S, b_X9_tall_28]
      dsimp only
      rw [t3, M.1.1.2.2.2, if_neg (nI_ge hk (by omega)), if_pos (ib_n (show k < 8 by omega) (by decide)), nI_clamp (show k < 2 ^ 31 by omega), M.2.2.2 k hk]
    rw [bd_some] at cl
    have c65 : ∀ (v a b : Int32) (t : OB), b_X8_tall_65 F xi si rm (lp (b_X8_tall_34 F xi si rm) gc) (nI what) a b (nI k) v t = if v ≤ b then lp (b_X8_tall_34 F xi si rm) gc (nI what, a, b, nI (k + 1), t) else lp (b_X8_tall_34 F xi si rm) gc (nI what, nI k, v, nI (k + 1), t) := fun v a b t => by
      unfold b_X8_tall_65 b_X8_tall_81
      rw [nI_1]
    have r76 : ∀ (a b : Int32) (t : OB), b_X9_tall_76 F (lp (b_X9_tall_28 F) gr) (nI what) a b (nI k) t = lp (b_X9_tall_28 F) gr (nI what, a, b, nI (k + 1), t) := fun a b t => by
      unfold b_X9_tall_76
      rw [nI_1]
    by_cases hb : bS S k
    · have hl : nI (stt S D k) = 1 := by rw [(stt_1 B).mpr hb]; rfl
      have hd : ¬ bS D k := fun z => B.2.2 k ⟨hb, z⟩
      obtain ⟨t2, a1, a2⟩ := c_fel (F := F) (tm := tm) (xi := xi) (si := si) H hc C B hk hF hw
      obtain ⟨w2, b1, b2⟩ := r_fel (F := F) H hc M B hk hd hF
      have M2 := M.q H b2
      obtain ⟨w3, d1, d2⟩ := r_fel (F := F) H hc M2 B hk hd hF
      have M3 := M2.q H d2
      have hf8 := fel_lt (cn := cn) H B hk
      have c8 := cnt_8 (felS h cn S D k)
      rw [if_pos hb, if_neg (show ¬ (1 : Int32) = 0 by decide), a1, bd_some] at cl
      dsimp only at cl
      rw [s_bc hf8, bd_some, c65] at cl
      rw [if_pos hl, b1, bd_some] at rl'
      dsimp only at rl'
      rw [s_bits hf8 hF, bd_some, r76, d1, bd_some] at rl'
      dsimp only at rl'
      rw [s_bits hf8 hF, bd_some, r76] at rl'
      have cmp : nI (cntN (felS h cn S D k)) ≤ b ↔ nI (cntN (felS h cn S D k)) ≤ b' := by
        rcases hab with ⟨z1, z2, z3, z4⟩ | ⟨j, m, z0, z5, z1, z2, z3, z4⟩
        · rw [z2, z4, sp_le, sp_le, nI_toInt (by omega), spm1, show (-2 : Int32).toInt = -2 from by decide]
          omega
        · rw [z2, z4]
      by_cases y : nI (cntN (felS h cn S D k)) ≤ b
      · rw [if_pos y] at cl
        rw [if_pos (cmp.mp y)] at rl'
        obtain ⟨res, t5, w5, i1, i2, i3, i4⟩ := tal_loop H hc C B hF hw hwh r (k + 1) gc gr a b a' b' t2 w2 (by omega) (by omega) (by omega) hab M2 a2
        exact ⟨res, t5, w5, cl.trans i1, rl'.trans i2, b2.tr i3, i4⟩
      · rw [if_neg y] at cl
        rw [if_neg (fun z => y (cmp.mpr z))] at rl'
        obtain ⟨res, t5, w5, i1, i2, i3, i4⟩ := tal_loop H hc C B hF hw hwh r (k + 1) gc gr (nI k) (nI (cntN (felS h cn S D k))) (nI k) (nI (cntN (felS h cn S D k))) t2 w3 (by omega) (by omega) (by omega) (Or.inr ⟨k, cntN (felS h cn S D k), by omega, c8, rfl, rfl, rfl, rfl⟩) M3 a2
        exact ⟨res, t5, w5, cl.trans i1, rl'.trans i2, (b2.tr d2).tr i3, i4⟩
    · have hl : ¬ nI (stt S D k) = 1 := fun z => hb ((stt_1 B).mp ((nI_eq (b := 1) (by have := stt_lt S D k; omega) (by decide)).mp z))
      rw [if_neg hb, if_pos rfl, c65, if_pos (by
        rw [sp_le]
        rw [sp_lt] at hb1
        omega)] at cl
      rw [if_neg hl, r76] at rl'
      obtain ⟨res, t5, w5, i1, i2, i3, i4⟩ := tal_loop H hc C B hF hw hwh r (k + 1) gc gr a b a' b' tm w (by omega) (by omega) (by omega) hab M hT
      exact ⟨res, t5, w5, cl.trans i1, rl'.trans i2, i3, i4⟩
theorem q_tall (H : HOK h) (hc : ∀ k, k < 4 → cn k ≤ 99) (C : CDd h cn S D mi rm) (M : MDd h cn S D mi mo) (B : BDd (h.1 3) S D) (hF : 600 ≤ F) (hw : Rw (rm.2.1 4) 4 99) (hT : Rw (tm.2.1 4) 4 99) : AskT mo (f_X8_tall F x xi si rm tm) (f_X9_tall F x mo) tm := by
  have t01 := H.1
  have hq := H.q8
  have hcs : ∀ k, k < h.1 1 → cn k ≤ 99 := fun k hk => hc k (by have := H.2.1; omega)
  have e0 := r_isHall (F := F) H M.1
  have e3 := in_c (F := F) (x := x) (a := 0) (b := 1) (la := 0) (lb := 1) (by decide) (by decide)
  have y1 : (1 : Int32).toInt = 1 := by decide
  by_cases c : h.1 0 = 1 ∧ 0 ≤ x.toInt ∧ x.toInt ≤ 1
  · obtain ⟨c1, c2⟩ := c
    obtain ⟨k, hk, rfl⟩ := ix_of (n := 2) (x := x) (by omega)
    obtain ⟨res, t5, w5, i1, i2, i3, i4⟩ := tal_loop (F := F) (xi := xi) (si := si) (what := k) H hcs C B hF hw hk (h.1 3) 0 F F (-1) (-1) (-2) (-2) tm mo (by omega) (by omega) (by omega) (Or.inl ⟨rfl, rfl, rfl, rfl⟩) M hT
    refine ⟨res, t5, w5, ?_, ?_, i3, fun _ => i4⟩
    · unfold f_X8_tall
      rw [C.1.1.1, c1, if_neg (show ¬ nI 1 = 0 by decide), if_neg (nI_pos (by omega)), if_pos (show nI k ≤ 1 from nI_le (a := k) (b := 1) (by omega) (by decide))]
      exact i1
    · unfold f_X9_tall
      rw [e0, bd_some, if_pos c1, if_neg (show ¬ (1 : Int32) = 0 by decide), e3, bd_some, if_pos c2, if_neg (show ¬ (1 : Int32) = 0 by decide)]
      exact i2
  · refine AskT.no (r := -1) ?_ ?_
    · unfold f_X8_tall b_X8_tall_24
      rw [C.1.1.1]
      by_cases d1 : h.1 0 = 1
      · rw [d1, if_neg (show ¬ nI 1 = 0 by decide)]
        by_cases d2 : x < 0
        · rw [if_pos d2]
        · rw [if_neg d2, if_neg (fun d3 => c ⟨d1, by
            rw [sp_lt, sp0] at d2
            rw [sp_le, y1] at d3
            omega⟩)]
      · rw [show h.1 0 = 0 by omega, if_pos (show nI 0 = 0 from rfl)]
    · unfold f_X9_tall b_X9_tall_17
      rw [e0, bd_some]
      by_cases d1 : h.1 0 = 1
      · rw [if_pos d1, if_neg (show ¬ (1 : Int32) = 0 by decide), e3, bd_some, if_neg (fun z => c ⟨d1, z⟩), if_pos rfl]
      · rw [if_neg d1, if_pos rfl]
end FAL
