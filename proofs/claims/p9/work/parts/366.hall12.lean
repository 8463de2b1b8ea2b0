/-! the hall, pure: hall by both, whole -/
/-- in a refused hall the reference keeps all but what reading uses -/
noncomputable def hFr0 (mo mo2 : OB) : Prop := (∀ j, j ≠ 18 → j ≠ 19 → j ≠ 20 → j ≠ 23 → j ≠ 24 → j ≠ 25 → mo2.1 j = mo.1 j) ∧ (∀ j, j < 12 ∨ 18 ≤ j → mo2.2.1 j = mo.2.1 j) ∧ mo2.2.2 = mo.2.2
theorem hFr0_fin {mo : OB} {p2 f2 : Int32} {ns nc nh nt nr nw : Nat → Int32} : hFr0 mo (fin0 (ps (hm mo ns nc nh nt nr nw) p2 f2 0 0 0 (mo.1 26) (mo.2.1 29) (mo.2.1 30) (mo.2.1 35))) := by
  refine ⟨fun j h1 h2 h3 h4 h5 h6 => ?_, fun j hj => ?_, rfl⟩
  · show uF (uF (uF (uF (uF (uF (uF mo.1 19 p2) 20 f2) 23 0) 24 0) 25 0) 26 (mo.1 26)) 18 0 j = mo.1 j
    rw [uF_n h1]
    by_cases e : j = 26
    · rw [e, uF_s]
    · rw [uF_n e, uF_n h6, uF_n h5, uF_n h4, uF_n h3, uF_n h2]
  · show uF (uF (uF (uF (uF (uF (uF (uF (uF mo.2.1 12 ns) 13 nc) 14 nh) 15 nt) 16 nr) 17 nw) 29 (mo.2.1 29)) 30 (mo.2.1 30)) 35 (mo.2.1 35) j = mo.2.1 j
    by_cases e1 : j = 35
    · rw [e1, uF_s]
    · rw [uF_n e1]
      by_cases e2 : j = 30
      · rw [e2, uF_s]
      · rw [uF_n e2]
        by_cases e3 : j = 29
        · rw [e3, uF_s]
        · rw [uF_n e3, uF_n (by omega), uF_n (by omega), uF_n (by omega), uF_n (by omega), uF_n (by omega), uF_n (by omega)]
section HAB
variable {F : Nat}
theorem read_c {tp tm : OB} {n : Nat} {K P V : Nat → Int32} (e1 : f_X7_cutUp F tp = some (tcs tp n K P V)) : f_X1_read F tp tm = lp (b_X1_read_10 F) F (nI 0, tpa (tcs tp n K P V) (nI 0) 0, rmh tm 0 0 0 0 (tm.2.1 4) (tm.2.1 5) (tm.2.1 6) (tm.2.1 7) (tm.2.1 8)) := by
  unfold f_X1_read f_X3_clear
  rw [e1, bd_some, bd_some, tpa_id (x := tcs tp n K P V) (t := nI 0) (f := 0) rfl rfl]
  unfold rmh
  rw [uF_id (f := tm.2.1) (i := 4), uF_id (f := tm.2.1) (i := 5), uF_id (f := tm.2.1) (i := 6), uF_id (f := tm.2.1) (i := 7), uF_id (f := tm.2.1) (i := 8)]
  rfl
theorem read_r {mo : OB} (hF : 600 ≤ F) : ∃ ns2, (∀ j, j < 4 → ns2 j = 0) ∧ f_X9_readsAll F mo = lp (b_X9_readsAll_28 F) F (nI 0, 1, ps (hm mo ns2 (mo.2.1 13) (mo.2.1 14) (mo.2.1 15) (mo.2.1 16) (mo.2.1 17)) (nI 0) 0 0 0 0 (mo.1 26) (mo.2.1 29) (mo.2.1 30) (mo.2.1 35)) := by
  obtain ⟨ns2, a1, a2⟩ := ra_zero (F := F) (mo := ((uF (uF (uF (uF (uF mo.1 19 0) 20 0) 23 0) 24 0) 25 0), mo.2.1, mo.2.2)) 4 F 0 (mo.2.1 12) (by omega) (by omega) (fun j hj => absurd hj (Nat.not_lt_zero _))
  refine ⟨ns2, a1, ?_⟩
  dsimp only at a2
  rw [uF_id] at a2
  unfold f_X9_readsAll f_X9_starts
  rw [bd_some]
  refine a2.trans ?_
  unfold ps hm
  dsimp only
  rw [show mo.1 26 = (uF (uF (uF (uF (uF mo.1 19 (nI 0)) 20 0) 23 0) 24 0) 25 0) 26 from rfl, uF_id]
  rw [show mo.2.1 13 = uF mo.2.1 12 ns2 13 from rfl, uF_id, show mo.2.1 14 = uF mo.2.1 12 ns2 14 from rfl, uF_id, show mo.2.1 15 = uF mo.2.1 12 ns2 15 from rfl, uF_id, show mo.2.1 16 = uF mo.2.1 12 ns2 16 from rfl, uF_id, show mo.2.1 17 = uF mo.2.1 12 ns2 17 from rfl, uF_id, show mo.2.1 29 = uF mo.2.1 12 ns2 29 from rfl, uF_id, show mo.2.1 30 = uF mo.2.1 12 ns2 30 from rfl, uF_id, show mo.2.1 35 = uF mo.2.1 12 ns2 35 from rfl, uF_id]
  rfl
theorem hall_all {tp tm mo rm ac nt : OB} {xi si : Nat → Int32} {L s : Nat} (hF : 600 ≤ F) (h1 : tp.1 1 = nI L) (h18 : mo.1 18 = nI L) (h4 : L ≤ 400) (hby : ∀ i, -128 ≤ (mo.2.1 28 i).toInt ∧ (mo.2.1 28 i).toInt ≤ 127) (h21 : mo.1 21 = nI s) (hs : s < 6) (h27 : mo.1 27 = 11) (hB : tp.2.1 0 = mo.2.1 28) (hw : Rw (tm.2.1 4) 4 99) :
    (∃ (φ : Nat) (T tm2 mo2 : OB), 0 < φ ∧ φ < 4000 ∧ f_X8_hall F xi tp si rm ac nt tm = some (-2 - nI φ, T, rm, ac, nt, tm2) ∧ f_X9_hall F mo = some (-2 - nI φ, mo2) ∧ T.1 1 = 0 ∧ T.2.1 0 = tp.2.1 0 ∧ Rw (tm2.2.1 4) 4 99 ∧ mo2.1 18 = 0 ∧ hFr0 mo mo2)
    ∨ (∃ (h : HLd) (cn : Nat → Nat) (T rm2 tm2 mo2 : OB), HOK h ∧ h.1 0 = 1 ∧ (∀ k, k < 4 → cn k ≤ 99) ∧ f_X8_hall F xi tp si rm ac nt tm = some (nI (h.1 3), T, rm2, (uF ac.1 4 0, ac.2.1, ac.2.2), (uF nt.1 3 0, nt.2.1, nt.2.2), tm2) ∧ f_X9_hall F mo = some (nI (h.1 3), mo2) ∧ T.1 1 = 0 ∧ T.2.1 0 = tp.2.1 0 ∧ CDd h cn 0 0 0 rm2 ∧ rm2.1 15 = 0 ∧ Rw (rm2.2.1 4) 4 99 ∧ Rw (tm2.2.1 4) 4 99 ∧ MDd h cn 0 0 0 mo2 ∧ mo2.1 18 = 0 ∧ mo2.1 41 = 0 ∧ mo2.2.1 1 5 = 0 ∧ hFr mo mo2) := by
  obtain ⟨n, K, P, V, e1, hn, hT⟩ := s_cutUp (F := F) (tp := tp) hF h1 h4
  rw [hB] at hT
  have hr : RB mo L s := ⟨h18, h4, hby, h21, hs, h27⟩
  have hx : TX (mo.2.1 28) L (tcs tp n K P V) n := ⟨h1, rfl, h4, by omega, hT⟩
  have ha : At L (tcs tp n K P V) n 0 (sk (mo.2.1 28) L 0) := ⟨hT.1, sk_le (Nat.zero_le _), hT.2.1⟩
  obtain ⟨ns2, n1, rR⟩ := read_r (F := F) (mo := mo) hF
  have cR := read_c (F := F) (tm := tm) e1
  rcases hall_loop (F := F) (m := mo) (x := tcs tp n K P V) (y := tm) (e := 0) (d := 0) (c := 0) (o := mo.1 26) (s1 := mo.2.1 29) (n1 := mo.2.1 30) (o1 := mo.2.1 35) hr hF hx 41 0 (sk (mo.2.1 28) L 0) 0 0 0 0 0 0 F F (tm.2.1 4) (tm.2.1 5) (tm.2.1 6) (tm.2.1 7) (tm.2.1 8) ns2 (mo.2.1 13) (mo.2.1 14) (mo.2.1 15) (mo.2.1 16) (mo.2.1 17) (by omega) (by omega) ha (Nat.zero_le _) rfl (HR.nil hw (n1 0 (by decide)) (n1 1 (by decide)) (n1 2 (by decide)) (n1 3 (by decide))) (Or.inl ⟨rfl, rfl⟩) (by omega) (by omega) with hq | hq
  · obtain ⟨φ, p2, t2, as, ac_, ah, at_, ar, aw, rm2, a1, a2, a3, a4, a5⟩ := hq
    rw [← cR] at a4
    rw [← rR] at a5
    refine Or.inl ⟨φ, (uF (tpa (tcs tp n K P V) t2 (nI φ)).1 1 0, (tpa (tcs tp n K P V) t2 (nI φ)).2.1, (tpa (tcs tp n K P V) t2 (nI φ)).2.2), rm2, fin0 (ps (hm mo as ac_ ah at_ ar aw) p2 (nI φ) 0 0 0 (mo.1 26) (mo.2.1 29) (mo.2.1 30) (mo.2.1 35)), a1, a2, ?_, ?_, rfl, rfl, a3, rfl, hFr0_fin⟩
    rotate_left 1
    · unfold f_X9_hall
      rw [a5, bd_some, if_neg (show ¬ (fin0 (ps (hm mo as ac_ ah at_ ar aw) p2 (nI φ) 0 0 0 (mo.1 26) (mo.2.1 29) (mo.2.1 30) (mo.2.1 35))).1 20 ≤ 0 from nI_nle a1 (by omega))]
      rfl
    · unfold f_X8_hall
      rw [a4, bd_some]
      dsimp only
      rw [if_pos rfl]
      rfl
  · obtain ⟨h, cn, p2, t2, as, ac_, ah, at_, ar, aw, rm2, H, h0, hNK, hcn, hcn2, hCD, hrw, a4, a5⟩ := hq
    rw [← cR] at a4
    rw [← rR] at a5
    obtain ⟨mo2, b1, b2, b3, b4, b5, b6, b7, b8⟩ := hall_end (F := F) (mo := fin0 (ps (hm mo as ac_ ah at_ ar aw) p2 0 0 0 0 (mo.1 26) (mo.2.1 29) (mo.2.1 30) (mo.2.1 35))) (h := h) (cn := cn) H hNK hcn2 hF
    obtain ⟨rm3, c1, c2, c3, c4, c5⟩ := s_copyFrom (F := F) (rm := rm) H hCD
    have fr := hFr0_fin (mo := mo) (p2 := p2) (f2 := 0) (ns := as) (nc := ac_) (nh := ah) (nt := at_) (nr := ar) (nw := aw)
    refine Or.inr ⟨h, cn, (uF (tpa (tcs tp n K P V) t2 0).1 1 0, (tpa (tcs tp n K P V) t2 0).2.1, (tpa (tcs tp n K P V) t2 0).2.2), rm3, rm2, mo2, H, h0, hcn, ?_, ?_, rfl, rfl, c2, c3, fun k hk => ?_, hrw, b2, ?_, ?_, b6, ?_, ?_, ?_, ?_, ?_⟩
    rotate_left 1
    · unfold f_X9_hall
      rw [a5, bd_some, if_pos (show (fin0 (ps (hm mo as ac_ ah at_ ar aw) p2 0 0 0 0 (mo.1 26) (mo.2.1 29) (mo.2.1 30) (mo.2.1 35))).1 20 ≤ 0 from by
        show (0 : Int32) ≤ 0
        decide)]
      exact b1
    · rw [c5 k hk]
      exact hrw k hk
    · rw [b3]
      rfl
    · rw [b3]
      rfl
    · intro j j1 j2 j3 j4 j5 j6 j7
      rw [b3, uF_n j7]
      exact fr.1 j j1 j2 j3 j4 j5 j6
    · intro j hj
      rw [b4 j (by omega)]
      exact fr.2.1 j (Or.inr hj)
    · intro j j1 j2
      rw [b5 j j1 j2]
      exact fr.2.1 j (Or.inl (by omega))
    · intro j hj
      rw [b7 j hj]
      exact congrFun (fr.2.1 1 (Or.inl (by omega))) j
    · rw [b8]
      exact fr.2.2
    · unfold f_X8_hall f_X0_forget f_X2_forget
      rw [a4, bd_some]
      dsimp only
      rw [if_neg (show ¬ (1 : Int32) = 0 by decide), c1, bd_some, bd_some, bd_some, c2.1.1.2.2.2]
end HAB
