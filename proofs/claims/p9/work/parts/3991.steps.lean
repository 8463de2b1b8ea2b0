/-! what every other call leaves of the link -/
section ST2
variable {F : Nat} {xi si xg : Nat → Int32} {tp rm ac nt tm mo : OB} {rz : Nat → OB} {iz : Nat → IZ1} {xrr : Nat → Option Nat} {x1 x2 x3 x4 x5 : Int32}
/-! a place of the first row is set -/
theorem MDd.k1 {h : HLd} {cn : Nat → Nat} {S D mi p : Nat} {w : OB} (M : MDd h cn S D mi mo) (hp : 5 ≤ p) (k : K1d p mo w) : MDd h cn S D mi w := by
  obtain ⟨⟨⟨a0, a1, a2, a3⟩, M4, M5, M6⟩, M7, M8, M9⟩ := M
  refine ⟨⟨⟨(k.2.2.1 0 (by omega)).trans a0, (k.2.2.1 1 (by omega)).trans a1, (k.2.2.1 2 (by omega)).trans a2, (k.2.2.1 3 (by omega)).trans a3⟩, ?_, ?_, ?_⟩, (k.2.2.1 4 (by omega)).trans M7, ?_, ?_⟩
  · rw [k.2.1 11 (by decide)]
    exact M4
  · rw [k.2.1 6 (by decide), k.2.1 4 (by decide)]
    exact M5
  · rw [k.2.1 7 (by decide), k.2.1 5 (by decide)]
    exact M6
  · rw [k.2.1 2 (by decide)]
    exact M8
  · rw [k.2.1 3 (by decide)]
    exact M9
theorem g_force (hF : 1000 ≤ F) (G : GL xi tp si rm ac nt xg tm rz iz mo) : ∃ (r : Int32) (si2 : Nat → Int32) (w : OB), f_X8_force F x1 xi si = some (r, si2) ∧ f_X9_force F x1 mo = some (r, w) ∧ GL xi tp si2 rm ac nt xg tm rz iz w := by
  obtain ⟨nr, R, T, ⟨h, cn, S, D, mi, rc, n, nm, nn, v, K, A, M, N, f7, fv, hv, s4, m6, hw⟩, h15, tw, m38, I⟩ := G
  obtain ⟨r, si2, w, g1, g2, k, g4, g5, g6⟩ := q_force (F := F) (x := x1) (v := si 3) R.1 R.2.1 R.2.2.1 rfl f7
  have kr : ∀ j, j ≠ 1 → w.2.1 j = mo.2.1 j := k.2.1
  refine ⟨r, si2, w, g1, g2, nr, R.v (congrFun k.1 21) (congrFun k.1 22) (congrFun k.1 27) (fun j p q => kr j (by omega)) RZk.rf, T.v (congrFun k.1 18) (kr 28 (by decide)), ⟨h, cn, S, D, mi, rc, n, nm, nn, v, K, A, ⟨M.1.k1 (by decide) k, M.2.kg (congrFun k.1 41) (kr 39 (by decide))⟩, ?_, g5, ?_, hv, (g4 4 (by decide)).trans s4, (k.2.2.1 6 (by decide)).trans m6, hw⟩, h15, tw, fun i hi => by rw [kr 38 (by decide)]; exact m38 i hi, I.v (fun i _ => congrFun (kr 50 (by decide)) i) (fun i _ => congrFun (kr 49 (by decide)) i)⟩
  · obtain ⟨n1, n2, n3, n4, n5, n6⟩ := N
    refine ⟨n1, n2, (k.2.2.1 5 (by decide)).trans n3, n4, n5, fun j hj => ?_⟩
    rw [kr 8 (by decide), kr 9 (by decide), kr 10 (by decide)]
    exact n6 j hj
  · rcases g6 with z | z | z
    · rw [z]
      exact fv
    · exact Or.inl z
    · exact Or.inr z
theorem g_seed (hF : 1000 ≤ F) (G : GL xi tp si rm ac nt xg tm rz iz mo) : ∃ (r : Int32) (si2 : Nat → Int32) (w : OB), f_X8_seed F x1 xi si = some (r, si2) ∧ f_X9_seed F x1 mo = some (r, w) ∧ GL xi tp si2 rm ac nt xg tm rz iz w := by
  obtain ⟨nr, R, T, ⟨h, cn, S, D, mi, rc, n, nm, nn, v, K, A, M, N, f7, fv, hv, s4, m6, hw⟩, h15, tw, m38, I⟩ := G
  obtain ⟨r, si2, w, g1, g2, k, g4, g5, g6⟩ := q_seed (F := F) (x := x1) (xi := xi) s4 m6 (nI_pos' hv)
  have kr : ∀ j, j ≠ 1 → w.2.1 j = mo.2.1 j := k.2.1
  obtain ⟨v2, hv2, e2⟩ := nI_of (x := si2 4) (fun z => by
    rw [sp_lt, sp0] at z
    rw [sp_le, sp0] at g6
    omega)
  refine ⟨r, si2, w, g1, g2, nr, R.v (congrFun k.1 21) (congrFun k.1 22) (congrFun k.1 27) (fun j p q => kr j (by omega)) RZk.rf, T.v (congrFun k.1 18) (kr 28 (by decide)), ⟨h, cn, S, D, mi, rc, n, nm, nn, v2, K, A, ⟨M.1.k1 (by decide) k, M.2.kg (congrFun k.1 41) (kr 39 (by decide))⟩, ?_, ?_, ?_, hv2, e2, g5.trans e2, hw⟩, h15, tw, fun i hi => by rw [kr 38 (by decide)]; exact m38 i hi, I.v (fun i _ => congrFun (kr 50 (by decide)) i) (fun i _ => congrFun (kr 49 (by decide)) i)⟩
  · obtain ⟨n1, n2, n3, n4, n5, n6⟩ := N
    refine ⟨n1, n2, (k.2.2.1 5 (by decide)).trans n3, n4, n5, fun j hj => ?_⟩
    rw [kr 8 (by decide), kr 9 (by decide), kr 10 (by decide)]
    exact n6 j hj
  · rw [k.2.2.1 7 (by decide), f7, g4 3 (by decide)]
  · rw [g4 3 (by decide)]
    exact fv
theorem g_note (hF : 1000 ≤ F) (G : GL xi tp si rm ac nt xg tm rz iz mo) : ∃ (r : Int32) (nt2 w : OB), f_X8_note F x1 x2 x3 xi si rm nt = some (r, nt2) ∧ f_X9_note F x1 x2 x3 mo = some (r, w) ∧ GL xi tp si rm ac nt2 xg tm rz iz w := by
  obtain ⟨nr, R, T, ⟨h, cn, S, D, mi, rc, n, nm, nn, v, K, A, M, N, f7, fv, hv, s4, m6, hw⟩, h15, tw, m38, I⟩ := G
  obtain ⟨r, nn2, nm2, nt2, w, g1, g2, g3, k1, k2, k3, k4⟩ := q_note (F := F) (x := x1) (y := x2) (z := x3) (xi := xi) (si := si) K.1 A.1.1 M.1.1 N
  have M2 : MDd h cn S D mi w := by
    obtain ⟨⟨⟨a0, a1, a2, a3⟩, M4, M5, M6⟩, M7, M8, M9⟩ := M.1
    refine ⟨⟨⟨(k3 0 (by decide)).trans a0, (k3 1 (by decide)).trans a1, (k3 2 (by decide)).trans a2, (k3 3 (by decide)).trans a3⟩, ?_, ?_, ?_⟩, (k3 4 (by decide)).trans M7, ?_, ?_⟩
    · rw [k2 11 (by decide) (by decide) (by decide) (by decide)]
      exact M4
    · rw [k2 6 (by decide) (by decide) (by decide) (by decide), k2 4 (by decide) (by decide) (by decide) (by decide)]
      exact M5
    · rw [k2 7 (by decide) (by decide) (by decide) (by decide), k2 5 (by decide) (by decide) (by decide) (by decide)]
      exact M6
    · rw [k2 2 (by decide) (by decide) (by decide) (by decide)]
      exact M8
    · rw [k2 3 (by decide) (by decide) (by decide) (by decide)]
      exact M9
  exact ⟨r, nt2, w, g1, g2, nr, R.v (congrFun k1 21) (congrFun k1 22) (congrFun k1 27) (fun j p q => k2 j (by omega) (by omega) (by omega) (by omega)) RZk.rf, T.v (congrFun k1 18) (k2 28 (by decide) (by decide) (by decide) (by decide)), ⟨h, cn, S, D, mi, rc, n, nm2, nn2, v, K, A, ⟨M2, M.2.kg (congrFun k1 41) (k2 39 (by decide) (by decide) (by decide) (by decide))⟩, g3, (k3 7 (by decide)).trans f7, fv, hv, s4, (k3 6 (by decide)).trans m6, hw⟩, h15, tw, fun i hi => by rw [k2 38 (by decide) (by decide) (by decide) (by decide)]; exact m38 i hi, I.v (fun i _ => congrFun (k2 50 (by decide) (by decide) (by decide) (by decide)) i) (fun i _ => congrFun (k2 49 (by decide) (by decide) (by decide) (by decide)) i)⟩
/-! what is read off -/
theorem g_strand (hF : 1000 ≤ F) (G : GL xi tp si rm ac nt xg tm rz iz mo) : ∃ r, f_X8_strand F x1 xi si rm = some r ∧ f_X9_strand F x1 mo = some r := by
  obtain ⟨nr, R, T, ⟨h, cn, S, D, mi, rc, n, nm, nn, v, K, A, M, N, f7, fv, hv, s4, m6, hw⟩, h15, tw, m38, I⟩ := G
  exact q_strand K.1 A.1 M.1
theorem g_chair (hF : 1000 ≤ F) (G : GL xi tp si rm ac nt xg tm rz iz mo) : ∃ r, f_X8_chair F x1 x2 xi si rm = some r ∧ f_X9_chair F x1 x2 mo = some r := by
  obtain ⟨nr, R, T, ⟨h, cn, S, D, mi, rc, n, nm, nn, v, K, A, M, N, f7, fv, hv, s4, m6, hw⟩, h15, tw, m38, I⟩ := G
  exact q_chair K.1 K.c A.1 M.1 K.2.2.1 (by omega)
theorem g_sitter (hF : 1000 ≤ F) (G : GL xi tp si rm ac nt xg tm rz iz mo) : ∃ r, f_X8_sitter F x1 x2 xi si rm = some r ∧ f_X9_sitter F x1 x2 mo = some r := by
  obtain ⟨nr, R, T, ⟨h, cn, S, D, mi, rc, n, nm, nn, v, K, A, M, N, f7, fv, hv, s4, m6, hw⟩, h15, tw, m38, I⟩ := G
  exact q_sitter K.1 A.1 M.1 K.2.2.1
theorem g_pence (hF : 1000 ≤ F) (G : GL xi tp si rm ac nt xg tm rz iz mo) : ∃ r, f_X8_pence F x1 x2 xi si rm = some r ∧ f_X9_pence F x1 x2 mo = some r := by
  obtain ⟨nr, R, T, ⟨h, cn, S, D, mi, rc, n, nm, nn, v, K, A, M, N, f7, fv, hv, s4, m6, hw⟩, h15, tw, m38, I⟩ := G
  exact q_pence K.1 K.2.1 A.1 M.1 K.2.2.1 (by omega)
theorem g_count (hF : 1000 ≤ F) (G : GL xi tp si rm ac nt xg tm rz iz mo) : ∃ r, f_X8_count F x1 xi tp si rm ac nt = some r ∧ f_X9_count F x1 mo = some r := by
  obtain ⟨nr, R, ⟨L, a, b, c, d, e⟩, ⟨h, cn, S, D, mi, rc, n, nm, nn, v, K, A, M, N, f7, fv, hv, s4, m6, hw⟩, h15, tw, m38, I⟩ := G
  exact q_count K.1 K.c A.1 M.1 K.2.2.1 A.2 M.2 N (by omega) R.2.1 R.2.2.1 f7 (m6.trans s4.symm) (c.trans b.symm)
/-! acts -/
theorem g_minute (hF : 1000 ≤ F) (G : GL xi tp si rm ac nt xg tm rz iz mo) : ∃ (r : Int32) (rm2 ac2 : OB) (rz2 : Nat → OB) (w : OB), f_X8_minute F xi xrr si rm ac rz = some (r, rm2, ac2, rz2) ∧ f_X9_minute F mo = some (r, w) ∧ GL xi tp si rm2 ac2 nt xg tm rz2 iz w := by
  obtain ⟨nr, R, T, ⟨h, cn, S, D, mi, rc, n, nm, nn, v, K, A, M, N, f7, fv, hv, s4, m6, hw⟩, h15, tw, m38, I⟩ := G
  obtain ⟨rl, hri, hx, hf⟩ := force_of (F := F) (xrr := xrr) R fv f7
  obtain ⟨r, cn2, S2, D2, m2, rc2, n2, rm2, ac2, w, rz2, e1, e2, K2, A2, M2, kx, ky, z⟩ := act_minute (F := F) K A M (by omega) hri hx hf (mus0 K.1 m38) h15
  exact ⟨r, rm2, ac2, rz2, w, e1, e2, GL.act R T h15 tw m38 I N f7 fv hv s4 m6 hw K2 A2 M2 kx ky z⟩
theorem g_sit (hF : 1000 ≤ F) (G : GL xi tp si rm ac nt xg tm rz iz mo) : ∃ (r : Int32) (rm2 ac2 w : OB), f_X8_sit F x1 xi si rm ac = some (r, rm2, ac2) ∧ f_X9_sit F x1 mo = some (r, w) ∧ GL xi tp si rm2 ac2 nt xg tm rz iz w := by
  obtain ⟨nr, R, T, ⟨h, cn, S, D, mi, rc, n, nm, nn, v, K, A, M, N, f7, fv, hv, s4, m6, hw⟩, h15, tw, m38, I⟩ := G
  obtain ⟨r, cn2, S2, D2, m2, rc2, n2, rm2, ac2, w, e1, e2, K2, A2, M2, kx, ky⟩ := act_sit (F := F) (x := x1) (xi := xi) (si := si) K A M (by omega)
  exact ⟨r, rm2, ac2, w, e1, e2, GL.act R T h15 tw m38 I N f7 fv hv s4 m6 hw K2 A2 M2 kx ky RZk.rf⟩
theorem g_rise (hF : 1000 ≤ F) (G : GL xi tp si rm ac nt xg tm rz iz mo) : ∃ (r : Int32) (rm2 ac2 w : OB), f_X8_rise F x1 xi si rm ac = some (r, rm2, ac2) ∧ f_X9_rise F x1 mo = some (r, w) ∧ GL xi tp si rm2 ac2 nt xg tm rz iz w := by
  obtain ⟨nr, R, T, ⟨h, cn, S, D, mi, rc, n, nm, nn, v, K, A, M, N, f7, fv, hv, s4, m6, hw⟩, h15, tw, m38, I⟩ := G
  obtain ⟨r, cn2, S2, D2, m2, rc2, n2, rm2, ac2, w, e1, e2, K2, A2, M2, kx, ky⟩ := act_rise (F := F) (x := x1) (xi := xi) (si := si) K A M (by omega)
  exact ⟨r, rm2, ac2, w, e1, e2, GL.act R T h15 tw m38 I N f7 fv hv s4 m6 hw K2 A2 M2 kx ky RZk.rf⟩
theorem g_help (hF : 1000 ≤ F) (G : GL xi tp si rm ac nt xg tm rz iz mo) : ∃ (r : Int32) (rm2 ac2 w : OB), f_X8_help F x1 xi si rm ac = some (r, rm2, ac2) ∧ f_X9_help F x1 mo = some (r, w) ∧ GL xi tp si rm2 ac2 nt xg tm rz iz w := by
  obtain ⟨nr, R, T, ⟨h, cn, S, D, mi, rc, n, nm, nn, v, K, A, M, N, f7, fv, hv, s4, m6, hw⟩, h15, tw, m38, I⟩ := G
  obtain ⟨r, cn2, S2, D2, m2, rc2, n2, rm2, ac2, w, e1, e2, K2, A2, M2, kx, ky⟩ := act_help (F := F) (x := x1) (xi := xi) (si := si) K A M (by omega)
  exact ⟨r, rm2, ac2, w, e1, e2, GL.act R T h15 tw m38 I N f7 fv hv s4 m6 hw K2 A2 M2 kx ky RZk.rf⟩
theorem g_let (hF : 1000 ≤ F) (G : GL xi tp si rm ac nt xg tm rz iz mo) : ∃ (r : Int32) (rm2 ac2 w : OB), f_X8_let F x1 x2 xi si rm ac = some (r, rm2, ac2) ∧ f_X9_let F x1 x2 mo = some (r, w) ∧ GL xi tp si rm2 ac2 nt xg tm rz iz w := by
  obtain ⟨nr, R, T, ⟨h, cn, S, D, mi, rc, n, nm, nn, v, K, A, M, N, f7, fv, hv, s4, m6, hw⟩, h15, tw, m38, I⟩ := G
  obtain ⟨r, cn2, S2, D2, m2, rc2, n2, rm2, ac2, w, e1, e2, K2, A2, M2, kx, ky⟩ := act_let (F := F) (x := x1) (y := x2) (xi := xi) (si := si) K A M (by omega)
  exact ⟨r, rm2, ac2, w, e1, e2, GL.act R T h15 tw m38 I N f7 fv hv s4 m6 hw K2 A2 M2 kx ky RZk.rf⟩
theorem g_undo (hF : 1000 ≤ F) (G : GL xi tp si rm ac nt xg tm rz iz mo) : ∃ (r : Int32) (rm2 ac2 w : OB), f_X8_undo F xi si rm ac = some (r, rm2, ac2) ∧ f_X9_undo F mo = some (r, w) ∧ GL xi tp si rm2 ac2 nt xg tm rz iz w := by
  obtain ⟨nr, R, T, ⟨h, cn, S, D, mi, rc, n, nm, nn, v, K, A, M, N, f7, fv, hv, s4, m6, hw⟩, h15, tw, m38, I⟩ := G
  obtain ⟨r, cn2, S2, D2, m2, rc2, n2, rm2, ac2, w, e1, e2, K2, A2, M2, kx, ky⟩ := act_undo (F := F) (xi := xi) (si := si) K A M (by omega)
  exact ⟨r, rm2, ac2, w, e1, e2, GL.act R T h15 tw m38 I N f7 fv hv s4 m6 hw K2 A2 M2 kx ky RZk.rf⟩
/-! questions -/
theorem g_felled (hF : 1000 ≤ F) (G : GL xi tp si rm ac nt xg tm rz iz mo) : ∃ (r : Int32) (tm2 w : OB), f_X8_felled F x1 xi si rm tm = some (r, tm2) ∧ f_X9_felled F x1 mo = some (r, w) ∧ GL xi tp si rm ac nt xg tm2 rz iz w := by
  obtain ⟨nr, R, T, ⟨h, cn, S, D, mi, rc, n, nm, nn, v, K, A, M, N, f7, fv, hv, s4, m6, hw⟩, h15, tw, m38, I⟩ := id G
  obtain ⟨r, tm2, w, e1, e2, k, t⟩ := q_felled (F := F) (x := x1) (xi := xi) (si := si) (tm := tm) K.1 K.2.1 A.1 M.1 K.2.2.1 (by omega) hw
  exact ⟨r, tm2, w, e1, e2, G.q k RZk.rf t⟩
theorem g_tall (hF : 1000 ≤ F) (G : GL xi tp si rm ac nt xg tm rz iz mo) : ∃ (r : Int32) (tm2 w : OB), f_X8_tall F x1 xi si rm tm = some (r, tm2) ∧ f_X9_tall F x1 mo = some (r, w) ∧ GL xi tp si rm ac nt xg tm2 rz iz w := by
  obtain ⟨nr, R, T, ⟨h, cn, S, D, mi, rc, n, nm, nn, v, K, A, M, N, f7, fv, hv, s4, m6, hw⟩, h15, tw, m38, I⟩ := id G
  obtain ⟨r, tm2, w, e1, e2, k, t⟩ := q_tall (F := F) (x := x1) (xi := xi) (si := si) (tm := tm) K.1 K.2.1 A.1 M.1 K.2.2.1 (by omega) hw tw
  exact ⟨r, tm2, w, e1, e2, G.q k RZk.rf t⟩
theorem g_most (hF : 1000 ≤ F) (G : GL xi tp si rm ac nt xg tm rz iz mo) : ∃ (r : Int32) (tm2 w : OB), f_X8_most F x1 xi si rm tm = some (r, tm2) ∧ f_X9_most F x1 mo = some (r, w) ∧ GL xi tp si rm ac nt xg tm2 rz iz w := by
  obtain ⟨nr, R, T, ⟨h, cn, S, D, mi, rc, n, nm, nn, v, K, A, M, N, f7, fv, hv, s4, m6, hw⟩, h15, tw, m38, I⟩ := id G
  obtain ⟨r, tm2, w, e1, e2, k, t⟩ := q_most (F := F) (x := x1) (xi := xi) (si := si) (tm := tm) K.1 K.2.1 A.1 M.1 K.2.2.1 (by omega) hw
  exact ⟨r, tm2, w, e1, e2, G.q k RZk.rf t⟩
theorem g_heavy (hF : 1000 ≤ F) (G : GL xi tp si rm ac nt xg tm rz iz mo) : ∃ (r : Int32) (tm2 w : OB), f_X8_heavy F x1 x2 xi si rm tm = some (r, tm2) ∧ f_X9_heavy F x1 x2 mo = some (r, w) ∧ GL xi tp si rm ac nt xg tm2 rz iz w := by
  obtain ⟨nr, R, T, ⟨h, cn, S, D, mi, rc, n, nm, nn, v, K, A, M, N, f7, fv, hv, s4, m6, hw⟩, h15, tw, m38, I⟩ := id G
  obtain ⟨r, tm2, w, e1, e2, k, t⟩ := q_heavy (F := F) (x := x1) (y := x2) (xi := xi) (si := si) (tm := tm) K.1 K.2.1 A.1 M.1 K.2.2.1 (by omega) hw
  exact ⟨r, tm2, w, e1, e2, G.q k RZk.rf t⟩
theorem g_ease (hF : 1000 ≤ F) (G : GL xi tp si rm ac nt xg tm rz iz mo) : ∃ (r : Int32) (tm2 : OB), f_X8_ease F x1 xi si rm tm = some (r, tm2) ∧ f_X9_ease F x1 mo = some r ∧ GL xi tp si rm ac nt xg tm2 rz iz mo := by
  obtain ⟨nr, R, T, ⟨h, cn, S, D, mi, rc, n, nm, nn, v, K, A, M, N, f7, fv, hv, s4, m6, hw⟩, h15, tw, m38, I⟩ := id G
  obtain ⟨r, tm2, e1, e2, t⟩ := q_ease (F := F) (x := x1) (xi := xi) (si := si) (tm := tm) K.1 K.2.1 A.1 M.1 K.2.2.1 (by omega) hw
  exact ⟨r, tm2, e1, e2, G.r0 RZk.rf t⟩
theorem g_way {xsr : Nat → Int32} (hF : 1000 ≤ F) (G : GL xi tp si rm ac nt xg tm rz iz mo) : ∃ (r r' : Int32) (tm2 : OB) (xs2 : Nat → Int32) (w : OB), f_X8_way F x1 xi si rm tm xsr = some (r, tm2, xs2) ∧ f_X9_way F x1 mo = some (r', w) ∧ GL xi tp si rm ac nt xg tm2 rz iz w := by
  obtain ⟨nr, R, T, ⟨h, cn, S, D, mi, rc, n, nm, nn, v, K, A, M, N, f7, fv, hv, s4, m6, hw⟩, h15, tw, m38, I⟩ := id G
  obtain ⟨r, tm2, xs2, e1, t⟩ := c_way (F := F) (x := x1) (xi := xi) (si := si) (xsr := xsr) (tm := tm) K.1 K.c A.1 K.2.2.1 (by omega) hw
  obtain ⟨r', w, e2, k⟩ := r_way (F := F) (x := x1) K.1 K.c M.1 K.2.2.1 (by omega)
  exact ⟨r, r', tm2, xs2, w, e1, e2, G.q k RZk.rf t⟩
theorem g_ahead (hF : 1000 ≤ F) (G : GL xi tp si rm ac nt xg tm rz iz mo) : ∃ (r : Int32) (tm2 : OB) (rz2 : Nat → OB) (w : OB), f_X8_ahead F x1 x2 x3 xi xrr si rm tm rz = some (r, tm2, rz2) ∧ f_X9_ahead F x1 x2 x3 mo = some (r, w) ∧ GL xi tp si rm ac nt xg tm2 rz2 iz w := by
  obtain ⟨nr, R, T, ⟨h, cn, S, D, mi, rc, n, nm, nn, v, K, A, M, N, f7, fv, hv, s4, m6, hw⟩, h15, tw, m38, I⟩ := id G
  obtain ⟨rl, hri, hx, hf⟩ := force_of (F := F) (xrr := xrr) R fv f7
  obtain ⟨r, tm2, w, rz2, e1, e2, k, z, t⟩ := q_ahead (F := F) (x := x1) (n := x2) (y := x3) (tm := tm) K.1 K.2.1 A.1 M.1 K.2.2.1 (by omega) hw hri hx hf (mus0 K.1 m38)
  exact ⟨r, tm2, rz2, w, e1, e2, G.q k z t⟩
theorem g_falls (hF : 1000 ≤ F) (G : GL xi tp si rm ac nt xg tm rz iz mo) : ∃ (r : Int32) (tm2 : OB) (rz2 : Nat → OB) (w : OB), f_X8_falls F x1 xi xrr si rm tm rz = some (r, tm2, rz2) ∧ f_X9_falls F x1 mo = some (r, w) ∧ GL xi tp si rm ac nt xg tm2 rz2 iz w := by
  obtain ⟨nr, R, T, ⟨h, cn, S, D, mi, rc, n, nm, nn, v, K, A, M, N, f7, fv, hv, s4, m6, hw⟩, h15, tw, m38, I⟩ := id G
  obtain ⟨rl, hri, hx, hf⟩ := force_of (F := F) (xrr := xrr) R fv f7
  obtain ⟨r, tm2, w, rz2, e1, e2, k, z, t⟩ := q_falls (F := F) (x := x1) (tm := tm) K.1 K.2.1 A.1 M.1 K.2.2.1 K.2.2.2.1 (by omega) hw hri hx hf (mus0 K.1 m38)
  exact ⟨r, tm2, rz2, w, e1, e2, G.q k z t⟩
theorem g_ring {xer : Nat → Int32} (hF : 1000 ≤ F) (G : GL xi tp si rm ac nt xg tm rz iz mo) : ∃ (r : Int32) (tm2 : OB) (xer2 : Nat → Int32) (rz2 : Nat → OB) (w : OB), f_X8_ring F x1 xi xrr si rm tm xer rz = some (r, tm2, xer2, rz2) ∧ f_X9_ring F x1 mo = some (r, w) ∧ GL xi tp si rm ac nt xg tm2 rz2 iz w := by
  obtain ⟨nr, R, T, ⟨h, cn, S, D, mi, rc, n, nm, nn, v, K, A, M, N, f7, fv, hv, s4, m6, hw⟩, h15, tw, m38, I⟩ := id G
  obtain ⟨rl, hri, hx, hf⟩ := force_of (F := F) (xrr := xrr) R fv f7
  obtain ⟨r, tm2, w, xer2, rz2, e1, e2, k, z, t⟩ := q_ring (F := F) (x := x1) (tm := tm) (xer := xer) K.1 K.2.1 A.1 M.1 K.2.2.1 (by omega) hw hri hx hf (mus0 K.1 m38)
  exact ⟨r, tm2, xer2, rz2, w, e1, e2, G.q k z t⟩
theorem g_toasts (hF : 1000 ≤ F) (G : GL xi tp si rm ac nt xg tm rz iz mo) : ∃ (r : Int32) (tm2 : OB) (rz2 : Nat → OB) (w : OB), f_X8_toasts F x1 x2 x3 x4 xi xrr si rm tm rz = some (r, tm2, rz2) ∧ f_X9_toasts F x1 x2 x3 x4 mo = some (r, w) ∧ GL xi tp si rm ac nt xg tm2 rz2 iz w := by
  obtain ⟨nr, R, T, ⟨h, cn, S, D, mi, rc, n, nm, nn, v, K, A, M, N, f7, fv, hv, s4, m6, hw⟩, h15, tw, m38, I⟩ := id G
  obtain ⟨rl, hri, hx, hf⟩ := force_of (F := F) (xrr := xrr) R fv f7
  obtain ⟨r, tm2, w, rz2, e1, e2, k, z, t⟩ := q_toasts (F := F) (x1 := x1) (x2 := x2) (x3 := x3) (x4 := x4) (tm := tm) K.1 K.2.1 A.1 M.1 K.2.2.1 (by omega) hw hri hx hf (mus0 K.1 m38) hv s4 m6
  exact ⟨r, tm2, rz2, w, e1, e2, G.q k z t⟩
theorem g_rests {xpr xqr : Nat → Int32} (hF : 1000 ≤ F) (G : GL xi tp si rm ac nt xg tm rz iz mo) : ∃ (r : Int32) (tm2 : OB) (xp2 xq2 : Nat → Int32) (rz2 : Nat → OB) (w : OB), f_X8_rests F x1 x2 x3 x4 xi xrr si rm tm xpr xqr rz = some (r, tm2, xp2, xq2, rz2) ∧ f_X9_rests F x1 x2 x3 x4 mo = some (r, w) ∧ GL xi tp si rm ac nt xg tm2 rz2 iz w := by
  obtain ⟨nr, R, T, ⟨h, cn, S, D, mi, rc, n, nm, nn, v, K, A, M, N, f7, fv, hv, s4, m6, hw⟩, h15, tw, m38, I⟩ := id G
  obtain ⟨rl, hri, hx, hf⟩ := force_of (F := F) (xrr := xrr) R fv f7
  obtain ⟨r, tm2, w, xp2, xq2, rz2, e1, e2, k, z, t⟩ := q_rests (F := F) (x1 := x1) (x2 := x2) (x3 := x3) (x4 := x4) (tm := tm) (xpr := xpr) (xqr := xqr) K.1 K.2.1 A.1 M.1 K.2.2.1 (by omega) hw hri hx hf (mus0 K.1 m38)
  exact ⟨r, tm2, xp2, xq2, rz2, w, e1, e2, G.q k z t⟩
theorem g_strung (hF : 1000 ≤ F) (G : GL xi tp si rm ac nt xg tm rz iz mo) : ∃ (r : Int32) (tm2 : OB) (rz2 : Nat → OB) (w : OB), f_X8_strung F x1 xi xrr si rm nt tm rz = some (r, tm2, rz2) ∧ f_X9_strung F x1 mo = some (r, w) ∧ GL xi tp si rm ac nt xg tm2 rz2 iz w := by
  obtain ⟨nr, R, T, ⟨h, cn, S, D, mi, rc, n, nm, nn, v, K, A, M, N, f7, fv, hv, s4, m6, hw⟩, h15, tw, m38, I⟩ := id G
  obtain ⟨rl, hri, hx, hf⟩ := force_of (F := F) (xrr := xrr) R fv f7
  obtain ⟨r, tm2, w, rz2, e1, e2, k, z, t⟩ := q_strung (F := F) (x := x1) (tm := tm) K.1 A.1 M.1 hw N (by omega) hri hx hf (mus0 K.1 m38)
  exact ⟨r, tm2, rz2, w, e1, e2, G.q k z t⟩
theorem g_ruled (hF : 1000 ≤ F) (G : GL xi tp si rm ac nt xg tm rz iz mo) : ∃ (r : Int32) (tm2 : OB) (rz2 : Nat → OB) (w : OB), f_X8_ruled F x1 xi xrr si rm nt tm rz = some (r, tm2, rz2) ∧ f_X9_ruled F x1 mo = some (r, w) ∧ GL xi tp si rm ac nt xg tm2 rz2 iz w := by
  obtain ⟨nr, R, T, ⟨h, cn, S, D, mi, rc, n, nm, nn, v, K, A, M, N, f7, fv, hv, s4, m6, hw⟩, h15, tw, m38, I⟩ := id G
  obtain ⟨r, tm2, w, rz2, e1, e2, k, z, t⟩ := q_ruled (F := F) (x := x1) (xi := xi) (xrr := xrr) (si := si) (tm := tm) K.1 A.1 M.1 hw N (by omega) R.1 R.2.1 R.2.2.1 R.2.2.2.1 (mus0 K.1 m38)
  exact ⟨r, tm2, rz2, w, e1, e2, G.q k z t⟩
theorem g_look {xt : Nat → Int32} (hF : 1000 ≤ F) (G : GL xi tp si rm ac nt xg tm rz iz mo) : ∃ (r : Int32) (tm2 : OB) (xt2 : Nat → Int32) (rz2 : Nat → OB) (w : OB), f_X8_look F x1 x2 xi xrr si rm nt tm xt rz = some (r, tm2, xt2, rz2) ∧ f_X9_look F x1 x2 mo = some (r, w) ∧ GL xi tp si rm ac nt xg tm2 rz2 iz w := by
  obtain ⟨nr, R, T, ⟨h, cn, S, D, mi, rc, n, nm, nn, v, K, A, M, N, f7, fv, hv, s4, m6, hw⟩, h15, tw, m38, I⟩ := id G
  obtain ⟨r, tm2, w, xt2, rz2, e1, e2, k, z, t⟩ := q_look (F := F) (x1 := x1) (x2 := x2) (xi := xi) (xrr := xrr) (si := si) (tm := tm) (xt := xt) K.1 A.1 M.1 hw N (by omega) R.1 R.2.1 R.2.2.1 R.2.2.2.1 (mus0 K.1 m38)
  exact ⟨r, tm2, xt2, rz2, w, e1, e2, G.q k z t⟩
/-! images -/
theorem g_image {k : Nat} {xmr : Nat → Option Nat} (hk : k < 4) (hF : 1000 ≤ F) (G : GL xi tp si rm ac nt xg tm rz iz mo) : ∃ (r : Int32) (q : IZ1) (w : OB), f_X8_image F (nI k) xi si rm ac nt xmr xg (iz k).1 (iz k).2.1 (iz k).2.2.1 (iz k).2.2.2 = some (r, upd xg k (vp_nar .boolean 1), q) ∧ f_X9_image F (nI k) mo = some (r, w) ∧ GL xi tp si rm ac nt (upd xg k (vp_nar .boolean 1)) tm rz (uF iz k q) w := by
  obtain ⟨nr, R, T, S, h15, tw, m38, I⟩ := id G
  obtain ⟨J, g, q40, c1, c2, c3, c4⟩ := s_carry0 (F := F) (mo := (mo.1, uF mo.2.1 50 (upd (mo.2.1 50) k (vp_nar .boolean 1)), mo.2.2)) hk (by omega)
  have v0 : VEQ mo (vmo g k) := by
    refine ⟨c3.1, fun j i hi => ?_⟩
    have u := c3.2 j i hi
    rcases vw_in hi with ⟨z, y⟩ | ⟨z, y⟩ | ⟨z, y⟩ | ⟨z, y⟩ | ⟨z, y⟩ | ⟨z, y⟩ | ⟨z, y⟩ | ⟨z, y⟩ | ⟨z, y⟩ | ⟨z, y⟩ | ⟨z, y⟩ | ⟨z, y⟩ <;> subst z <;> exact u
  obtain ⟨s2, r2, a2, t2, d1, d2, d3, d4⟩ := S.cp (F := F) (si := (iz k).1) (rm := (iz k).2.1) (ac := (iz k).2.2.1) (nt := (iz k).2.2.2) v0
  obtain ⟨h, cn, S', D, mi, rc, n, nm, nn, v, K, A, M, N, f7, fv, hv, s4, m6, hw⟩ := id S
  have r12 : rm.1 12 = nI mi := A.1.2.1.2.2
  have m14 : mo.2.1 1 4 = nI mi := M.1.2.1
  have e3 := in_c (F := F) (x := nI k) (a := 0) (b := 3) (la := 0) (lb := 3) (by decide) (by decide)
  have k31 : (nI k).toInt = (k : Int) := nI_toInt (by omega)
  refine ⟨nI mi, (s2, r2, a2, t2), (J, uF (uF (uF mo.2.1 50 (upd (mo.2.1 50) k (vp_nar .boolean 1))) 40 q40) 49 g, mo.2.2), ?_, ?_, nr, R.v (c2 21 (by decide) (by decide)) (c2 22 (by decide) (by decide)) (c2 27 (by decide) (by decide)) (fun j p q => ?_) RZk.rf, T.v (c2 18 (by decide) (by decide)) rfl, S.v ⟨(c2 41 (by decide) (by decide)).symm, fun j i hi => ?_⟩, h15, tw, m38, fun j hj => ?_⟩
  · unfold f_X8_image
    rw [if_neg (nI_pos (by omega)), if_pos (show nI k < 4 from nI_lt (a := k) (b := 4) hk (by decide)), if_pos (ib_n hk (by decide)), d1, bd_some, nI_clamp (show k < 2 ^ 31 by omega), r12]
  · unfold f_X9_image
    rw [e3, bd_some, if_pos (show 0 ≤ (nI k).toInt ∧ (nI k).toInt ≤ 3 by omega), if_neg (show ¬ (1 : Int32) = 0 by decide), if_pos (ib_n hk (by decide)), nI_clamp (show k < 2 ^ 31 by omega), c1, bd_some, show Int32.toNatClampNeg 4 = 4 from by decide]
    dsimp only
    rw [show (uF (uF (uF mo.2.1 50 (upd (mo.2.1 50) k (vp_nar .boolean 1))) 40 q40) 49 g : Nat → Nat → Int32) 1 4 = mo.2.1 1 4 from rfl, m14]
  · show uF (uF (uF mo.2.1 50 _) 40 _) 49 _ j = mo.2.1 j
    rw [uF_n (by omega), uF_n (by omega), uF_n (by omega)]
  · rcases vw_in hi with ⟨z, y⟩ | ⟨z, y⟩ | ⟨z, y⟩ | ⟨z, y⟩ | ⟨z, y⟩ | ⟨z, y⟩ | ⟨z, y⟩ | ⟨z, y⟩ | ⟨z, y⟩ | ⟨z, y⟩ | ⟨z, y⟩ | ⟨z, y⟩ <;> subst z <;> rfl
  · obtain ⟨i1, i2⟩ := I j hj
    by_cases z : j = k
    · subst z
      refine ⟨?_, fun _ => ?_⟩
      · show upd xg j (vp_nar .boolean 1) j = upd (mo.2.1 50) j (vp_nar .boolean 1) j
        rw [pk_us, pk_us]
      · rw [uF_s]
        exact d2
    · refine ⟨?_, fun y => ?_⟩
      · show upd xg k (vp_nar .boolean 1) j = upd (mo.2.1 50) k (vp_nar .boolean 1) j
        rw [pk_un z, pk_un z]
        exact i1
      · rw [pk_un z] at y
        rw [uF_n z]
        refine (i2 y).v ?_
        show VEQ (vmo (mo.2.1 49) j) (vmo g j)
        exact vmo_eq (fun i hi => (c4 (400 * j + i) (by omega)).trans rfl)
theorem g_image0 {sj : Nat → Int32} {rn ae nu : OB} {xmr : Nat → Option Nat} (h : ¬ (0 ≤ x1.toInt ∧ x1.toInt < 4)) : f_X8_image F x1 xi si rm ac nt xmr xg sj rn ae nu = some (-1, xg, sj, rn, ae, nu) ∧ f_X9_image F x1 mo = some (-1, mo) := by
  have e3 := in_c (F := F) (x := x1) (a := 0) (b := 3) (la := 0) (lb := 3) (by decide) (by decide)
  have y4 : (4 : Int32).toInt = 4 := by decide
  constructor
  · unfold f_X8_image b_X8_image_9
    refine ite_no (fun _ => rfl) (fun a0 => ite_no (fun a1 => absurd ?_ h) (fun _ => rfl))
    rw [sp_lt, sp0] at a0
    rw [sp_lt, y4] at a1
    exact ⟨by omega, a1⟩
  · unfold f_X9_image
    rw [e3, bd_some]
    refine ite_no (fun _ => rfl) (fun a0 => absurd ?_ h)
    have := one_of a0
    omega
theorem g_back {k : Nat} {xmr : Nat → Option Nat} (hk : k < 4) (hF : 1000 ≤ F) (G : GL xi tp si rm ac nt xg tm rz iz mo) : ∃ (r : Int32) (si2 : Nat → Int32) (rm2 ac2 nt2 w : OB), f_X8_back F (nI k) xi si rm ac nt xmr xg (iz k).1 (iz k).2.1 (iz k).2.2.1 (iz k).2.2.2 = some (r, si2, rm2, ac2, nt2) ∧ f_X9_back F (nI k) mo = some (r, w) ∧ GL xi tp si2 rm2 ac2 nt2 xg tm rz iz w := by
  obtain ⟨nr, R, T, S, h15, tw, m38, I⟩ := id G
  obtain ⟨i1, i2⟩ := I k hk
  have e3 := in_c (F := F) (x := nI k) (a := 0) (b := 3) (la := 0) (lb := 3) (by decide) (by decide)
  have k31 : (nI k).toInt = (k : Int) := nI_toInt (by omega)
  by_cases z : xg k = 0
  · refine ⟨-1, si, rm, ac, nt, mo, ?_, ?_, G⟩
    · unfold f_X8_back b_X8_back_18
      rw [if_neg (nI_pos (by omega)), if_neg (show ¬ (4 : Int32) ≤ nI k from nI_ge (a := k) (b := 4) hk (by decide)), if_pos (ib_n hk (by decide)), nI_clamp (show k < 2 ^ 31 by omega), if_pos z]
    · unfold f_X9_back b_X9_back_21
      rw [e3, bd_some, if_pos (show 0 ≤ (nI k).toInt ∧ (nI k).toInt ≤ 3 by omega), if_neg (show ¬ (1 : Int32) = 0 by decide), if_pos (ib_n hk (by decide)), nI_clamp (show k < 2 ^ 31 by omega), if_pos (i1.symm.trans z)]
  · obtain ⟨w, c1, c2, c3, c4, c5⟩ := s_carry1 (F := F) (mo := mo) hk (by omega)
    obtain ⟨s2, r2, a2, t2, d1, d2, d3, d4⟩ := (i2 z).cp (F := F) (si := si) (rm := rm) (ac := ac) (nt := nt) c3
    refine ⟨r2.1 12, s2, r2, a2, t2, w, ?_, ?_, nr, R.v (c2 21 (by decide) (by decide) (by decide)) (c2 22 (by decide) (by decide) (by decide)) (c2 27 (by decide) (by decide) (by decide)) (fun j p q => c4 j (Or.inr (by omega))) RZk.rf, T.v (c2 18 (by decide) (by decide) (by decide)) (c4 28 (Or.inr (by omega))), d2, d3, tw, fun i hi => by rw [c4 38 (Or.inr (by omega))]; exact m38 i hi, I.v (fun i _ => congrFun (c4 50 (Or.inr (by omega))) i) (fun i _ => congrFun (c4 49 (Or.inr (by omega))) i)⟩
    · unfold f_X8_back
      rw [if_neg (nI_pos (by omega)), if_neg (show ¬ (4 : Int32) ≤ nI k from nI_ge (a := k) (b := 4) hk (by decide)), if_pos (ib_n hk (by decide)), nI_clamp (show k < 2 ^ 31 by omega), if_neg z, d1, bd_some]
    · unfold f_X9_back
      rw [e3, bd_some, if_pos (show 0 ≤ (nI k).toInt ∧ (nI k).toInt ≤ 3 by omega), if_neg (show ¬ (1 : Int32) = 0 by decide), if_pos (ib_n hk (by decide)), nI_clamp (show k < 2 ^ 31 by omega), if_neg (show ¬ mo.2.1 50 k = 0 by rw [← i1]; exact z), c1, bd_some, show Int32.toNatClampNeg 4 = 4 from by decide, d4]
theorem g_back0 {sj : Nat → Int32} {rn ae nu : OB} {xmr : Nat → Option Nat} (h : ¬ (0 ≤ x1.toInt ∧ x1.toInt < 4)) : f_X8_back F x1 xi si rm ac nt xmr xg sj rn ae nu = some (-1, si, rm, ac, nt) ∧ f_X9_back F x1 mo = some (-1, mo) := by
  have e3 := in_c (F := F) (x := x1) (a := 0) (b := 3) (la := 0) (lb := 3) (by decide) (by decide)
  have y4 : (4 : Int32).toInt = 4 := by decide
  constructor
  · unfold f_X8_back b_X8_back_18
    refine ite_no (fun _ => rfl) (fun a0 => ite_no (fun _ => rfl) (fun a1 => absurd ?_ h))
    rw [sp_lt, sp0] at a0
    rw [sp_le, y4] at a1
    exact ⟨by omega, by omega⟩
  · unfold f_X9_back b_X9_back_21
    rw [e3, bd_some]
    refine ite_no (fun _ => rfl) (fun a0 => absurd ?_ h)
    have := one_of a0
    omega
end ST2
