/-! how it goes on: ahead, falls, by both -/
/-- a question by both: the same answer; what is scratch may be other -/
noncomputable def AskB (mo tm : OB) (rz : Nat → OB) (cl : Option (Int32 × OB × (Nat → OB))) (rr : Option (Int32 × OB)) : Prop := ∃ (r : Int32) (tm2 w : OB) (rz2 : Nat → OB), cl = some (r, tm2, rz2) ∧ rr = some (r, w) ∧ QKd mo w ∧ RZk rz rz2 ∧ (Rw (tm.2.1 4) 4 99 → Rw (tm2.2.1 4) 4 99)
theorem Rw.cp {tm t0 rm : OB} (h : Rw (rm.2.1 4) 4 99) (e : ∀ k, k < 4 → t0.2.1 4 k = rm.2.1 4 k) : Rw (t0.2.1 4) 4 99 := fun k hk => by
  rw [e k hk]
  exact h k hk
section AHD
variable {F : Nat} {h : HLd} {cn : Nat → Nat} {S D mi : Nat} {rm tm mo : OB} {rz : Nat → OB} {rl : Option Nat} {x e : Int32} {xi si : Nat → Int32} {xrr : Nat → Option Nat}
theorem AskB.no {r : Int32} {cl : Option (Int32 × OB × (Nat → OB))} {rr : Option (Int32 × OB)} (e1 : cl = some (r, tm, rz)) (e2 : rr = some (r, mo)) : AskB mo tm rz cl rr := ⟨r, tm, mo, rz, e1, e2, QKd.rf, RZk.rf, fun z => z⟩
/-- both begin to try from how it is -/
theorem try_b (H : HOK h) (C : CDd h cn S D mi rm) (M : MDd h cn S D mi mo) (hF : 600 ≤ F) : ∃ t0 w0, f_X3_copyFrom F tm rm = some t0 ∧ f_X9_keepsAll F mo = some w0 ∧ CDd h cn S D mi t0 ∧ t0.1 15 = 0 ∧ (∀ k, k < 4 → t0.2.1 4 k = rm.2.1 4 k) ∧ MDd h cn S D mi w0 ∧ BLK mo w0 ∧ SVd mo w0 := by
  obtain ⟨t0, a1, a2, a3, a4, a5⟩ := s_copyFrom (F := F) (rm := tm) H C
  obtain ⟨w0, b1, b2, b3, b4⟩ := try_r (F := F) M hF
  exact ⟨t0, w0, a1, b1, a2, a3, a5, b2, b3, b4⟩
theorem q_ahead {n y : Int32} (H : HOK h) (hc : ∀ k, k < 4 → cn k ≤ 99) (C : CDd h cn S D mi rm) (M : MDd h cn S D mi mo) (B : BDd (h.1 3) S D) (hF : 600 ≤ F) (hw : Rw (rm.2.1 4) 4 99) (hri : f_X8_ruleInForce F xi xrr si = some e) (hx : RLx rl e rz mo) (hf : FIn rl mo) (hm : Mus (h.1 3) 0 0 mo) : AskB mo tm rz (f_X8_ahead F x n y xi xrr si rm tm rz) (f_X9_ahead F x n y mo) := by
  have t01 := H.1
  have hq := H.q8
  have hcs : ∀ k, k < h.1 1 → cn k ≤ 99 := fun k hk => hc k (by have := H.2.1; omega)
  have e0 := r_isHall (F := F) H M.1
  have e3 := in_c (F := F) (x := y) (a := 0) (b := 2) (la := 0) (lb := 2) (by decide) (by decide)
  have e4 := in_c (F := F) (x := n) (a := 0) (b := 100) (la := 0) (lb := 100) (by decide) (by decide)
  have e5 := r_isSitter (F := F) (x := x) H M.1
  have e6 := c_hasSitter (F := F) (x := x) C.1.1.2.2.2 hq
  have y2 : (2 : Int32).toInt = 2 := by decide
  have y100 : (100 : Int32).toInt = 100 := by decide
  by_cases c : (h.1 0 = 1 ∧ 0 ≤ y.toInt ∧ y.toInt ≤ 2) ∧ (0 ≤ n.toInt ∧ n.toInt ≤ 100) ∧ (y.toInt = 2 ∨ inR x (h.1 3))
  · obtain ⟨⟨c1, c2, c3⟩, c4, c5⟩ := c
    obtain ⟨k, hk, rfl⟩ := ix_of (n := 101) (x := n) (by omega)
    obtain ⟨t0, w0, a1, a2, a3, a4, a5, a6, a7, a8⟩ := try_b (F := F) (tm := tm) H C M hF
    obtain ⟨t1, rz2, b1, b2, b3, b4⟩ := s_passN (F := F) (He := 0) (Hd := 0) (n := k) H hcs hF (by omega) B k 0 F t0 rz (by omega) (by omega) hx a3 (hld0 a4)
    obtain ⟨w1, d1, d2, d3⟩ := s_goN (F := F) (R := mo.2.1) (He := 0) (Hd := 0) (n := k) H hcs hF (by omega) B k 0 F w0 (by omega) (by omega) a6 (a8.f hf) (a8.m hm) (fun j p q => a8.2.1 j (by omega))
    have Bk := trj_bd (R := mo.2.1) (rl := rl) (He := 0) (Hd := 0) (cn := cn) (mi := mi) H B k
    have hD8 := l28 Bk.2.1 hq
    obtain ⟨w2, f1, f2, -, -⟩ := lays_q (F := F) hF (d3.blk a7) (KGd.go a8.go d3) (fun i hi => by rw [d3.2.1 38 (by decide) (by decide), a8.2.1 38 (by decide)])
    have b1 : f_X3_passMinutes F (nI k) e t0 rz = some (t1, rz2) := b1
    have d1 : f_X9_goFor F (nI k) w0 = some w1 := d1
    have rw4 : Rw (t1.2.1 4) 4 99 := fun j hj => by
      rw [b3.2.1 4 (by decide) (by decide)]
      exact (Rw.cp (tm := tm) hw a5) j hj
    have cA : f_X8_ahead F x (nI k) y xi xrr si rm tm rz = b_X8_ahead_54 F xi xrr si rm x (nI k) y tm rz := by
      unfold f_X8_ahead
      rw [C.1.1.1, c1, if_neg (show ¬ nI 1 = 0 by decide), if_neg (nI_pos (by omega)), if_neg (show ¬ (100 : Int32) < nI k from nI_nlt (a := 100) (b := k) (by omega) (by omega)), if_neg (fun z => by rw [sp_lt, sp0] at z; omega), if_pos (by rw [sp_le, y2]; omega)]
      by_cases z : y = 2
      · rw [if_pos z]
      · rw [if_neg z, e6, bd_some, if_pos (c5.resolve_left (fun w => z (by rw [sp_eq, y2]; exact w))), if_neg (show ¬ (1 : Int32) = 0 by decide)]
    have rA : f_X9_ahead F x (nI k) y mo = b_X9_ahead_32 F x (nI k) y mo := by
      unfold f_X9_ahead
      rw [e0, bd_some, if_pos c1, if_neg (show ¬ (1 : Int32) = 0 by decide), e3, bd_some, if_pos (show 0 ≤ y.toInt ∧ y.toInt ≤ 2 from ⟨c2, c3⟩), if_neg (show ¬ (1 : Int32) = 0 by decide)]
      by_cases z : 2 ≤ y
      · rw [if_pos z]
      · rw [if_neg z, e5, bd_some, if_pos (c5.resolve_left (fun w => z (by rw [sp_le, y2]; omega))), if_neg (show ¬ (1 : Int32) = 0 by decide)]
    rw [cA, rA]
    unfold b_X8_ahead_54 b_X8_ahead_114 b_X9_ahead_32 b_X9_ahead_89
    rw [a1, bd_some, hri, bd_some, b1, bd_some, e4, bd_some, if_pos (show 0 ≤ (nI k).toInt ∧ (nI k).toInt ≤ 100 from c4), if_neg (show ¬ (1 : Int32) = 0 by decide), a2, bd_some, d1, bd_some]
    dsimp only
    rcases x4 (y := y) (by omega) with z | z | z | z
    · subst z
      have c5 : inR x (h.1 3) := c5.resolve_left (by decide)
      obtain ⟨j, hj, rfl⟩ := ix_of c5
      rw [if_neg (show ¬ (0 : Int32) = 2 by decide), if_pos rfl, c_stateOf H b2 Bk, bd_some, if_pos c5, (nat_n rfl (show j < 2 ^ 31 by omega)).1, if_pos rfl, if_pos (ib_n (show j < 8 by omega) (by decide)), nI_clamp (show j < 2 ^ 31 by omega), d2.2.2.2 j hj, f1, bd_some]
      exact ⟨_, t1, w2, rz2, rfl, rfl, f2, b4, fun _ => rw4⟩
    · subst z
      have c5 : inR x (h.1 3) := c5.resolve_left (by decide)
      obtain ⟨j, hj, rfl⟩ := ix_of c5
      rw [if_neg (show ¬ (1 : Int32) = 2 by decide), if_neg (show ¬ (1 : Int32) = 0 by decide), c_gives H hcs b2 Bk, bd_some, if_pos c5, (nat_n rfl (show j < 2 ^ 31 by omega)).1, if_neg (show ¬ (1 : Int32) = 0 by decide), if_pos rfl, r_givesNow H hcs d2 Bk hj hF, bd_some, f1, bd_some]
      exact ⟨_, t1, w2, rz2, rfl, rfl, f2, b4, fun _ => rw4⟩
    · subst z
      rw [if_pos rfl, b2.2.1.2.1, s_bc hD8, bd_some, if_neg (show ¬ (2 : Int32) = 0 by decide), if_neg (show ¬ (2 : Int32) = 1 by decide), s_drpd H d2 Bk hF, bd_some, s_bits hD8 hF, bd_some, f1, bd_some]
      exact ⟨_, t1, w2, rz2, rfl, rfl, f2, b4, fun _ => rw4⟩
    · rw [z] at c3
      exact absurd c3 (by decide)
  · refine AskB.no (r := -1) ?_ ?_
    · unfold f_X8_ahead b_X8_ahead_36
      rw [C.1.1.1]
      by_cases d1 : h.1 0 = 1
      · rw [d1, if_neg (show ¬ nI 1 = 0 by decide)]
        by_cases d2 : n < 0
        · rw [if_pos d2]
        · rw [if_neg d2]
          by_cases d3 : 100 < n
          · rw [if_pos d3]
          · rw [if_neg d3]
            by_cases d4 : y < 0
            · rw [if_pos d4]
            · rw [if_neg d4]
              by_cases d5 : y ≤ 2
              · rw [if_pos d5]
                rw [sp_lt, sp0] at d2 d4
                rw [sp_lt, y100] at d3
                rw [sp_le, y2] at d5
                by_cases d6 : y = 2
                · exact absurd ⟨⟨d1, by omega, by omega⟩, ⟨by omega, by omega⟩, Or.inl (by rw [d6]; decide)⟩ c
                · rw [if_neg d6, e6, bd_some, if_neg (fun z => c ⟨⟨d1, by omega, by omega⟩, ⟨by omega, by omega⟩, Or.inr z⟩), if_pos rfl]
              · rw [if_neg d5]
      · rw [show h.1 0 = 0 by omega, if_pos (show nI 0 = 0 from rfl)]
    · unfold f_X9_ahead b_X9_ahead_32 b_X9_ahead_44
      rw [e0, bd_some]
      by_cases d1 : h.1 0 = 1
      · rw [if_pos d1, if_neg (show ¬ (1 : Int32) = 0 by decide), e3, bd_some]
        by_cases d2 : 0 ≤ y.toInt ∧ y.toInt ≤ 2
        · rw [if_pos d2, if_neg (show ¬ (1 : Int32) = 0 by decide), e4, bd_some]
          by_cases d3 : 0 ≤ n.toInt ∧ n.toInt ≤ 100
          · have d4 : ¬ (y.toInt = 2 ∨ inR x (h.1 3)) := fun z => c ⟨⟨d1, d2⟩, d3, z⟩
            rw [if_neg (show ¬ 2 ≤ y from fun z => d4 (Or.inl (by rw [sp_le, y2] at z; omega))), e5, bd_some, if_neg (fun z => d4 (Or.inr z)), if_pos rfl]
          · rw [if_neg d3, if_pos rfl]
            by_cases d4 : 2 ≤ y
            · rw [if_pos d4]
            · rw [if_neg d4, e5, bd_some]
              by_cases d5 : inR x (h.1 3)
              · rw [if_pos d5, if_neg (show ¬ (1 : Int32) = 0 by decide)]
              · rw [if_neg d5, if_pos rfl]
        · rw [if_neg d2, if_pos rfl]
      · rw [if_neg d1, if_pos rfl]
end AHD
