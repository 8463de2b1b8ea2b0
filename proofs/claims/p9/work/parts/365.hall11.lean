/-! the hall, pure: hall by both -/
section HAA
variable {F : Nat}
theorem ra_zero {mo : OB} : ∀ (r g k : Nat) (ns : Nat → Int32), k + r = 4 → r < g → (∀ j, j < k → ns j = 0) → ∃ ns2, (∀ j, j < 4 → ns2 j = 0) ∧ lp (b_X9_readsAll_6 F) g (nI k, (mo.1, uF mo.2.1 12 ns, mo.2.2)) = lp (b_X9_readsAll_28 F) F (0, 1, (mo.1, uF mo.2.1 12 ns2, mo.2.2))
  | 0, g, k, ns, h1, h2, h3 => by
    obtain ⟨g, rfl⟩ : ∃ g', g = g' + 1 := ⟨g - 1, by omega⟩
    refine ⟨ns, fun j hj => h3 j (by omega), ?_⟩
    rw [lp_S, b_X9_readsAll_6]
    dsimp only
    rw [if_pos (show (4 : Int32) ≤ nI k from nI_le (a := 4) (b := k) (by omega) (by omega))]
  | r + 1, g, k, ns, h1, h2, h3 => by
    obtain ⟨g, rfl⟩ : ∃ g', g = g' + 1 := ⟨g - 1, by omega⟩
    rw [lp_S, b_X9_readsAll_6]
    dsimp only
    rw [if_neg (show ¬ (4 : Int32) ≤ nI k from nI_ge (a := k) (b := 4) (by omega) (by omega)), if_pos (ib_n (show k < 4 by omega) (by decide)), nI_1, nI_clamp (by omega), show (uF mo.2.1 12 ns) 12 = ns from rfl, uF_uF]
    exact ra_zero r g (k + 1) _ (by omega) (by omega) (fun j hj => by
      by_cases e : j = k
      · rw [e, pk_us]
      · rw [pk_un e]
        exact h3 j (by omega))
/-- what one room takes from another -/
noncomputable def cpR (rm rn : OB) : OB := ((uF (uF (uF (uF (uF (uF (uF (uF rm.1 0 (rn.1 0)) 1 (rn.1 1)) 2 (rn.1 2)) 3 (rn.1 3)) 10 (rn.1 10)) 11 (rn.1 11)) 12 (rn.1 12)) 15 0), (uF (uF (uF (uF (uF (uF (uF (uF rm.2.1 4 (va_cpy (rn.2.1 4) (rm.2.1 4) 0 0 4)) 5 (va_cpy (rn.2.1 5) (rm.2.1 5) 0 0 8)) 6 (va_cpy (rn.2.1 6) (rm.2.1 6) 0 0 8)) 7 (va_cpy (rn.2.1 7) (rm.2.1 7) 0 0 8)) 8 (va_cpy (rn.2.1 8) (rm.2.1 8) 0 0 8)) 9 (va_cpy (rn.2.1 9) (rm.2.1 9) 0 0 4)) 13 (va_cpy (rn.2.1 13) (rm.2.1 13) 0 0 4)) 14 (va_cpy (rn.2.1 14) (rm.2.1 14) 0 0 4)), rm.2.2)
theorem s_copyFrom {h : HLd} {cn : Nat → Nat} {S D mi : Nat} {rm rn : OB} (H : HOK h) (C : CDd h cn S D mi rn) : ∃ rm2, f_X3_copyFrom F rm rn = some rm2 ∧ CDd h cn S D mi rm2 ∧ rm2.1 15 = 0 ∧ rm2.1 16 = rm.1 16 ∧ ∀ k, k < 4 → rm2.2.1 4 k = rn.2.1 4 k := by
  obtain ⟨⟨⟨k0, k1, k2, k3⟩, K4, K5, K6⟩, ⟨c1, c2, c3⟩, C4, C5⟩ := C
  have h4 := H.2.1
  have h8 := H.2.2.1
  have hq := H.q8
  have cp : ∀ {f g : Nat → Int32} {n k : Nat}, k < n → va_cpy f g 0 0 n k = f k := fun hk => by
    rw [pk_cpy_in (Nat.zero_le _) (by omega), Nat.sub_zero, Nat.zero_add]
  have hb : bo (rn.1 0) := by
    rw [k0]
    rcases (show h.1 0 = 0 ∨ h.1 0 = 1 by have := H.1; omega) with z | z
    · rw [z]
      exact Or.inl rfl
    · rw [z]
      exact Or.inr rfl
  refine ⟨cpR rm rn, (if_pos hb : f_X3_copyFrom F rm rn = some (cpR rm rn)), ⟨⟨⟨k0, k1, k2, k3⟩, fun k hk => ?_, fun k hk => ⟨?_, ?_⟩, fun k hk => ⟨?_, ?_⟩⟩, ⟨c1, c2, c3⟩, fun k hk => ?_, fun s hs => ⟨?_, ?_⟩⟩, rfl, rfl, fun k hk => ?_⟩
  · exact (cp (n := 4) (by omega)).trans (K4 k hk)
  · exact (cp (n := 8) (by omega)).trans (K5 k hk).1
  · exact (cp (n := 8) (by omega)).trans (K5 k hk).2
  · exact (cp (n := 8) (by omega)).trans (K6 k hk).1
  · exact (cp (n := 8) (by omega)).trans (K6 k hk).2
  · exact (cp (n := 4) hk).trans (C4 k hk)
  · exact (cp (n := 4) (by omega)).trans (C5 s hs).1
  · exact (cp (n := 4) (by omega)).trans (C5 s hs).2
  · exact cp (n := 4) hk
/-- the reference's end of hall, when the text was taken -/
theorem hall_end {mo : OB} {h : HLd} {cn : Nat → Nat} (H : HOK h) (hn : NKd h (mo.2.1 12) (mo.2.1 13) (mo.2.1 14) (mo.2.1 15) (mo.2.1 16) (mo.2.1 17)) (hcn : ∀ k, k < h.1 1 → cn k = h.2 4 k) (hF : 600 ≤ F) : ∃ mo2, lp (b_X9_hall_21 F) F (0, mo) = some (nI (h.1 3), mo2) ∧ MDd h cn 0 0 0 mo2 ∧ mo2.1 = uF mo.1 41 0 ∧ (∀ j, 12 ≤ j → mo2.2.1 j = mo.2.1 j) ∧ (∀ j, 8 ≤ j → j < 11 → mo2.2.1 j = mo.2.1 j) ∧ mo2.2.1 1 5 = 0 ∧ (∀ j, 6 ≤ j → mo2.2.1 1 j = mo.2.1 1 j) ∧ mo2.2.2 = mo.2.2 := by
  obtain ⟨sc2, a1, a2, g2, a3⟩ := sc_loop (F := F) (mo := mo) 4 F 0 (mo.2.1 1) (by omega) (by omega) (fun j hj => absurd hj (Nat.not_lt_zero _)) (fun j hj => rfl)
  rw [uF_id] at a3
  obtain ⟨q2, b1, b2⟩ := s_copies (F := F) (n := 4) (fr := mo.2.1 13) (gr := mo.2.1 11) (by decide) hF
  obtain ⟨q3, c1, c2⟩ := s_copies (F := F) (n := 8) (fr := mo.2.1 14) (gr := mo.2.1 6) (by decide) hF
  obtain ⟨q4, d1, d2⟩ := s_copies (F := F) (n := 8) (fr := mo.2.1 15) (gr := mo.2.1 4) (by decide) hF
  obtain ⟨q5, e1, e2⟩ := s_copies (F := F) (n := 8) (fr := mo.2.1 16) (gr := mo.2.1 7) (by decide) hF
  obtain ⟨q6, f1, f2⟩ := s_copies (F := F) (n := 8) (fr := mo.2.1 17) (gr := mo.2.1 5) (by decide) hF
  obtain ⟨ca2, is2, g1, g3, g4⟩ := s_begins (F := F) (mo := (mo.1, (uF (uF (uF (uF (uF (uF (uF mo.2.1 1 sc2) 1 (upd sc2 5 0)) 4 q4) 5 q6) 6 q3) 7 q5) 11 q2), mo.2.2)) hF
  obtain ⟨⟨n0, n1, n2, n3⟩, N4, N5, N6⟩ := hn
  have h4 := H.2.1
  have h8 := H.2.2.1
  have hq := H.q8
  have hsc : ∀ j, j ≠ 4 → j ≠ 5 → (upd (upd sc2 5 0) 4 0) j = sc2 j := fun j h1 h2 => by
    rw [pk_un h1, pk_un h2]
  refine ⟨(uF (mbg (mo.1, (uF (uF (uF (uF (uF (uF (uF mo.2.1 1 sc2) 1 (upd sc2 5 0)) 4 q4) 5 q6) 6 q3) 7 q5) 11 q2), mo.2.2) (upd (upd sc2 5 0) 4 0) ca2 is2).1 41 0, (mbg (mo.1, (uF (uF (uF (uF (uF (uF (uF mo.2.1 1 sc2) 1 (upd sc2 5 0)) 4 q4) 5 q6) 6 q3) 7 q5) 11 q2), mo.2.2) (upd (upd sc2 5 0) 4 0) ca2 is2).2.1, (mbg (mo.1, (uF (uF (uF (uF (uF (uF (uF mo.2.1 1 sc2) 1 (upd sc2 5 0)) 4 q4) 5 q6) 6 q3) 7 q5) 11 q2), mo.2.2) (upd (upd sc2 5 0) 4 0) ca2 is2).2.2), ?_, ⟨⟨⟨?_, ?_, ?_, ?_⟩, fun k hk => ?_, fun k hk => ⟨?_, ?_⟩, fun k hk => ⟨?_, ?_⟩⟩, ?_, fun k hk => ?_, fun k hk => ?_⟩, ?_, fun j hj => ?_, fun j h1 h2 => ?_, ?_, fun j hj => ?_, ?_⟩
  rotate_left 1
  all_goals try rfl
  · exact (hsc 0 (by decide) (by decide)).trans ((a1 0 (by decide)).trans n0)
  · exact (hsc 1 (by decide) (by decide)).trans ((a1 1 (by decide)).trans n1)
  · exact (hsc 2 (by decide) (by decide)).trans ((a1 2 (by decide)).trans n2)
  · exact (hsc 3 (by decide) (by decide)).trans ((a1 3 (by decide)).trans n3)
  · exact (b2 k (by omega)).trans (N4 k hk)
  · exact (c2 k (by omega)).trans (N5 k hk).1
  · exact (d2 k (by omega)).trans (N5 k hk).2
  · exact (e2 k (by omega)).trans (N6 k hk).1
  · exact (f2 k (by omega)).trans (N6 k hk).2
  · exact (g3 k (by omega)).trans ((b2 k (by omega)).trans ((N4 k hk).trans (by rw [hcn k hk])))
  · rw [show stt 0 0 k = 0 from by unfold stt; rw [if_neg (bS_0 k), if_neg (bS_0 k)]]
    exact g4 k (by omega)
  · show (uF (uF (uF (uF (uF (uF (uF (uF (uF (uF mo.2.1 1 sc2) 1 (upd sc2 5 0)) 4 q4) 5 q6) 6 q3) 7 q5) 11 q2) 1 _) 2 ca2) 3 is2) j = mo.2.1 j
    rw [uF_n (by omega), uF_n (by omega), uF_n (by omega), uF_n (by omega), uF_n (by omega), uF_n (by omega), uF_n (by omega), uF_n (by omega), uF_n (by omega), uF_n (by omega)]
  · show (uF (uF (uF (uF (uF (uF (uF (uF (uF (uF mo.2.1 1 sc2) 1 (upd sc2 5 0)) 4 q4) 5 q6) 6 q3) 7 q5) 11 q2) 1 _) 2 ca2) 3 is2) j = mo.2.1 j
    rw [uF_n (by omega), uF_n (by omega), uF_n (by omega), uF_n (by omega), uF_n (by omega), uF_n (by omega), uF_n (by omega), uF_n (by omega), uF_n (by omega), uF_n (by omega)]
  · exact (hsc j (by omega) (by omega)).trans (a2 j (by omega))
  · rw [show ((0 : Int32), mo) = (nI 0, (mo.1, mo.2.1, mo.2.2)) from rfl, a3, lp_S, b_X9_hall_21]
    dsimp only
    rw [if_pos (show (4 : Int32) ≤ nI 4 from nI_le (a := 4) (b := 4) (Nat.le_refl _) (by decide)), show (uF mo.2.1 1 sc2) 13 = mo.2.1 13 from rfl, show (uF mo.2.1 1 sc2) 11 = mo.2.1 11 from rfl, b1, bd_some, show (uF mo.2.1 1 sc2) 14 = mo.2.1 14 from rfl, show (uF mo.2.1 1 sc2) 6 = mo.2.1 6 from rfl, c1, bd_some, show (uF mo.2.1 1 sc2) 15 = mo.2.1 15 from rfl, show (uF mo.2.1 1 sc2) 4 = mo.2.1 4 from rfl, d1, bd_some, show (uF mo.2.1 1 sc2) 16 = mo.2.1 16 from rfl, show (uF mo.2.1 1 sc2) 7 = mo.2.1 7 from rfl, e1, bd_some, show (uF mo.2.1 1 sc2) 17 = mo.2.1 17 from rfl, show (uF mo.2.1 1 sc2) 5 = mo.2.1 5 from rfl, f1, bd_some, show (uF mo.2.1 1 sc2) 1 = sc2 from rfl, show Int32.toNatClampNeg 5 = 5 from by decide, g1, bd_some]
    refine congrArg some (Prod.ext ?_ rfl)
    show (upd (upd sc2 5 0) 4 0) (Int32.toNatClampNeg 3) = nI (h.1 3)
    rw [show Int32.toNatClampNeg 3 = 3 from by decide]
    exact (hsc 3 (by decide) (by decide)).trans ((a1 3 (by decide)).trans n3)
end HAA
