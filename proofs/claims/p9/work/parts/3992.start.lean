/-! the link at the start -/
theorem HOK0 : HOK (fun _ => 0, fun _ _ => 0) := ⟨Nat.zero_le 1, Nat.zero_le 4, Nat.zero_le 8, Nat.zero_le 0, fun k hk => absurd hk (Nat.not_lt_zero _), fun k hk => absurd hk (Nat.not_lt_zero _), fun k hk => absurd hk (Nat.not_lt_zero _)⟩
theorem GL0 {xi si xg : Nat → Int32} {tp rm ac nt tm mo : OB} {rz : Nat → OB} {iz : Nat → IZ1} (x2 : xi 2 = 0) (t1 : tp.1 1 = 0) (t0 : tp.2.1 0 = mo.2.1 28) (s3 : si 3 = -1) (s4 : si 4 = 0) (r0 : rm.1 0 = 0) (r1 : rm.1 1 = 0) (r2 : rm.1 2 = 0) (r3 : rm.1 3 = 0) (r10 : rm.1 10 = 0) (r11 : rm.1 11 = 0) (r12 : rm.1 12 = 0) (r15 : rm.1 15 = 0) (q4 : ∀ i, rm.2.1 4 i = 0) (q9 : ∀ i, rm.2.1 9 i = 0) (a3 : ac.1 3 = 0) (a4 : ac.1 4 = 0) (n3 : nt.1 3 = 0) (g : ∀ i, xg i = 0) (w4 : ∀ i, tm.2.1 4 i = 0) (m10 : mo.2.1 1 0 = 0) (m11 : mo.2.1 1 1 = 0) (m12 : mo.2.1 1 2 = 0) (m13 : mo.2.1 1 3 = 0) (m14 : mo.2.1 1 4 = 0) (m15 : mo.2.1 1 5 = 0) (m16 : mo.2.1 1 6 = 0) (m17 : mo.2.1 1 7 = -1) (m28 : ∀ i, mo.2.1 28 i = 0) (m38 : ∀ i, i < 8 → mo.2.1 38 i = -1) (m50 : ∀ i, mo.2.1 50 i = 0) (c18 : mo.1 18 = 0) (c21 : mo.1 21 = 0) (c22 : mo.1 22 = 0) (c27 : mo.1 27 = 11) (c41 : mo.1 41 = 0) : GL xi tp si rm ac nt xg tm rz iz mo := by
  have no : ∀ {p : Prop} {k : Nat}, k < 0 → p := fun z => absurd z (Nat.not_lt_zero _)
  have cd : CDd (fun _ => 0, fun _ _ => 0) (fun _ => 0) 0 0 0 rm := ⟨⟨⟨r0, r1, r2, r3⟩, fun k hk => no hk, fun k hk => no hk, fun k hk => no hk⟩, ⟨r10, r11, r12⟩, fun k _ => q9 k, fun k hk => no hk⟩
  have md : MDd (fun _ => 0, fun _ _ => 0) (fun _ => 0) 0 0 0 mo := ⟨⟨⟨m10, m11, m12, m13⟩, fun k hk => no hk, fun k hk => no hk, fun k hk => no hk⟩, m14, fun k hk => no hk, fun k hk => no hk⟩
  have ak : AKd (fun _ => (0, 0, 0, fun _ => 0)) 0 ac := ⟨0, by decide, by decide, a3, a4, fun k hk => no hk⟩
  have pk : PKd (fun _ => 0, fun _ _ => 0) (fun _ => (0, 0, 0, fun _ => 0)) 0 mo := ⟨c41, by decide, fun k hk => no hk⟩
  have nd : NTd (fun _ => 0, fun _ _ => 0) (fun _ => (0, 0, 0)) 0 nt mo := ⟨by decide, n3, m15, fun k hk => no hk, fun k hk => no hk, fun k hk => no hk⟩
  have ok : OKD (fun _ => 0, fun _ _ => 0) (fun _ => 0) 0 0 0 (fun _ => (0, 0, 0, fun _ => 0)) 0 := ⟨HOK0, fun _ _ => Nat.zero_le _, BDd0 _, by decide, fun k hk => no hk⟩
  have st : STd 0 si rm ac nt mo := ⟨_, _, 0, 0, 0, _, 0, _, 0, 0, ok, ⟨cd, ak⟩, ⟨md, pk⟩, nd, m17.trans s3.symm, Or.inl s3, by decide, s4, m16, fun k _ => ⟨0, Nat.zero_le _, q4 k⟩⟩
  exact ⟨0, ⟨by decide, x2, c22, fun k hk => no hk, ⟨0, by decide, c21⟩, c27⟩, ⟨0, by decide, t1, c18, t0, fun i => by
    rw [m28 i]
    decide⟩, st, r15, fun k _ => ⟨0, Nat.zero_le _, w4 k⟩, m38, fun k _ => ⟨(g k).trans (m50 k).symm, fun z => absurd (g k) z⟩⟩
