/-! whether all notes are so: by both -/
noncomputable def aln (P : Nat → Bool) : Nat → Nat → Bool
  | 0, _ => true
  | r + 1, k => if P k = true then aln P r (k + 1) else false
theorem aln_iff {P : Nat → Bool} : ∀ r k, aln P r k = true ↔ ∀ j, k ≤ j → j < k + r → P j = true
  | 0, k => ⟨fun _ j h1 h2 => absurd h1 (by omega), fun _ => rfl⟩
  | r + 1, k => by
    show (if P k = true then aln P r (k + 1) else false) = true ↔ _
    by_cases e : P k = true
    · rw [if_pos e, aln_iff r (k + 1)]
      constructor
      · intro z j h1 h2
        by_cases y : j = k
        · rw [y]
          exact e
        · exact z j (by omega) (by omega)
      · intro z j h1 h2
        exact z j (by omega) (by omega)
    · rw [if_neg e]
      exact ⟨fun z => absurd z (by decide), fun z => absurd (z k (Nat.le_refl _) (by omega)) e⟩
theorem lp_al {α β : Type} {body : (α → Option β) → α → Option β} {st : Nat → α} {q : Nat} {P : Nat → Bool} {y n : β} (hs : ∀ kk k, k < q → body kk (st k) = if P k = true then kk (st (k + 1)) else some n) (he : ∀ kk, body kk (st q) = some y) : ∀ (r g k : Nat), k + r = q → r < g → lp body g (st k) = some (if aln P r k = true then y else n)
  | 0, g, k, h1, h2 => by
    obtain ⟨g, rfl⟩ : ∃ g', g = g' + 1 := ⟨g - 1, by omega⟩
    rw [lp_S, show k = q by omega, he]
    rfl
  | r + 1, g, k, h1, h2 => by
    obtain ⟨g, rfl⟩ : ∃ g', g = g' + 1 := ⟨g - 1, by omega⟩
    rw [lp_S, hs _ k (by omega)]
    by_cases e : P k = true
    · have ea : aln P (r + 1) k = aln P r (k + 1) := if_pos e
      rw [if_pos e, ea]
      exact lp_al hs he r g (k + 1) (by omega) (by omega)
    · have ea : aln P (r + 1) k = false := if_neg e
      rw [if_neg e, ea]
      rfl
/-- a note is so in a state -/
noncomputable def ntP (nm : Nat → Nat × Nat × Nat) (S D j : Nat) : Bool := decide (stt S D (nm j).2.1 = (nm j).2.2)
noncomputable def agP (nm : Nat → Nat × Nat × Nat) (n S D j : Nat) : Bool := decide ((nm j).1 = n → stt S D (nm j).2.1 = (nm j).2.2)
/-- all notes are so in a run of minutes -/
noncomputable def ntH (nm : Nat → Nat × Nat × Nat) (nn : Nat) (t : Nat → Nat × Nat) : Bool := aln (fun j => ntP nm (t (nm j).1).1 (t (nm j).1).2 j) nn 0
theorem nt_all {nm : Nat → Nat × Nat × Nat} {nn L : Nat} {t : Nat → Nat × Nat} (hL : ∀ j, j < nn → (nm j).1 < L) : aln (fun n => aln (agP nm n (t n).1 (t n).2) nn 0) L 0 = ntH nm nn t := by
  apply Bool.eq_iff_iff.mpr
  unfold ntH
  rw [aln_iff, aln_iff]
  constructor
  · intro z j _ hj
    have hj2 : j < nn := by omega
    have u := z (nm j).1 (Nat.zero_le _) (by have := hL j hj2; omega)
    have u := (aln_iff nn 0).mp u j (Nat.zero_le _) hj
    have u := of_decide_eq_true u
    exact decide_eq_true (u rfl)
  · intro z n _ hn
    refine (aln_iff nn 0).mpr (fun j _ hj => ?_)
    have u := of_decide_eq_true (z j (Nat.zero_le _) hj)
    exact decide_eq_true (fun e => by
      rw [← e]
      exact u)
/-- the number behind the last minute that was noted -/
noncomputable def lmN (nm : Nat → Nat × Nat × Nat) : Nat → Nat
  | 0 => 0
  | n + 1 => if lmN nm n < (nm n).1 + 1 then (nm n).1 + 1 else lmN nm n
theorem lmN_b {nm : Nat → Nat × Nat × Nat} : ∀ n, (∀ j, j < n → (nm j).1 ≤ 60) → lmN nm n ≤ 61 ∧ ∀ j, j < n → (nm j).1 < lmN nm n
  | 0, _ => ⟨Nat.zero_le 61, fun j hj => absurd hj (Nat.not_lt_zero _)⟩
  | n + 1, h => by
    obtain ⟨a1, a2⟩ := lmN_b n (fun j hj => h j (by omega))
    have b := h n (by omega)
    show (if lmN nm n < (nm n).1 + 1 then (nm n).1 + 1 else lmN nm n) ≤ 61 ∧ ∀ j, j < n + 1 → (nm j).1 < (if lmN nm n < (nm n).1 + 1 then (nm n).1 + 1 else lmN nm n)
    by_cases e : lmN nm n < (nm n).1 + 1
    · rw [if_pos e]
      refine ⟨by omega, fun j hj => ?_⟩
      by_cases z : j = n
      · rw [z]
        omega
      · have := a2 j (by omega)
        omega
    · rw [if_neg e]
      refine ⟨a1, fun j hj => ?_⟩
      by_cases z : j = n
      · rw [z]
        omega
      · exact a2 j (by omega)
theorem m1_lt {a b : Nat} (ha : a < 2 ^ 30) (hb : b < 2 ^ 30) : nI a + (-1) < nI b ↔ a ≤ b := by
  cases a with
  | zero =>
    constructor
    · intro _
      exact Nat.zero_le _
    · intro _
      rw [sp_lt, nI_toInt (by omega)]
      have : (nI 0 + (-1)).toInt = -1 := by decide
      omega
  | succ a =>
    rw [pk_m1]
    constructor
    · intro z
      by_cases y : a + 1 ≤ b
      · exact y
      · exact absurd z (nI_nlt (by omega) (by omega))
    · intro z
      exact nI_lt (by omega) (by omega)
section NTS
variable {F : Nat} {h : HLd} {cn : Nat → Nat} {S D mi : Nat} {rm tm mo nt : OB} {rz : Nat → OB} {rl : Option Nat} {x e : Int32} {xi si : Nat → Int32} {xrr : Nat → Option Nat} {nm : Nat → Nat × Nat × Nat} {nn : Nat}
theorem c_last (N : NTd h nm nn nt mo) (hF : 600 ≤ F) : f_X2_lastMinute F nt = some (nI (lmN nm nn) + (-1)) := by
  obtain ⟨n1, n2, n3, n4, n5, n6⟩ := N
  unfold f_X2_lastMinute
  have e0 : ((-1 : Int32), (0 : Int32)) = (nI (lmN nm 0) + (-1), nI 0) := Prod.ext (show (-1 : Int32) = nI 0 + (-1) from by decide) rfl
  rw [e0]
  refine lp_for (st := fun k => (nI (lmN nm k) + (-1), nI k)) (q := nn) (fun kk k hk => ?_) (fun kk => ?_) nn F 0 (by omega) (by omega)
  · have hb := (lmN_b (nm := nm) k (fun j hj => (n4 j (by omega)).1)).1
    have h6 := (n4 k hk).1
    have hk4 := (n5 k hk).1
    unfold b_X2_lastMinute_4
    dsimp only
    rw [n2, if_neg (nI_ge hk (by omega)), if_pos (ib_n (show k < 10 by omega) (by decide)), nI_clamp (show k < 2 ^ 31 by omega), hk4, nI_1]
    have el : lmN nm (k + 1) = if lmN nm k < (nm k).1 + 1 then (nm k).1 + 1 else lmN nm k := rfl
    by_cases z : lmN nm k ≤ (nm k).1
    · rw [if_pos ((m1_lt (by omega) (by omega)).mpr z), el, if_pos (show lmN nm k < (nm k).1 + 1 by omega), pk_m1]
    · rw [if_neg (show ¬ nI (lmN nm k) + (-1) < nI (nm k).1 from fun y => z ((m1_lt (by omega) (by omega)).mp y)), el, if_neg (show ¬ lmN nm k < (nm k).1 + 1 by omega)]
  · unfold b_X2_lastMinute_4
    dsimp only
    rw [n2, if_pos (nI_le (Nat.le_refl _) (by omega))]
theorem c_agree {n : Nat} {h2 : HLd} (H : HOK h2) (e3 : h2.1 3 = h.1 3) (C : CDd h2 cn S D mi rm) (B : BDd (h2.1 3) S D) (N : NTd h nm nn nt mo) (hn : n ≤ 61) (hF : 600 ≤ F) : f_X2_agree F (nI n) nt rm = some (if aln (agP nm n S D) nn 0 = true then 1 else 0) := by
  obtain ⟨n1, n2, n3, n4, n5, n6⟩ := N
  unfold f_X2_agree
  refine lp_al (st := fun k => (nI n, nI k)) (q := nn) (P := agP nm n S D) (fun kk k hk => ?_) (fun kk => ?_) nn F 0 (by omega) (by omega)
  · obtain ⟨b1, b2, b3⟩ := n4 k hk
    obtain ⟨c1, c2, c3⟩ := n5 k hk
    have hl := stt_lt S D (nm k).2.1
    unfold b_X2_agree_2 b_X2_agree_41 agP
    dsimp only
    rw [n2, if_neg (nI_ge hk (by omega)), if_pos (ib_n (show k < 10 by omega) (by decide)), nI_clamp (show k < 2 ^ 31 by omega), c1, c2, c3, st_c H C B (by omega), bd_some, nI_1]
    by_cases y : (nm k).1 = n
    · rw [if_pos (show nI (nm k).1 = nI n by rw [y])]
      by_cases z : stt S D (nm k).2.1 = (nm k).2.2
      · rw [if_pos (show nI (stt S D (nm k).2.1) = nI (nm k).2.2 by rw [z]), if_pos (decide_eq_true (fun _ => z))]
      · rw [if_neg (show ¬ nI (stt S D (nm k).2.1) = nI (nm k).2.2 from fun u => z ((nI_eq (by omega) (by omega)).mp u)), if_neg (show ¬ decide ((nm k).1 = n → stt S D (nm k).2.1 = (nm k).2.2) = true from fun u => z (of_decide_eq_true u y))]
    · rw [if_neg (show ¬ nI (nm k).1 = nI n from fun u => y ((nI_eq (by omega) (by omega)).mp u)), if_pos (decide_eq_true (fun u => absurd u y))]
  · unfold b_X2_agree_2
    dsimp only
    rw [n2, if_pos (nI_le (Nat.le_refl _) (by omega))]
/-- the class's run of minutes -/
theorem nh_loop {L : Nat} {h2 : HLd} (H : HOK h2) (e3 : h2.1 3 = h.1 3) (hc : ∀ k, k < h2.1 1 → cn k ≤ 99) (B : BDd (h2.1 3) S D) (N : NTd h nm nn nt mo) (hL : L ≤ 61) (hF : 600 ≤ F) : ∀ (r n g : Nat) (tm : OB) (rz : Nat → OB), n + r = L → r < g → RLx rl e rz mo → CDd h2 cn (trj mo.2.1 rl 0 0 h2 cn S D mi n).1 (trj mo.2.1 rl 0 0 h2 cn S D mi n).2 (mi + n) tm → Hld 0 0 tm → ∃ tm2 rz2, lp (b_X8_notesHold_60 F xi si rm nt) g (e, nI L + (-1), nI n, tm, rz) = some (if aln (fun n => aln (agP nm n (trj mo.2.1 rl 0 0 h2 cn S D mi n).1 (trj mo.2.1 rl 0 0 h2 cn S D mi n).2) nn 0) r n = true then 1 else 0, tm2, rz2) ∧ KRd tm tm2 ∧ RZk rz rz2
  | 0, n, g, tm, rz, h1, h2', hx, C, L0 => by
    obtain ⟨g, rfl⟩ : ∃ g', g = g' + 1 := ⟨g - 1, by omega⟩
    refine ⟨tm, rz, ?_, KRd.rf, RZk.rf⟩
    rw [lp_S, b_X8_notesHold_60]
    dsimp only
    rw [if_pos ((m1_lt (a := L) (b := n) (by omega) (by omega)).mpr (by omega))]
    rfl
  | r + 1, n, g, tm, rz, h1, h2', hx, C, L0 => by
    obtain ⟨g, rfl⟩ : ∃ g', g = g' + 1 := ⟨g - 1, by omega⟩
    have Bn := trj_bd (R := mo.2.1) (rl := rl) (He := 0) (Hd := 0) (cn := cn) (mi := mi) H B n
    have ea : aln (fun n => aln (agP nm n (trj mo.2.1 rl 0 0 h2 cn S D mi n).1 (trj mo.2.1 rl 0 0 h2 cn S D mi n).2) nn 0) (r + 1) n = if aln (agP nm n (trj mo.2.1 rl 0 0 h2 cn S D mi n).1 (trj mo.2.1 rl 0 0 h2 cn S D mi n).2) nn 0 = true then aln (fun n => aln (agP nm n (trj mo.2.1 rl 0 0 h2 cn S D mi n).1 (trj mo.2.1 rl 0 0 h2 cn S D mi n).2) nn 0) r (n + 1) else false := rfl
    have hag := c_agree (F := F) (n := n) H e3 C Bn N (by omega) hF
    by_cases a : aln (agP nm n (trj mo.2.1 rl 0 0 h2 cn S D mi n).1 (trj mo.2.1 rl 0 0 h2 cn S D mi n).2) nn 0 = true
    · obtain ⟨t2, rz2, e1, e2, e4, e5⟩ := pass1 (F := F) (k := n) H hc hF hx B C L0
      obtain ⟨t3, rz3, f1, f2, f3⟩ := nh_loop H e3 hc B N hL hF r (n + 1) g t2 rz2 (by omega) (by omega) (hx.kz e5) e2 (L0.kr e4)
      refine ⟨t3, rz3, ?_, e4.tr f2, e5.tr f3⟩
      rw [lp_S, b_X8_notesHold_60]
      dsimp only
      rw [if_neg (show ¬ nI L + (-1) < nI n from fun z => by have := (m1_lt (by omega) (by omega)).mp z; omega), hag, bd_some, if_pos a, if_neg (show ¬ (1 : Int32) = 0 by decide), e1, bd_some, nI_1, ea, if_pos a]
      exact f1
    · refine ⟨tm, rz, ?_, KRd.rf, RZk.rf⟩
      rw [lp_S, b_X8_notesHold_60]
      dsimp only
      rw [if_neg (show ¬ nI L + (-1) < nI n from fun z => by have := (m1_lt (by omega) (by omega)).mp z; omega), hag, bd_some, if_neg a, if_pos rfl, ea, if_neg a]
      rfl
/-! the begin anew -/
noncomputable def tcn (rm : OB) (k : Nat) : Nat := nat_ (rm.2.1 4 k)
theorem tcn_n {k : Nat} (hw : Rw (rm.2.1 4) 4 99) (hk : k < 4) : tcn rm k ≤ 99 ∧ rm.2.1 4 k = nI (tcn rm k) := by
  obtain ⟨v, u1, u2⟩ := hw k hk
  obtain ⟨w1, w2⟩ := nat_n u2 (by omega)
  unfold tcn
  exact ⟨by omega, w2⟩
theorem tcn_t {k : Nat} (H : HOK h) (K : HKd h rm) (hk : k < h.1 1) : tcn rm k = h.2 4 k := (nat_n (K.2.1 k hk) (by have := H.2.2.2.2.1 k hk; omega)).1
theorem c_anew (H : HOK h) (C : CDd h cn S D mi rm) (hw : Rw (rm.2.1 4) 4 99) (hF : 600 ≤ F) : ∃ t, f_X8_beginAnew F xi si rm tm = some t ∧ CDd h (tcn rm) 0 0 0 t ∧ Hld 0 0 t ∧ Rw (t.2.1 4) 4 99 := by
  obtain ⟨t0, a1, a2, a3, a4, a5⟩ := s_copyFrom (F := F) (rm := tm) H C
  have K : HKd h ((uF (uF (uF (uF t0.1 10 0) 11 0) 12 0) 15 0), (uF t0.2.1 9 (va_cpy (t0.2.1 4) (t0.2.1 9) 0 0 4)), t0.2.2) := a2.1
  obtain ⟨l2, e2, g1, g2⟩ := s_weigh (F := F) (S := 0) H K rfl (by decide) hF
  refine ⟨rmw ((uF (uF (uF (uF t0.1 10 0) 11 0) 12 0) 15 0), (uF t0.2.1 9 (va_cpy (t0.2.1 4) (t0.2.1 9) 0 0 4)), t0.2.2) l2 e2, ?_, ⟨K, ⟨rfl, rfl, rfl⟩, fun k hk => ?_, g2⟩, ⟨rfl, by decide, by decide, fun j z => absurd z (bS_0 j)⟩, Rw.cp (rm := rm) (tm := tm) hw a5⟩
  · unfold f_X8_beginAnew f_X3_restart
    rw [a1, bd_some, g1, bd_some, bd_some]
  · show va_cpy (t0.2.1 4) (t0.2.1 9) 0 0 4 k = _
    rw [pk_cpy_in (Nat.zero_le _) (by omega), Nat.sub_zero, Nat.zero_add, a5 k hk]
    exact (tcn_n hw hk).2
/-- a hall in which a chair is on another strand -/
noncomputable def ovS (h : HLd) (c s : Nat) : HLd := (h.1, fun j i => if j = 6 ∧ i = c then s else h.2 j i)
theorem ov_ok {c s : Nat} (H : HOK h) (hs : s < h.1 1) : HOK (ovS h c s) := by
  obtain ⟨a0, a1, a2, a3, a4, a5, a6⟩ := H
  refine ⟨a0, a1, a2, a3, a4, fun k hk => ⟨(a5 k hk).1, (a5 k hk).2.1, ?_⟩, a6⟩
  show (if 6 = 6 ∧ k = c then s else h.2 6 k) < h.1 1
  by_cases e : k = c
  · rw [if_pos (show 6 = 6 ∧ k = c from ⟨rfl, e⟩)]
    exact hs
  · rw [if_neg (show ¬ (6 = 6 ∧ k = c) from fun z => e z.2)]
    exact (a5 k hk).2.2
theorem ld_0 (h : HLd) (s : Nat) : ldS h 0 s = 0 ∧ hdS h 0 s = 0 := by
  have z : ∀ n, sumB n (ldT h 0 s) = 0 ∧ sumB n (hdT h 0 s) = 0 := fun n => by
    induction n with
    | zero => exact ⟨rfl, rfl⟩
    | succ n ih =>
      rw [sumB_S, sumB_S, ih.1, ih.2]
      unfold ldT hdT
      rw [if_neg (show ¬ (bS 0 n ∧ sq_ h n = s) from fun z => bS_0 n z.1), if_neg (show ¬ (bS 0 n ∧ sq_ h n = s) from fun z => bS_0 n z.1)]
      exact ⟨rfl, rfl⟩
  exact z (h.1 3)
theorem CDd.ov {c s m : Nat} {t : OB} (C : CDd h cn 0 0 m t) : CDd (ovS h c s) cn 0 0 m (t.1, uF t.2.1 6 (upd (t.2.1 6) c (nI s)), t.2.2) := by
  obtain ⟨⟨a0, a1, a2, a3⟩, b1, b2, b3⟩ := C
  refine ⟨⟨a0, a1, fun k hk => ⟨(a2 k hk).1, ?_⟩, a3⟩, b1, b2, fun i hi => ?_⟩
  · show upd (t.2.1 6) c (nI s) k = nI (if 6 = 6 ∧ k = c then s else h.2 6 k)
    by_cases e : k = c
    · rw [if_pos (show 6 = 6 ∧ k = c from ⟨rfl, e⟩), e, pk_us]
    · rw [if_neg (show ¬ (6 = 6 ∧ k = c) from fun z => e z.2), pk_un e]
      exact (a2 k hk).2
  · have u := b3 i hi
    rw [(ld_0 h i).1, (ld_0 h i).2] at u
    rw [(ld_0 (ovS h c s) i).1, (ld_0 (ovS h c s) i).2]
    exact u
theorem BDd0 (q : Nat) : BDd q 0 0 := ⟨Nat.pow_pos (by decide), Nat.pow_pos (by decide), fun j z => bS_0 j z.1⟩
/-- all notes by the class, the hall as it is -/
theorem c_holds (H : HOK h) (C : CDd h cn S D mi rm) (hw : Rw (rm.2.1 4) 4 99) (N : NTd h nm nn nt mo) (hF : 600 ≤ F) (hx : RLx rl e rz mo) : ∃ t2 rz2, f_X8_notesHold F e (-1) (-1) xi si rm nt tm rz = some (if ntH nm nn (trj mo.2.1 rl 0 0 h (tcn rm) 0 0 0) = true then 1 else 0, t2, rz2) ∧ RZk rz rz2 ∧ Rw (t2.2.1 4) 4 99 := by
  have h4 := H.2.1
  obtain ⟨t0, a1, a2, a3, a4⟩ := c_anew (F := F) (xi := xi) (si := si) (tm := tm) H C hw hF
  obtain ⟨b1, b2⟩ := lmN_b (nm := nm) nn (fun j hj => (N.2.2.2.1 j hj).1)
  obtain ⟨t1, rz1, c1, c2, c3⟩ := nh_loop (F := F) (xi := xi) (si := si) (rm := rm) (S := 0) (D := 0) (mi := 0) (L := lmN nm nn) H rfl (fun k hk => (tcn_n (k := k) hw (by omega)).1) (BDd0 _) N b1 hF (lmN nm nn) 0 F t0 rz (by omega) (by omega) hx a2 a3
  rw [nt_all (t := trj mo.2.1 rl 0 0 h (tcn rm) 0 0 0) b2] at c1
  refine ⟨t1, rz1, ?_, c3, fun j hj => ?_⟩
  · unfold f_X8_notesHold b_X8_notesHold_57
    rw [c_last N hF, bd_some, a1, bd_some, c_hasChair a2.1.1.2.2.1 H.2.2.1, bd_some, if_neg (show ¬ inR (-1) (h.1 2) from fun z => absurd z.1 (by decide)), if_pos rfl, if_neg (show ¬ (60 : Int32) < nI (lmN nm nn) + (-1) from fun z => by
      cases y : lmN nm nn with
      | zero =>
        rw [y] at z
        exact absurd z (by decide)
      | succ n =>
        rw [y, pk_m1] at z
        exact nI_nlt (a := 60) (b := n) (by omega) (by omega) z)]
    exact c1
  · rw [c2.2.1 4 (by decide) (by decide)]
    exact a4 j hj
/-- all notes by the class, a chair on another strand -/
theorem c_holdsO {c s : Nat} (H : HOK h) (C : CDd h cn S D mi rm) (hw : Rw (rm.2.1 4) 4 99) (N : NTd h nm nn nt mo) (hF : 600 ≤ F) (hx : RLx rl e rz mo) (hcc : c < h.1 2) (hs : s < h.1 1) : ∃ t2 rz2, f_X8_notesHold F e (nI c) (nI s) xi si rm nt tm rz = some (if ntH nm nn (trj mo.2.1 rl 0 0 (ovS h c s) (tcn rm) 0 0 0) = true then 1 else 0, t2, rz2) ∧ RZk rz rz2 ∧ Rw (t2.2.1 4) 4 99 := by
  have h4 := H.2.1
  have h8 := H.2.2.1
  obtain ⟨t0, a1, a2, a3, a4⟩ := c_anew (F := F) (xi := xi) (si := si) (tm := tm) H C hw hF
  obtain ⟨b1, b2⟩ := lmN_b (nm := nm) nn (fun j hj => (N.2.2.2.1 j hj).1)
  have a2' : CDd (ovS h c s) (tcn rm) 0 0 0 (t0.1, uF t0.2.1 6 (upd (t0.2.1 6) c (nI s)), t0.2.2) := a2.ov
  obtain ⟨t1, rz1, c1, c2, c3⟩ := nh_loop (F := F) (xi := xi) (si := si) (rm := rm) (S := 0) (D := 0) (mi := 0) (L := lmN nm nn) (h2 := ovS h c s) (ov_ok H hs) rfl (fun k hk => (tcn_n (k := k) hw (Nat.lt_of_lt_of_le hk h4)).1) (BDd0 _) N b1 hF (lmN nm nn) 0 F _ rz (by omega) (by omega) hx a2' a3
  rw [nt_all (t := trj mo.2.1 rl 0 0 (ovS h c s) (tcn rm) 0 0 0) b2] at c1
  refine ⟨t1, rz1, ?_, c3, fun j hj => ?_⟩
  · unfold f_X8_notesHold b_X8_notesHold_57
    rw [c_last N hF, bd_some, a1, bd_some, c_hasChair a2.1.1.2.2.1 H.2.2.1, bd_some, if_pos (show inR (nI c) (h.1 2) from ⟨by rw [nI_toInt (by omega)]; omega, by rw [nI_toInt (by omega)]; omega⟩), if_neg (show ¬ (1 : Int32) = 0 by decide), c_hasStrand a2.1.1.2.1 (by omega), bd_some, if_pos (show inR (nI s) (h.1 1) from ⟨by rw [nI_toInt (by omega)]; omega, by rw [nI_toInt (by omega)]; omega⟩), if_neg (show ¬ (1 : Int32) = 0 by decide), if_pos (ib_n (show c < 8 by omega) (by decide)), nI_clamp (show c < 2 ^ 31 by omega), if_neg (show ¬ (60 : Int32) < nI (lmN nm nn) + (-1) from fun z => by
      cases y : lmN nm nn with
      | zero =>
        rw [y] at z
        exact absurd z (by decide)
      | succ n =>
        rw [y, pk_m1] at z
        exact nI_nlt (a := 60) (b := n) (by omega) (by omega) z)]
    exact c1
  · rw [c2.2.1 4 (by decide) (by decide)]
    exact a4 j hj
/-- all notes by the reference, from where it stands; all laid back -/
theorem r_fit {w : OB} {h2 : HLd} {R : Nat → Nat → Int32} (H : HOK h2) (e3 : h2.1 3 = h.1 3) (hc : ∀ k, k < h2.1 1 → cn k ≤ 99) (B : BDd (h2.1 3) S D) (N : NTd h nm nn nt mo) (hF : 600 ≤ F) (M : MDd h2 cn S D mi w) (f : FIn rl w) (m : Mus (h2.1 3) 0 0 w) (hR : ∀ j, 29 ≤ j → j ≤ 34 → w.2.1 j = R j) (K : BLK mo w) (G : GOd mo w) (h38 : ∀ i, i < 8 → w.2.1 38 i = mo.2.1 38 i) : ∃ w2, f_X9_doNotesFit F w = some (if ntH nm nn (trj R rl 0 0 h2 cn S D mi) = true then 1 else 0, w2) ∧ QKd mo w2 ∧ BLK mo w2 ∧ (∀ j q, j < 61 → q < h2.1 3 → w2.2.1 47 (8 * j + q) = nI (stt (trj R rl 0 0 h2 cn S D mi j).1 (trj R rl 0 0 h2 cn S D mi j).2 q)) ∧ w2.2.1 48 = w.2.1 48 := by
  have hq := H.q8
  obtain ⟨w1, a1, a2, a3⟩ := la_loop (F := F) (R := R) H hc hF B 61 0 F w (by omega) (by omega) M f m hR (fun j q hj => absurd hj (Nat.not_lt_zero _))
  have a1 : f_X9_laysAll F w = some w1 := a1
  have K1 : BLK mo w1 := by
    unfold BLK
    rw [a2.2.1 49 (by decide) (by decide) (by decide)]
    exact K
  have G1 : GOd mo w1 := ⟨fun j p q => (congrFun a2.1 j).trans (G.1 j p q), fun j p => (a2.2.1 j (by omega) (by omega) (by omega)).trans (G.2.1 j p), fun i p => (congrFun (a2.2.1 49 (by decide) (by decide) (by decide)) i).trans (G.2.2 i p)⟩
  obtain ⟨w2, b1, b2, b3, b4⟩ := lays_q (F := F) hF K1 G1 (fun i hi => (congrFun (a2.2.1 38 (by decide) (by decide) (by decide)) i).trans (h38 i hi))
  have r47 : w2.2.1 47 = w1.2.1 47 := b4.2.1 47 (by omega)
  refine ⟨w2, ?_, b2, b3, fun j q hj hq2 => by rw [r47]; exact a3 j q hj hq2, (b4.2.1 48 (by omega)).trans (a2.2.1 48 (by decide) (by decide) (by decide))⟩
  obtain ⟨n1, n2, n3, n4, n5, n6⟩ := N
  unfold f_X9_doNotesFit
  rw [a1, bd_some, b1, bd_some]
  have key : lp (b_X9_doNotesFit_10 F) F (nI 0, w2) = some (if aln (fun j => ntP nm (trj R rl 0 0 h2 cn S D mi (nm j).1).1 (trj R rl 0 0 h2 cn S D mi (nm j).1).2 j) nn 0 = true then (1, w2) else (0, w2)) := by
    refine lp_al (st := fun k => (nI k, w2)) (q := nn) (fun kk k hk => ?_) (fun kk => ?_) nn F 0 (by omega) (by omega)
    · obtain ⟨c1, c2, c3⟩ := n4 k hk
      obtain ⟨d1, d2, d3⟩ := n6 k hk
      have hl := stt_lt (trj R rl 0 0 h2 cn S D mi (nm k).1).1 (trj R rl 0 0 h2 cn S D mi (nm k).1).2 (nm k).2.1
      unfold b_X9_doNotesFit_10 ntP
      dsimp only
      rw [show Int32.toNatClampNeg 5 = 5 from by decide, b2.2.2.1 5 (by decide), n3, if_neg (nI_ge hk (by omega)), if_pos (ib_n (show k < 10 by omega) (by decide)), nI_clamp (show k < 2 ^ 31 by omega), b2.2.1 8 (by omega), b2.2.1 9 (by omega), b2.2.1 10 (by omega), d1, d2, d3, show (8 : Int32) = nI 8 from rfl, pk_mul, nI_add, if_pos (ib_n (show 8 * (nm k).1 + (nm k).2.1 < 488 by omega) (by decide)), nI_clamp (show 8 * (nm k).1 + (nm k).2.1 < 2 ^ 31 by omega), r47, a3 (nm k).1 (nm k).2.1 (by omega) (by omega), nI_1]
      by_cases z : stt (trj R rl 0 0 h2 cn S D mi (nm k).1).1 (trj R rl 0 0 h2 cn S D mi (nm k).1).2 (nm k).2.1 = (nm k).2.2
      · rw [if_pos (show nI (stt (trj R rl 0 0 h2 cn S D mi (nm k).1).1 (trj R rl 0 0 h2 cn S D mi (nm k).1).2 (nm k).2.1) = nI (nm k).2.2 by rw [z]), if_pos (decide_eq_true z)]
      · rw [if_neg (show ¬ nI (stt (trj R rl 0 0 h2 cn S D mi (nm k).1).1 (trj R rl 0 0 h2 cn S D mi (nm k).1).2 (nm k).2.1) = nI (nm k).2.2 from fun u => z ((nI_eq (by omega) (by omega)).mp u)), if_neg (show ¬ decide (stt (trj R rl 0 0 h2 cn S D mi (nm k).1).1 (trj R rl 0 0 h2 cn S D mi (nm k).1).2 (nm k).2.1 = (nm k).2.2) = true from fun u => z (of_decide_eq_true u))]
    · unfold b_X9_doNotesFit_10
      dsimp only
      rw [show Int32.toNatClampNeg 5 = 5 from by decide, b2.2.2.1 5 (by decide), n3, if_pos (nI_le (Nat.le_refl _) (by omega))]
  refine Eq.trans key ?_
  show some (if ntH nm nn (trj R rl 0 0 h2 cn S D mi) = true then ((1 : Int32), w2) else (0, w2)) = _
  by_cases z : ntH nm nn (trj R rl 0 0 h2 cn S D mi) = true
  · rw [if_pos z, if_pos z]
  · rw [if_neg z, if_neg z]
/-- which rule is meant by a number -/
noncomputable def rlO : Nat → Option Nat
  | 0 => none
  | s + 1 => some s
theorem rlO_x {i nr : Nat} (hi : i ≤ nr) (hn : nr ≤ 6) (hR : ∀ s, s < nr → RLk s (rz s) mo) : RLx (rlO i) (nI i + (-1)) rz mo := by
  cases i with
  | zero => exact Or.inl ⟨rfl, by decide⟩
  | succ s => exact Or.inr ⟨s, rfl, pk_m1 s, by omega, hR s (by omega)⟩
theorem c_ruleAt {i nr : Nat} (hi : i ≤ nr) (hn : nr ≤ 6) (h2 : xi 2 = nI nr) : f_X8_ruleAt F (nI i + (-1)) xi xrr = some (nI i + (-1)) := by
  unfold f_X8_ruleAt b_X8_ruleAt_21 b_X8_ruleAt_22
  cases i with
  | zero =>
    rw [if_pos (show nI 0 + (-1) < 0 by decide)]
    rfl
  | succ s =>
    rw [pk_m1, if_neg (nI_pos (by omega)), h2, if_neg (nI_ge (show s < nr by omega) (by omega)), if_pos (ib_n (show s < 6 by omega) (by decide))]
/-- where the reference stands between its tries -/
noncomputable def RTd (mo w : OB) : Prop := QKd mo w ∧ BLK mo w
theorem r_could {w : OB} {i nr : Nat} (H : HOK h) (C : CDd h cn S D mi rm) (M : MDd h cn S D mi mo) (hw : Rw (rm.2.1 4) 4 99) (N : NTd h nm nn nt mo) (hF : 600 ≤ F) (hi : i ≤ nr) (hn : nr ≤ 6) (hRL : ∀ s, s < nr → RLk s (rz s) mo) (hm : Mus (h.1 3) 0 0 mo) (T : RTd mo w) : ∃ w2, f_X9_couldRule F (nI i + (-1)) w = some (if ntH nm nn (trj mo.2.1 (rlO i) 0 0 h (tcn rm) 0 0 0) = true then 1 else 0, w2) ∧ RTd mo w2 ∧ (∀ j q, j < 61 → q < h.1 3 → w2.2.1 47 (8 * j + q) = nI (stt (trj mo.2.1 (rlO i) 0 0 h (tcn rm) 0 0 0 j).1 (trj mo.2.1 (rlO i) 0 0 h (tcn rm) 0 0 0 j).2 q)) ∧ w2.2.1 48 = w.2.1 48 := by
  have h4 := H.2.1
  have hq := H.q8
  obtain ⟨Q, K⟩ := T
  have M2 := M.q H Q
  obtain ⟨w1, hw1⟩ : ∃ w1 : OB, w1 = (w.1, uF w.2.1 1 (upd (w.2.1 1) 7 (nI i + (-1))), w.2.2) := ⟨_, rfl⟩
  obtain ⟨ca2, is2, a1, a2, a3⟩ := s_begins (F := F) (mo := w1) hF
  have row : ∀ j, j ≠ 1 → w1.2.1 j = w.2.1 j := fun j hj => by
    rw [hw1]
    exact uF_n hj
  have row1 : ∀ j, j ≠ 7 → w1.2.1 1 j = w.2.1 1 j := fun j hj => by
    rw [hw1]
    show upd (w.2.1 1) 7 _ j = _
    exact pk_un hj
  have e17 : w1.2.1 1 7 = nI i + (-1) := by
    rw [hw1]
    show uF w.2.1 1 (upd (w.2.1 1) 7 (nI i + (-1))) 1 7 = _
    rw [uF_s, pk_us]
  obtain ⟨w3, hw3⟩ : ∃ w3 : OB, w3 = mbg w1 (upd (w1.2.1 1) 4 0) ca2 is2 := ⟨_, rfl⟩
  have rw3 : ∀ j, j ≠ 1 → j ≠ 2 → j ≠ 3 → w3.2.1 j = w.2.1 j := fun j p q r => by
    rw [hw3]
    show uF (uF (uF w1.2.1 1 _) 2 _) 3 _ j = _
    rw [uF_n r, uF_n q, uF_n p, row j p]
  have r31 : ∀ j, j ≠ 4 → w3.2.1 1 j = w1.2.1 1 j := fun j hj => by
    rw [hw3]
    show upd (w1.2.1 1) 4 0 j = _
    exact pk_un hj
  have r314 : w3.2.1 1 4 = 0 := by
    rw [hw3]
    show uF (uF (uF w1.2.1 1 (upd (w1.2.1 1) 4 0)) 2 ca2) 3 is2 1 4 = 0
    rw [uF_n (by decide), uF_n (by decide), uF_s, pk_us]
  have r32 : w3.2.1 2 = ca2 := by
    rw [hw3]
    rfl
  have r33 : w3.2.1 3 = is2 := by
    rw [hw3]
    rfl
  obtain ⟨⟨⟨b0, b1, b2, b3⟩, b4, b5, b6⟩, b7, b8, b9⟩ := M2
  have M3 : MDd h (tcn rm) 0 0 0 w3 := by
    refine ⟨⟨⟨?_, ?_, ?_, ?_⟩, fun k hk => ?_, fun k hk => ?_, fun k hk => ?_⟩, r314, fun k hk => ?_, fun k hk => ?_⟩
    · rw [r31 0 (by decide), row1 0 (by decide)]
      exact b0
    · rw [r31 1 (by decide), row1 1 (by decide)]
      exact b1
    · rw [r31 2 (by decide), row1 2 (by decide)]
      exact b2
    · rw [r31 3 (by decide), row1 3 (by decide)]
      exact b3
    · rw [rw3 11 (by decide) (by decide) (by decide)]
      exact b4 k hk
    · rw [rw3 6 (by decide) (by decide) (by decide), rw3 4 (by decide) (by decide) (by decide)]
      exact b5 k hk
    · rw [rw3 7 (by decide) (by decide) (by decide), rw3 5 (by decide) (by decide) (by decide)]
      exact b6 k hk
    · rw [r32, a2 k (by omega), row 11 (by decide), b4 k hk, tcn_t H C.1 hk]
    · rw [r33, a3 k (by omega), stt_0.mpr ⟨bS_0 k, bS_0 k⟩]
      rfl
  have f3 : FIn (rlO i) w3 := by
    cases i with
    | zero => exact Or.inl ⟨rfl, by rw [r31 7 (by decide), e17]; decide⟩
    | succ s => exact Or.inr ⟨s, rfl, by omega, by rw [r31 7 (by decide), e17, pk_m1], rz s, (hRL s (by omega)).cg rfl rfl (fun j p q => (rw3 j (by omega) (by omega) (by omega)).trans (Q.2.1 j (by omega)))⟩
  have m3 : Mus (h.1 3) 0 0 w3 := fun j hj => by
    rw [rw3 38 (by decide) (by decide) (by decide), Q.2.2.2.2.2.1 j (by omega)]
    exact hm j hj
  have i3 : w3.1 = w.1 := by
    rw [hw3]
    show w1.1 = w.1
    rw [hw1]
  have K3 : BLK mo w3 := by
    unfold BLK
    rw [rw3 49 (by decide) (by decide) (by decide)]
    exact K
  have G3 : GOd mo w3 := ⟨fun j p q => (congrFun i3 j).trans (Q.1 j p q), fun j p => (rw3 j (by omega) (by omega) (by omega)).trans (Q.2.1 j p), fun j p => (congrFun (rw3 49 (by decide) (by decide) (by decide)) j).trans (Q.2.2.2.2.2.2 j p)⟩
  obtain ⟨w4, c1, c2, c3, c4, c5⟩ := r_fit (F := F) (R := mo.2.1) H rfl (fun k hk => (tcn_n (k := k) hw (by omega)).1) (BDd0 _) N hF M3 f3 m3 (fun j p q => (rw3 j (by omega) (by omega) (by omega)).trans (Q.2.1 j (by omega))) K3 G3 (fun j hj => (congrFun (rw3 38 (by decide) (by decide) (by decide)) j).trans (Q.2.2.2.2.2.1 j hj))
  refine ⟨w4, ?_, ⟨c2, c3⟩, c4, c5.trans (rw3 48 (by decide) (by decide) (by decide))⟩
  unfold f_X9_couldRule
  rw [show Int32.toNatClampNeg 7 = 7 from by decide, ← hw1, a1, bd_some, ← hw3, c1, bd_some]
  dsimp only
  by_cases z : ntH nm nn (trj mo.2.1 (rlO i) 0 0 h (tcn rm) 0 0 0) = true
  · rw [if_pos z, if_pos (Or.inr rfl)]
  · rw [if_neg z, if_pos (Or.inl rfl)]
end NTS
