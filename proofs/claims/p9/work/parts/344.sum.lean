/-! a sum, a comparison, pure: both readers -/
section GA
variable {F : Nat} {m : OB} {L s p : Nat} {f e d c o : Int32} {so nu op : Nat → Int32}
theorem g_val (hr : RB m L s) (hF : 600 ≤ F) (hf : ¬ f = 0) (hp : p ≤ L) : ∃ (p2 : Nat) (c2 : Int32), p2 ≤ L ∧ f_X9_value F (ps m (nI p) f e d c o so nu op) = some (ps m (nI p2) f e d c2 o so nu op) := by
  have h4 := hr.2.1
  have hi := sk_le (B := m.2.1 28) hp
  unfold f_X9_value
  rw [s_blanks hr hF hp, bd_some]
  generalize sk (m.2.1 28) L p = i at hi ⊢
  rw [s_isDigit9 hr (by omega), bd_some, show (ps m (nI i) f e d c o so nu op).1 19 = nI i from rfl]
  by_cases q : dB (m.2.1 28) L i = true
  · have hiL : i < L := by
      by_cases z : i < L
      · exact z
      · rw [dB_out i (by omega)] at q
        cases q
    rw [if_pos (of_decide_eq_true q), if_neg (by decide), s_digits hr hF hiL q, bd_some]
    try dsimp only
    rw [if_neg (fun z => hf z.1), s_counted, bd_some, if_neg (fun z => hf z.2), g_entry hf, bd_some]
    exact ⟨_, _, re_le hi, rfl⟩
  · rw [if_neg (fun z9 => q (decide_eq_true z9)), if_pos rfl]
    have := s_words (f := f) (e := e) (d := d) (c := c) (o := o) (so := so) (nu := nu) (op := op) hr hF hi 11 F 0 (by decide) (by omega)
    rw [nI_0] at this
    rw [this]
    obtain ⟨f1, f2, f3, f4⟩ := fw_lt (L := L) (B := m.2.1 28) (i := i) (j := re (lB (m.2.1 28) L) L i) 11 0
    generalize fw_ (m.2.1 28) L i (re (lB (m.2.1 28) L) L i) 11 0 = w at f1 f2 f3 f4 ⊢
    unfold b_X9_value_62
    rw [show (ps m (nI i) f e d c o so nu op).1 27 = 11 from hr.2.2.2.2.2]
    by_cases hw : w = 11
    · rw [hw, if_pos (show nI 11 = (11 : Int32) from rfl), s_fails, bd_some, if_neg hf]
      exact ⟨_, _, hi, rfl⟩
    · have hwl : w < 11 := by omega
      obtain ⟨hE, hlet⟩ := isW_end (by omega) (f3 (by omega))
      have hiL : i < L := by
        by_cases z : i < L
        · exact z
        · rw [lB_out i (by omega)] at hlet
          cases hlet
      have hEL := (lexE_gt (B := m.2.1 28) hiL).2
      rw [if_neg (show ¬ nI w = (11 : Int32) from fun q => by
        rw [show (11 : Int32) = nI 11 from rfl, nI_eq (by omega) (by decide)] at q
        omega), s_counted, bd_some, s_wdY hwl, if_pos (by omega), show ∀ (f c : Int32), (ps m (nI i) f e d c o so nu op).1 19 = nI i from fun _ _ => rfl, nI_add, ps_p, if_neg (fun z => hf z.2), g_entry hf, bd_some]
      exact ⟨_, _, by omega, rfl⟩
theorem g_term8 (hf : ¬ f = 0) {g : Nat} {pp : Int32} : lp (b_X9_term_8 F) (g + 1) (ps m pp f e d c o so nu op) = some (ps m pp f e d c o so nu op) := by
  rw [lp_S, b_X9_term_8]
  unfold b_X9_term_100
  rw [show (ps m pp f e d c o so nu op).1 20 = f from rfl, if_neg hf]
theorem g_sum4 (hf : ¬ f = 0) {g : Nat} {pp : Int32} : lp (b_X9_sum_4 F) (g + 1) (ps m pp f e d c o so nu op) = some (ps m pp f e d c o so nu op) := by
  rw [lp_S, b_X9_sum_4]
  unfold b_X9_sum_67
  rw [show (ps m pp f e d c o so nu op).1 20 = f from rfl, if_neg hf]
end GA
noncomputable def eo (F : Nat) (r : Option Int32) (mo : OB) : Option OB := match r with
  | none => some mo
  | some k => f_X9_entry F k 0 mo
/-- the reference where it wants a value, with what waits to be added and multiplied -/
noncomputable def RefV (F : Nat) (ra rm : Option Int32) (ft fs : Nat) (mo : OB) : Option OB := (f_X9_value F mo).bind fun q => (eo F rm q).bind fun q => (f_X9_blanks F q).bind fun q => (lp (b_X9_term_8 F) ft q).bind fun q => (eo F ra q).bind fun q => lp (b_X9_sum_4 F) fs q
theorem sum_RefV (F : Nat) (mo : OB) : f_X9_sum F mo = RefV F none none F F mo := by
  unfold f_X9_sum f_X9_term RefV eo
  cases f_X9_value F mo with
  | none => rfl
  | some q =>
    show Option.bind (Option.bind (f_X9_blanks F q) _) _ = Option.bind (f_X9_blanks F q) _
    cases f_X9_blanks F q with
    | none => rfl
    | some q => rfl
noncomputable def mulOp (c : Int32) : Option Int32 := if c = 42 then some 13 else if c = 47 then some 14 else if c = 37 then some 15 else none
noncomputable def addOp (c : Int32) : Option Int32 := if c = 43 then some 2 else if c = 45 then some 3 else none
noncomputable def pn (r : Option Int32) : Nat := match r with
  | none => 0
  | some _ => 1
noncomputable def cop (r : Option Int32) : Int32 := match r with
  | none => -1
  | some k => tr k 0
noncomputable def isOp (r : Option Int32) : Prop := ∀ k, r = some k → VE k 0 ∧ arK (tr k 0) ∧ ¬ tr k 0 = -1
theorem VE_lit {q : Nat} (h : 2 ≤ q ∧ q ≤ 15 ∧ q ≠ 12) {k b : Int32} (e : k = nI q) : VE k b := Or.inr (Or.inr ⟨q, e, h⟩)
theorem isOp_mul (c : Int32) : isOp (mulOp c) := by
  intro k e
  unfold mulOp at e
  by_cases h1 : c = 42
  · rw [if_pos h1] at e
    cases e
    exact ⟨VE_lit (q := 13) (by decide) rfl, by decide, by decide⟩
  · rw [if_neg h1] at e
    by_cases h2 : c = 47
    · rw [if_pos h2] at e
      cases e
      exact ⟨VE_lit (q := 14) (by decide) rfl, by decide, by decide⟩
    · rw [if_neg h2] at e
      by_cases h3 : c = 37
      · rw [if_pos h3] at e
        cases e
        exact ⟨VE_lit (q := 15) (by decide) rfl, by decide, by decide⟩
      · rw [if_neg h3] at e
        cases e
theorem isOp_add (c : Int32) : isOp (addOp c) := by
  intro k e
  unfold addOp at e
  by_cases h1 : c = 43
  · rw [if_pos h1] at e
    cases e
    exact ⟨VE_lit (q := 2) (by decide) rfl, by decide, by decide⟩
  · rw [if_neg h1] at e
    by_cases h2 : c = 45
    · rw [if_pos h2] at e
      cases e
      exact ⟨VE_lit (q := 3) (by decide) rfl, by decide, by decide⟩
    · rw [if_neg h2] at e
      cases e
section SU
variable {F : Nat} {m x y : OB} {L s n : Nat} {d o : Int32} {op : Nat → Int32}
theorem t_go {g i : Nat} {e c : Int32} {so nu : Nat → Int32} (hr : RB m L s) (hi : i ≤ L) : lp (b_X9_term_8 F) (g + 1) (ps m (nI i) 0 e d c o so nu op) = match mulOp (cb (m.2.1 28) L i) with
    | none => some (ps m (nI i) 0 e d c o so nu op)
    | some k => (f_X9_value F (ps m (nI (i + 1)) 0 e d c o so nu op)).bind fun q => (f_X9_entry F k 0 q).bind fun q => (f_X9_blanks F q).bind fun q => lp (b_X9_term_8 F) g q := by
  have h4 := hr.2.1
  rw [lp_S, b_X9_term_8]
  unfold b_X9_term_42 b_X9_term_72 b_X9_term_100 mulOp
  rw [show (ps m (nI i) 0 e d c o so nu op).1 20 = 0 from rfl, if_pos rfl, s_sign hr (by omega), bd_some, show (ps m (nI i) 0 e d c o so nu op).1 19 = nI i from rfl, nI_1, ps_p]
  by_cases h1 : cb (m.2.1 28) L i = 42
  · rw [if_pos h1, if_pos h1, bd_some, if_pos h1]
  · rw [if_neg h1, if_neg h1, bd_some]
    by_cases h2 : cb (m.2.1 28) L i = 47
    · rw [if_pos h2, if_pos h2, bd_some, if_neg h1, bd_some, if_pos h2]
    · rw [if_neg h2, if_neg h2, bd_some]
      by_cases h3 : cb (m.2.1 28) L i = 37
      · rw [if_pos h3, if_pos h3, bd_some, if_neg h1, bd_some, if_neg h2]
      · rw [if_neg h3, if_neg h3]
theorem a_go {g i : Nat} {e c : Int32} {so nu : Nat → Int32} (hr : RB m L s) (hi : i ≤ L) : lp (b_X9_sum_4 F) (g + 1) (ps m (nI i) 0 e d c o so nu op) = match addOp (cb (m.2.1 28) L i) with
    | none => some (ps m (nI i) 0 e d c o so nu op)
    | some k => RefV F (some k) none F g (ps m (nI (i + 1)) 0 e d c o so nu op) := by
  have h4 := hr.2.1
  rw [lp_S, b_X9_sum_4]
  unfold b_X9_sum_29 b_X9_sum_43 b_X9_sum_67 addOp
  rw [show (ps m (nI i) 0 e d c o so nu op).1 20 = 0 from rfl, if_pos rfl, s_sign hr (by omega), bd_some, show (ps m (nI i) 0 e d c o so nu op).1 19 = nI i from rfl, nI_1, ps_p]
  have key : ∀ k, Option.bind (f_X9_term F (ps m (nI (i + 1)) 0 e d c o so nu op)) (fun q1 => Option.bind (f_X9_entry F k 0 q1) (fun q2 => lp (b_X9_sum_4 F) g q2)) = RefV F (some k) none F g (ps m (nI (i + 1)) 0 e d c o so nu op) := fun k => by
    unfold f_X9_term RefV eo
    cases f_X9_value F (ps m (nI (i + 1)) 0 e d c o so nu op) with
    | none => rfl
    | some q =>
      show Option.bind (Option.bind (f_X9_blanks F q) _) _ = Option.bind (f_X9_blanks F q) _
      cases f_X9_blanks F q with
      | none => rfl
      | some q => rfl
  by_cases h1 : cb (m.2.1 28) L i = 43
  · rw [if_pos h1, if_pos h1, bd_some, if_pos h1, key]
  · rw [if_neg h1, if_neg h1, bd_some]
    by_cases h2 : cb (m.2.1 28) L i = 45
    · rw [if_pos h2, if_pos h2, bd_some, if_neg h1, key]
    · rw [if_neg h2, if_neg h2]
theorem RefV_bad {ra rm : Option Int32} {ft fs p2 : Nat} {mo : OB} {φ e c : Int32} {so nu : Nat → Int32} (hr : RB m L s) (hF : 600 ≤ F) (hφ : ¬ φ = 0) (hp : p2 ≤ L) (h : f_X9_value F mo = some (ps m (nI p2) φ e d c o so nu op)) (h1 : 0 < ft) (h2 : 0 < fs) : RefV F ra rm ft fs mo = some (ps m (nI (sk (m.2.1 28) L p2)) φ e d c o so nu op) := by
  have ge : ∀ (r : Option Int32) (pp : Int32), eo F r (ps m pp φ e d c o so nu op) = some (ps m pp φ e d c o so nu op) := fun r pp => by
    cases r with
    | none => rfl
    | some k => exact g_entry hφ
  obtain ⟨a, rfl⟩ : ∃ a, ft = a + 1 := ⟨ft - 1, by omega⟩
  obtain ⟨b, rfl⟩ : ∃ b, fs = b + 1 := ⟨fs - 1, by omega⟩
  unfold RefV
  rw [h, bd_some, ge, bd_some, s_blanks hr hF hp, bd_some, g_term8 hφ, bd_some, ge, bd_some, g_sum4 hφ]
theorem c_one {a b c : Int32} {t i : Nat} (hx : TX (m.2.1 28) L x n) (ha : At L x n t i) (h1 : ¬ a = -1) (h2 : ¬ b = -1) (h3 : ¬ c = -1) : f_X5_takeOneOf F a b c (tpa x (nI t) 0) = if lexK (m.2.1 28) L i = a ∨ lexK (m.2.1 28) L i = b ∨ lexK (m.2.1 28) L i = c then some (lexK (m.2.1 28) L i, tpa x (nI (t + 1)) 0) else some (-1, tpa x (nI t) 0) := by
  unfold f_X5_takeOneOf b_X5_takeOneOf_26
  rw [s_kind hx ha, bd_some]
  have hi := ha.2.1
  by_cases hl : i < L
  · rw [s_skip hx ha hl, bd_some]
    by_cases q1 : lexK (m.2.1 28) L i = a
    · rw [if_pos q1, if_pos (Or.inl q1)]
    · rw [if_neg q1]
      by_cases q2 : lexK (m.2.1 28) L i = b
      · rw [if_pos q2, if_pos (Or.inr (Or.inl q2))]
      · rw [if_neg q2]
        by_cases q3 : lexK (m.2.1 28) L i = c
        · rw [if_pos q3, if_pos (Or.inr (Or.inr q3))]
        · rw [if_neg q3, if_neg (fun z => z.elim q1 (fun z => z.elim q2 q3))]
  · have e := lexK_end (B := m.2.1 28) (L := L) (i := i) (by omega)
    rw [e, if_neg (fun z => h1 z.symm), if_neg (fun z => h2 z.symm), if_neg (fun z => h3 z.symm), if_neg (fun z => z.elim (fun z => h1 z.symm) (fun z => z.elim (fun z => h2 z.symm) (fun z => h3 z.symm)))]
theorem c_mul {t i : Nat} (hx : TX (m.2.1 28) L x n) (ha : At L x n t i) : f_X5_takeOneOf F 42 47 37 (tpa x (nI t) 0) = match mulOp (cb (m.2.1 28) L i) with
    | none => some (-1, tpa x (nI t) 0)
    | some k => some (tr k 0, tpa x (nI (t + 1)) 0) := by
  rw [c_one hx ha (by decide) (by decide) (by decide)]
  have e1 := lexK_s (B := m.2.1 28) (L := L) (i := i) (x := 42) (by decide)
  have e2 := lexK_s (B := m.2.1 28) (L := L) (i := i) (x := 47) (by decide)
  have e3 := lexK_s (B := m.2.1 28) (L := L) (i := i) (x := 37) (by decide)
  unfold mulOp
  by_cases h1 : cb (m.2.1 28) L i = 42
  · rw [if_pos h1, if_pos (Or.inl (e1.mpr h1)), e1.mpr h1]
    rfl
  · rw [if_neg h1]
    by_cases h2 : cb (m.2.1 28) L i = 47
    · rw [if_pos h2, if_pos (Or.inr (Or.inl (e2.mpr h2))), e2.mpr h2]
      rfl
    · rw [if_neg h2]
      by_cases h3 : cb (m.2.1 28) L i = 37
      · rw [if_pos h3, if_pos (Or.inr (Or.inr (e3.mpr h3))), e3.mpr h3]
        rfl
      · rw [if_neg h3, if_neg (fun z => z.elim (fun z => h1 (e1.mp z)) (fun z => z.elim (fun z => h2 (e2.mp z)) (fun z => h3 (e3.mp z))))]
theorem c_add {t i : Nat} (hx : TX (m.2.1 28) L x n) (ha : At L x n t i) : f_X5_takeOneOf F 43 45 45 (tpa x (nI t) 0) = match addOp (cb (m.2.1 28) L i) with
    | none => some (-1, tpa x (nI t) 0)
    | some k => some (tr k 0, tpa x (nI (t + 1)) 0) := by
  rw [c_one hx ha (by decide) (by decide) (by decide)]
  have e1 := lexK_s (B := m.2.1 28) (L := L) (i := i) (x := 43) (by decide)
  have e2 := lexK_s (B := m.2.1 28) (L := L) (i := i) (x := 45) (by decide)
  unfold addOp
  by_cases h1 : cb (m.2.1 28) L i = 43
  · rw [if_pos h1, if_pos (Or.inl (e1.mpr h1)), e1.mpr h1]
    rfl
  · rw [if_neg h1]
    by_cases h2 : cb (m.2.1 28) L i = 45
    · rw [if_pos h2, if_pos (Or.inr (Or.inl (e2.mpr h2))), e2.mpr h2]
      rfl
    · rw [if_neg h2, if_neg (fun z => z.elim (fun z => h1 (e1.mp z)) (fun z => z.elim (fun z => h2 (e2.mp z)) (fun z => h2 (e2.mp z))))]
theorem op_at {i : Nat} {k : Int32} (h : mulOp (cb (m.2.1 28) L i) = some k ∨ addOp (cb (m.2.1 28) L i) = some k) : i < L ∧ lexE (m.2.1 28) L i = i + 1 := by
  have go : ∀ c : Int32, sg1 c → cb (m.2.1 28) L i = c → i < L ∧ lexE (m.2.1 28) L i = i + 1 := fun c hc e => ⟨(lexE_s hc e).2, (lexE_s hc e).1⟩
  rcases h with h | h
  · unfold mulOp at h
    by_cases h1 : cb (m.2.1 28) L i = 42
    · exact go 42 (by decide) h1
    · rw [if_neg h1] at h
      by_cases h2 : cb (m.2.1 28) L i = 47
      · exact go 47 (by decide) h2
      · rw [if_neg h2] at h
        by_cases h3 : cb (m.2.1 28) L i = 37
        · exact go 37 (by decide) h3
        · rw [if_neg h3] at h
          cases h
  · unfold addOp at h
    by_cases h1 : cb (m.2.1 28) L i = 43
    · exact go 43 (by decide) h1
    · rw [if_neg h1] at h
      by_cases h2 : cb (m.2.1 28) L i = 45
      · exact go 45 (by decide) h2
      · rw [if_neg h2] at h
        cases h
end SU
/-- both find the same fault -/
noncomputable def Bad (m x : OB) (L s : Nat) (d o : Int32) (op so nu : Nat → Int32) (rc : Option (Int32 × OB × OB)) (rr : Option OB) : Prop := ∃ (φ p2 : Nat) (e2 c2 t2 : Int32) (so2 nu2 : Nat → Int32) (ru2 : OB), 0 < φ ∧ φ < 4000 ∧ p2 ≤ L ∧ FrS s so so2 ∧ FrS s nu nu2 ∧ rc = some (0, tpa x t2 (nI φ), ru2) ∧ rr = some (ps m (nI p2) (nI φ) e2 d c2 o so2 nu2 op)
/-- both go on at the same place, with the same code -/
noncomputable def Good (m x y : OB) (L s n l0 i u len lim : Nat) (d o : Int32) (op st so nu : Nat → Int32) (rc : Option (Int32 × OB × OB)) (rr : Option OB) : Prop := ∃ (i2 t2 u2 len2 : Nat) (st2 so2 nu2 : Nat → Int32), At L x n t2 i2 ∧ i < i2 ∧ u < u2 ∧ u2 ≤ 60 ∧ len2 + 1 ≤ lim + 2 * (u2 - u) ∧ len < len2 ∧ CE s len2 st2 so2 nu2 ∧ FrS s so so2 ∧ FrS s nu nu2 ∧ (∀ j, j < len → st2 j = st j) ∧ Seg true st2 l0 len2 1 ∧ rc = some (1, tpa x (nI t2) 0, rus y (nI len2) (nI u2) st2) ∧ rr = some (ps m (nI i2) 0 (nI len2) d (nI u2) o so2 nu2 op)
theorem Bad.mono {m x : OB} {L s : Nat} {d o : Int32} {op so nu so1 nu1 : Nat → Int32} {rc : Option (Int32 × OB × OB)} {rr : Option OB} (h : Bad m x L s d o op so1 nu1 rc rr) (h1 : FrS s so so1) (h2 : FrS s nu nu1) : Bad m x L s d o op so nu rc rr := by
  obtain ⟨φ, p2, e2, c2, t2, so2, nu2, ru2, a1, a2, a3, a4, a5, a6, a7⟩ := h
  exact ⟨φ, p2, e2, c2, t2, so2, nu2, ru2, a1, a2, a3, h1.tr a4, h2.tr a5, a6, a7⟩
theorem Good.mono {m x y : OB} {L s n l0 i u len lim i1 u1 len1 lim1 : Nat} {d o : Int32} {op st so nu st1 so1 nu1 : Nat → Int32} {rc : Option (Int32 × OB × OB)} {rr : Option OB} (h : Good m x y L s n l0 i1 u1 len1 lim1 d o op st1 so1 nu1 rc rr) (hi : i ≤ i1) (hu : u ≤ u1) (hl : len ≤ len1) (hm : lim1 ≤ lim + 2 * (u1 - u)) (h1 : FrS s so so1) (h2 : FrS s nu nu1) (h3 : ∀ j, j < len → st1 j = st j) : Good m x y L s n l0 i u len lim d o op st so nu rc rr := by
  obtain ⟨i2, t2, u2, len2, st2, so2, nu2, a1, a2, a3, a4, a5, a6, a7, a8, a9, a10, a11, a12, a13⟩ := h
  exact ⟨i2, t2, u2, len2, st2, so2, nu2, a1, by omega, by omega, a4, by omega, by omega, a7, h1.tr a8, h2.tr a9, fun j hj => (a10 j (by omega)).trans (h3 j hj), a11, a12, a13⟩
theorem RefV_t {F : Nat} {ra : Option Int32} {k : Int32} {ft fs : Nat} {mo : OB} : Option.bind ((f_X9_value F mo).bind fun q => (f_X9_entry F k 0 q).bind fun q => (f_X9_blanks F q).bind fun q => lp (b_X9_term_8 F) ft q) (fun q => (eo F ra q).bind fun q => lp (b_X9_sum_4 F) fs q) = RefV F ra (some k) ft fs mo := by
  unfold RefV
  cases f_X9_value F mo with
  | none => rfl
  | some q =>
    show Option.bind (Option.bind (f_X9_entry F k 0 q) _) _ = Option.bind (f_X9_entry F k 0 q) _
    cases f_X9_entry F k 0 q with
    | none => rfl
    | some q =>
      show Option.bind (Option.bind (f_X9_blanks F q) _) _ = Option.bind (f_X9_blanks F q) _
      cases f_X9_blanks F q with
      | none => rfl
      | some q => rfl
section SM
variable {F : Nat} {m x y : OB} {L s n l0 : Nat} {d o : Int32} {op : Nat → Int32}
/-- where a sum goes on: the class's loop, and the reference -/
noncomputable def SumAt (F : Nat) (m x y : OB) (L s n l0 : Nat) (d o : Int32) (op : Nat → Int32) (N : Nat) : Prop := ∀ (i t p u len cnt fc ft fs : Nat) (st so nu : Nat → Int32) (ra rm : Option Int32), L - i < N → At L x n t i → p ≤ L → sk (m.2.1 28) L p = i → u ≤ 60 → CE s len st so nu → isOp ra → isOp rm → 3 * (len + pn ra + pn rm) ≤ 14 * u + 36 → 2 * cnt ≤ i → L - i < fc → L - i < ft → L - i < fs → Seg true st l0 len (pn ra + pn rm) →
  Bad m x L s d o op so nu (lp (b_X5_readSum_7 F) fc (cop ra, cop rm, nI cnt, tpa x (nI t) 0, rus y (nI len) (nI u) st)) (RefV F ra rm ft fs (ps m (nI p) 0 (nI len) d (nI u) o so nu op)) ∨ Good m x y L s n l0 i u len (len + pn ra + pn rm) d o op st so nu (lp (b_X5_readSum_7 F) fc (cop ra, cop rm, nI cnt, tpa x (nI t) 0, rus y (nI len) (nI u) st)) (RefV F ra rm ft fs (ps m (nI p) 0 (nI len) d (nI u) o so nu op))
theorem sum_tail {N i t u len cnt g ft fs e : Nat} {st so nu : Nat → Int32} {ra : Option Int32} (hr : RB m L s) (hF : 600 ≤ F) (hx : TX (m.2.1 28) L x n) (ih : SumAt F m x y L s n l0 d o op N) (hN : L - i ≤ N) (ha : At L x n t i) (he : e ≤ L) (hk : sk (m.2.1 28) L e = i) (hu : u ≤ 60) (hc : CE s len st so nu) (hra : isOp ra) (hb : 3 * (len + pn ra) ≤ 14 * u + 28) (hcnt : 2 * cnt < i) (hg : L - i < g + 1) (hft : L - i < ft) (hfs : L - i < fs) (hseg : Seg true st l0 len (pn ra + 1)) :
    Bad m x L s d o op so nu (b_X5_readSum_35 F (lp (b_X5_readSum_7 F) g) (cop ra) (nI cnt) (tpa x (nI t) 0) (rus y (nI len) (nI u) st)) ((f_X9_blanks F (ps m (nI e) 0 (nI len) d (nI u) o so nu op)).bind fun q => (lp (b_X9_term_8 F) ft q).bind fun q => (eo F ra q).bind fun q => lp (b_X9_sum_4 F) fs q)
    ∨ (∃ (i2 t2 u2 len2 : Nat) (st2 so2 nu2 : Nat → Int32), At L x n t2 i2 ∧ i ≤ i2 ∧ u ≤ u2 ∧ u2 ≤ 60 ∧ len2 ≤ len + pn ra + 2 * (u2 - u) ∧ len ≤ len2 ∧ CE s len2 st2 so2 nu2 ∧ FrS s so so2 ∧ FrS s nu nu2 ∧ (∀ j, j < len → st2 j = st j) ∧ Seg true st2 l0 len2 1 ∧ b_X5_readSum_35 F (lp (b_X5_readSum_7 F) g) (cop ra) (nI cnt) (tpa x (nI t) 0) (rus y (nI len) (nI u) st) = some (1, tpa x (nI t2) 0, rus y (nI len2) (nI u2) st2) ∧ ((f_X9_blanks F (ps m (nI e) 0 (nI len) d (nI u) o so nu op)).bind fun q => (lp (b_X9_term_8 F) ft q).bind fun q => (eo F ra q).bind fun q => lp (b_X9_sum_4 F) fs q) = some (ps m (nI i2) 0 (nI len2) d (nI u2) o so2 nu2 op)) := by
  have h4 := hr.2.1
  have hi := ha.2.1
  obtain ⟨a, rfl⟩ : ∃ a, ft = a + 1 := ⟨ft - 1, by omega⟩
  obtain ⟨b, rfl⟩ : ∃ b, fs = b + 1 := ⟨fs - 1, by omega⟩
  rw [s_blanks hr hF he, bd_some, hk, t_go hr hi]
  unfold b_X5_readSum_35 b_X5_readSum_61 b_X5_readSum_79
  rw [c_mul hx ha, nI_1]
  cases hm : mulOp (cb (m.2.1 28) L i) with
  | some k =>
    obtain ⟨hl, hE⟩ := op_at (m := m) (Or.inl hm)
    have ho := isOp_mul (cb (m.2.1 28) L i) k hm
    have hA := (ha.at hx).2.2.2 hl
    rw [hE] at hA
    have hsk := sk_ge (B := m.2.1 28) (L := L) (p := i + 1) (by omega)
    try dsimp only
    rw [bd_some, if_neg ho.2.2, RefV_t]
    have hq := ih (sk (m.2.1 28) L (i + 1)) (t + 1) (i + 1) u len (cnt + 1) g a (b + 1) st so nu ra (some k) (by omega) hA (by omega) rfl hu hc hra (fun k2 e2 => by cases e2; exact ho) (by show 3 * (len + pn ra + 1) ≤ _; omega) (by omega) (by omega) (by omega) (by omega) hseg
    rcases hq with hq | hq
    · exact Or.inl hq
    · obtain ⟨i2, t2, u2, len2, st2, so2, nu2, a1, a2, a3, a4, a5, a6, a7, a8, a9, a10, a11, a12, a13⟩ := hq
      refine Or.inr ⟨i2, t2, u2, len2, st2, so2, nu2, a1, by omega, by omega, a4, ?_, by omega, a7, a8, a9, a10, a11, a12, a13⟩
      have a5 : len2 + 1 ≤ len + pn ra + 1 + 2 * (u2 - u) := a5
      omega
  | none =>
    try dsimp only
    rw [bd_some, bd_some, if_pos rfl]
    have fin : ∀ (len1 : Nat) (st1 so1 nu1 : Nat → Int32), len ≤ len1 → len1 ≤ len + pn ra → CE s len1 st1 so1 nu1 → FrS s so so1 → FrS s nu nu1 → (∀ j, j < len → st1 j = st j) → Seg true st1 l0 len1 1 →
        (Bad m x L s d o op so nu (Option.bind (f_X5_takeOneOf F 43 45 45 (tpa x (nI t) 0)) (fun q1 => (if q1.1 = (-1) then (some (1, q1.2, rus y (nI len1) (nI u) st1)) else lp (b_X5_readSum_7 F) g (q1.1, -1, nI (cnt + 1), q1.2, rus y (nI len1) (nI u) st1)))) (lp (b_X9_sum_4 F) (b + 1) (ps m (nI i) 0 (nI len1) d (nI u) o so1 nu1 op))
        ∨ (∃ (i2 t2 u2 len2 : Nat) (st2 so2 nu2 : Nat → Int32), At L x n t2 i2 ∧ i ≤ i2 ∧ u ≤ u2 ∧ u2 ≤ 60 ∧ len2 ≤ len + pn ra + 2 * (u2 - u) ∧ len ≤ len2 ∧ CE s len2 st2 so2 nu2 ∧ FrS s so so2 ∧ FrS s nu nu2 ∧ (∀ j, j < len → st2 j = st j) ∧ Seg true st2 l0 len2 1 ∧ Option.bind (f_X5_takeOneOf F 43 45 45 (tpa x (nI t) 0)) (fun q1 => (if q1.1 = (-1) then (some (1, q1.2, rus y (nI len1) (nI u) st1)) else lp (b_X5_readSum_7 F) g (q1.1, -1, nI (cnt + 1), q1.2, rus y (nI len1) (nI u) st1))) = some (1, tpa x (nI t2) 0, rus y (nI len2) (nI u2) st2) ∧ lp (b_X9_sum_4 F) (b + 1) (ps m (nI i) 0 (nI len1) d (nI u) o so1 nu1 op) = some (ps m (nI i2) 0 (nI len2) d (nI u2) o so2 nu2 op))) := by
      intro len1 st1 so1 nu1 g1 g2 g3 g4 g5 g6 g7
      rw [a_go hr hi, c_add hx ha]
      cases hm2 : addOp (cb (m.2.1 28) L i) with
      | none =>
        try dsimp only
        rw [bd_some, if_pos rfl]
        exact Or.inr ⟨i, t, u, len1, st1, so1, nu1, ha, Nat.le_refl _, Nat.le_refl _, hu, by omega, g1, g3, g4, g5, g6, g7, rfl, rfl⟩
      | some k =>
        obtain ⟨hl, hE⟩ := op_at (m := m) (Or.inr hm2)
        have ho := isOp_add (cb (m.2.1 28) L i) k hm2
        have hA := (ha.at hx).2.2.2 hl
        rw [hE] at hA
        have hsk := sk_ge (B := m.2.1 28) (L := L) (p := i + 1) (by omega)
        try dsimp only
        rw [bd_some, if_neg ho.2.2]
        have hq := ih (sk (m.2.1 28) L (i + 1)) (t + 1) (i + 1) u len1 (cnt + 1) g F b st1 so1 nu1 (some k) none (by omega) hA (by omega) rfl hu g3 (fun k2 e2 => by cases e2; exact ho) (fun k2 e2 => by cases e2) (by show 3 * (len1 + 1 + 0) ≤ _; omega) (by omega) (by omega) (by omega) (by omega) g7
        rcases hq with hq | hq
        · exact Or.inl (hq.mono g4 g5)
        · obtain ⟨i2, t2, u2, len2, st2, so2, nu2, a1, a2, a3, a4, a5, a6, a7, a8, a9, a10, a11, a12, a13⟩ := hq
          have a5 : len2 + 1 ≤ len1 + 1 + 0 + 2 * (u2 - u) := a5
          exact Or.inr ⟨i2, t2, u2, len2, st2, so2, nu2, a1, by omega, by omega, a4, by omega, by omega, a7, g4.tr a8, g5.tr a9, fun j hj => (a10 j (by omega)).trans (g6 j hj), a11, a12, a13⟩
    cases ra with
    | none =>
      rw [show cop none = -1 from rfl, if_pos rfl]
      exact fin len st so nu (Nat.le_refl _) (by omega) hc FrS.rf FrS.rf (fun _ _ => rfl) hseg
    | some k =>
      have ho := hra k rfl
      have hb : 3 * (len + 1) ≤ 14 * u + 28 := hb
      rw [show cop (some k) = tr k 0 from rfl, if_neg ho.2.2, s_add (by omega), bd_some]
      show _ ∨ _
      rw [show eo F (some k) (ps m (nI i) 0 (nI len) d (nI u) o so nu op) = f_X9_entry F k 0 (ps m (nI i) 0 (nI len) d (nI u) o so nu op) from rfl, s_entry hr (by omega), bd_some]
      exact fin (len + 1) (upd st len (tr k 0)) (upd so (300 * s + len) k) (upd nu (300 * s + len) 0) (by omega) (Nat.le_refl _) (hc.app ho.1 rfl) (FrS.rf.up (by omega)) (FrS.rf.up (by omega)) (fun j hj => pk_un (by omega)) (Seg.b (j := 0) hseg ho.2.1)
theorem sum_sim (hr : RB m L s) (hF : 600 ≤ F) (hx : TX (m.2.1 28) L x n) : ∀ N, SumAt F m x y L s n l0 d o op N
  | 0 => fun i t p u len cnt fc ft fs st so nu ra rm h => absurd h (by omega)
  | N + 1 => by
    intro i t p u len cnt fc ft fs st so nu ra rm hN ha hp hk hu hc hra hrm hb hcnt hfc hft hfs hseg
    have h4 := hr.2.1
    have hi := ha.2.1
    obtain ⟨g, rfl⟩ : ∃ g, fc = g + 1 := ⟨fc - 1, by omega⟩
    rw [lp_S, b_X5_readSum_7]
    try dsimp only
    rw [if_neg (show ¬ (400 : Int32) ≤ nI cnt from by
      rw [sp_le, nI_toInt (by omega), show (400 : Int32).toInt = 400 from by decide]
      omega)]
    rcases v_sim (y := y) (d := d) (o := o) (st := st) (so := so) (nu := nu) (op := op) hr hF hx ha hp hk hu (show len < 300 by omega) with ⟨φ, p2, c2, b1, b2, b3, b4, b5⟩ | ⟨k, a, b, b1, b2, b3, b4, b5, b6, b7⟩
    · rw [b4, bd_some, if_pos rfl]
      refine Or.inl ⟨φ, sk (m.2.1 28) L p2, nI len, c2, nI t, so, nu, rus y (nI len) (nI u) st, b1, b2, sk_le b3, FrS.rf, FrS.rf, rfl, ?_⟩
      exact RefV_bad hr hF (nI_ne0 b1 (by omega)) b3 b5 (by omega) (by omega)
    · have hA := (ha.at hx).2.2.2 b2
      have hE := lexE_gt (B := m.2.1 28) b2
      have hsk := sk_ge (B := m.2.1 28) hE.2
      rw [b6, bd_some]
      try dsimp only
      rw [if_neg (show ¬ (1 : Int32) = 0 from by decide)]
      unfold RefV
      rw [b7, bd_some]
      have hs1 : Seg true (upd st len k) l0 (len + 1) (pn ra + pn rm + 1) := (hseg.cg (fun j _ hj => pk_un (by omega))).tr (Seg.v b5)
      have hc1 : CE s (len + 1) (upd st len k) (upd so (300 * s + len) a) (upd nu (300 * s + len) b) := hc.app b3 b4
      have conv : ∀ (len1 : Nat) (st1 so1 nu1 : Nat → Int32) (rc : Option (Int32 × OB × OB)) (rr : Option OB), len1 ≤ len + 1 + pn rm → len < len1 → (∀ j, j < len → st1 j = st j) → FrS s so so1 → FrS s nu nu1 → (Bad m x L s d o op so1 nu1 rc rr ∨ (∃ (i2 t2 u2 len2 : Nat) (st2 so2 nu2 : Nat → Int32), At L x n t2 i2 ∧ sk (m.2.1 28) L (lexE (m.2.1 28) L i) ≤ i2 ∧ u + 1 ≤ u2 ∧ u2 ≤ 60 ∧ len2 ≤ len1 + pn ra + 2 * (u2 - (u + 1)) ∧ len1 ≤ len2 ∧ CE s len2 st2 so2 nu2 ∧ FrS s so1 so2 ∧ FrS s nu1 nu2 ∧ (∀ j, j < len1 → st2 j = st1 j) ∧ Seg true st2 l0 len2 1 ∧ rc = some (1, tpa x (nI t2) 0, rus y (nI len2) (nI u2) st2) ∧ rr = some (ps m (nI i2) 0 (nI len2) d (nI u2) o so2 nu2 op))) → Bad m x L s d o op so nu rc rr ∨ Good m x y L s n l0 i u len (len + pn ra + pn rm) d o op st so nu rc rr := by
        intro len1 st1 so1 nu1 rc rr q1 q2 q3 q4 q5 hq
        rcases hq with hq | ⟨i2, t2, u2, len2, st2, so2, nu2, a1, a2, a3, a4, a5, a6, a7, a8, a9, a10, a11, a12, a13⟩
        · exact Or.inl (hq.mono q4 q5)
        · exact Or.inr ⟨i2, t2, u2, len2, st2, so2, nu2, a1, by omega, by omega, a4, by omega, by omega, a7, q4.tr a8, q5.tr a9, fun j hj => (a10 j (by omega)).trans (q3 j hj), a11, a12, a13⟩
      cases rm with
      | none =>
        rw [show cop none = -1 from rfl, if_pos rfl]
        have hb : 3 * (len + pn ra + 0) ≤ 14 * u + 36 := hb
        exact conv (len + 1) (upd st len k) _ _ _ _ (Nat.le_refl _) (by omega) (fun j hj => pk_un (by omega)) (FrS.rf.up (by omega)) (FrS.rf.up (by omega)) (sum_tail hr hF hx (sum_sim hr hF hx N) (by omega) hA hE.2 rfl (by omega) hc1 hra (by omega) (by omega) (by omega) (by omega) (by omega) hs1)
      | some k2 =>
        have ho := hrm k2 rfl
        have hb : 3 * (len + pn ra + 1) ≤ 14 * u + 36 := hb
        rw [show cop (some k2) = tr k2 0 from rfl, if_neg ho.2.2, s_add (by omega), bd_some]
        rw [show eo F (some k2) (ps m (nI (lexE (m.2.1 28) L i)) 0 (nI (len + 1)) d (nI (u + 1)) o (upd so (300 * s + len) a) (upd nu (300 * s + len) b) op) = f_X9_entry F k2 0 (ps m (nI (lexE (m.2.1 28) L i)) 0 (nI (len + 1)) d (nI (u + 1)) o (upd so (300 * s + len) a) (upd nu (300 * s + len) b) op) from rfl, s_entry hr (by omega), bd_some]
        exact conv (len + 1 + 1) (upd (upd st len k) (len + 1) (tr k2 0)) _ _ _ _ (Nat.le_refl _) (by omega) (fun j hj => by rw [pk_un (by omega), pk_un (by omega)]) ((FrS.rf.up (by omega)).up (by omega)) ((FrS.rf.up (by omega)).up (by omega)) (sum_tail hr hF hx (sum_sim hr hF hx N) (by omega) hA hE.2 rfl (by omega) (hc1.app ho.1 rfl) hra (by omega) (by omega) (by omega) (by omega) (by omega) (Seg.b (j := pn ra) hs1 ho.2.1))
/-- a whole sum -/
theorem sum_all {i t p u len : Nat} {st so nu : Nat → Int32} (hr : RB m L s) (hF : 600 ≤ F) (hx : TX (m.2.1 28) L x n) (ha : At L x n t i) (hp : p ≤ L) (hk : sk (m.2.1 28) L p = i) (hu : u ≤ 60) (hc : CE s len st so nu) (hb : 3 * len ≤ 14 * u + 36) : Bad m x L s d o op so nu (f_X5_readSum F (tpa x (nI t) 0) (rus y (nI len) (nI u) st)) (f_X9_sum F (ps m (nI p) 0 (nI len) d (nI u) o so nu op)) ∨ Good m x y L s n len i u len len d o op st so nu (f_X5_readSum F (tpa x (nI t) 0) (rus y (nI len) (nI u) st)) (f_X9_sum F (ps m (nI p) 0 (nI len) d (nI u) o so nu op)) := by
  have h4 := hr.2.1
  have hi := ha.2.1
  have := sum_sim (y := y) (l0 := len) (d := d) (o := o) (op := op) hr hF hx (L - i + 1) i t p u len 0 F F F st so nu none none (by omega) ha hp hk hu hc (fun k2 e2 => by cases e2) (fun k2 e2 => by cases e2) (by show 3 * (len + 0 + 0) ≤ _; omega) (by omega) (by omega) (by omega) (by omega) Seg.z
  unfold f_X5_readSum
  rw [sum_RefV]
  exact this
theorem g_sum {p : Nat} {f e c : Int32} {so nu : Nat → Int32} (hr : RB m L s) (hF : 600 ≤ F) (hf : ¬ f = 0) (hp : p ≤ L) : ∃ (p2 : Nat) (c2 : Int32), p2 ≤ L ∧ f_X9_sum F (ps m (nI p) f e d c o so nu op) = some (ps m (nI p2) f e d c2 o so nu op) := by
  obtain ⟨p2, c2, h1, h2⟩ := g_val (e := e) (d := d) (c := c) (o := o) (so := so) (nu := nu) (op := op) hr hF hf hp
  exact ⟨_, c2, sk_le h1, by rw [sum_RefV]; exact RefV_bad hr hF hf h1 h2 (by omega) (by omega)⟩
end SM
