/-! reading, pure: the class's own steps; words and signs -/
theorem sk_le {B : Nat → Int32} {L p : Nat} (h : p ≤ L) : sk B L p ≤ L := re_le h
theorem sk_ge {B : Nat → Int32} {L p : Nat} (h : p ≤ L) : p ≤ sk B L p := re_ge h
theorem cb_r (B : Nat → Int32) (L i : Nat) : cb B L i = -1 ∨ (0 ≤ (cb B L i).toInt ∧ (cb B L i).toInt ≤ 255) := by
  unfold cb
  by_cases h : i < L
  · rw [if_pos h]
    obtain ⟨j, hj, ej⟩ := pk_andE (B i) (m := 255) 8 (by decide)
    refine Or.inr ?_
    rw [ej, nI_toInt (by omega)]
    omega
  · rw [if_neg h]
    exact Or.inl rfl
theorem isW_un {B : Nat → Int32} {L i j w v : Nat} (hw : w < 18) (hv : v < 18) (h1 : isW B L i j w = true) (h2 : isW B L i j v = true) : w = v := by
  unfold isW at h1 h2
  rw [Bool.and_eq_true, decide_eq_true_eq, decide_eq_true_eq] at h1 h2
  have hl : xl w = xl v := by omega
  exact (show ∀ w, w < 18 → ∀ v, v < 18 → xl w = xl v → (∀ k, k < 7 → k < xl w → xc w k &&& 255 = xc v k &&& 255) → w = v from by decide +kernel) w hw v hv hl (fun k _ hk => by rw [← h1.2 k hk, ← h2.2 k (by omega)])
theorem xl_pos {w : Nat} (h : w < 18) : 0 < xl w := (show ∀ w, w < 18 → 0 < xl w from by decide) w h
theorem kw_iff {B : Nat → Int32} {L i j w : Nat} (hw : w < 18) : ∀ n, n ≤ 18 → (kw B L i j n = nI (260 + w) ↔ w < n ∧ isW B L i j w = true)
  | 0, _ => ⟨fun h => absurd h ((show ∀ w, w < 18 → ¬ (258 : Int32) = nI (260 + w) from by decide) w hw), fun h => absurd h.1 (by omega)⟩
  | n + 1, hn => by
    show (if isW B L i j n = true then nI (260 + n) else kw B L i j n) = _ ↔ _
    by_cases h : isW B L i j n = true
    · rw [if_pos h, nI_eq (by omega) (by omega)]
      exact ⟨fun e => by
        have : w = n := by omega
        rw [this]
        exact ⟨by omega, h⟩, fun e => by
        have := isW_un (by omega) hw h e.2
        omega⟩
    · rw [if_neg h, kw_iff hw n (by omega)]
      exact ⟨fun e => ⟨by omega, e.2⟩, fun e => ⟨by
        have : w ≠ n := fun q => h (q ▸ e.2)
        omega, e.2⟩⟩
theorem kw_r {B : Nat → Int32} {L i j : Nat} : ∀ n, n ≤ 18 → kw B L i j n = 258 ∨ ∃ w, w < n ∧ isW B L i j w = true ∧ kw B L i j n = nI (260 + w)
  | 0, _ => Or.inl rfl
  | n + 1, hn => by
    show (if isW B L i j n = true then nI (260 + n) else kw B L i j n) = _ ∨ _
    by_cases h : isW B L i j n = true
    · exact Or.inr ⟨n, by omega, h, if_pos h⟩
    · rcases kw_r n (by omega) with q | ⟨w, h1, h2, h3⟩
      · exact Or.inl (by rw [if_neg h]; exact q)
      · refine Or.inr ⟨w, by omega, h2, ?_⟩
        show (if isW B L i j n = true then nI (260 + n) else kw B L i j n) = _
        rw [if_neg h]
        exact h3
theorem lexK_w {B : Nat → Int32} {L i w : Nat} (hw : w < 18) : lexK B L i = nI (260 + w) ↔ isW B L i (re (lB B L) L i) w = true := by
  unfold lexK
  by_cases h1 : lB B L i = true
  · rw [if_pos h1, kw_iff hw 18 (Nat.le_refl _)]
    exact ⟨fun h => h.2, fun h => ⟨hw, h⟩⟩
  · rw [if_neg h1, re_f (by simpa using h1)]
    constructor
    · intro h
      have hr := cb_r B L i
      rw [sp_eq, nI_toInt (by omega)] at h
      by_cases h2 : dB B L i = true
      · rw [if_pos h2, show (259 : Int32).toInt = 259 from by decide] at h
        omega
      · rw [if_neg h2] at h
        by_cases h3 : (cb B L i = 60 ∨ cb B L i = 62) ∧ cb B L (i + 1) = 61
        · rw [if_pos h3] at h
          by_cases h4 : cb B L i = 60
          · rw [if_pos h4, show (256 : Int32).toInt = 256 from by decide] at h
            omega
          · rw [if_neg h4, show (257 : Int32).toInt = 257 from by decide] at h
            omega
        · rw [if_neg h3] at h
          rcases hr with hr | hr
          · rw [hr, spm1] at h
            omega
          · omega
    · intro h
      have := xl_pos hw
      unfold isW at h
      rw [Bool.and_eq_true, decide_eq_true_eq] at h
      omega
theorem isW_end {B : Nat → Int32} {L i w : Nat} (hw : w < 18) (h : isW B L i (re (lB B L) L i) w = true) : lexE B L i = i + xl w ∧ lB B L i = true := by
  have hp := xl_pos hw
  have h1 : lB B L i = true := by
    cases q : lB B L i with
    | true => rfl
    | false =>
      rw [re_f q] at h
      unfold isW at h
      rw [Bool.and_eq_true, decide_eq_true_eq] at h
      omega
  unfold lexE
  rw [if_pos h1]
  unfold isW at h
  rw [Bool.and_eq_true, decide_eq_true_eq] at h
  exact ⟨by omega, h1⟩
theorem lexK_d {B : Nat → Int32} {L i : Nat} : lexK B L i = 259 ↔ dB B L i = true := by
  unfold lexK
  by_cases h1 : lB B L i = true
  · rw [if_pos h1]
    constructor
    · intro h
      rcases kw_r (B := B) (L := L) (i := i) (j := re (lB B L) L i) 18 (Nat.le_refl _) with q | ⟨w, hw, _, q⟩
      · rw [q] at h
        exact absurd h (by decide)
      · rw [q] at h
        exact absurd h ((show ∀ w, w < 18 → ¬ nI (260 + w) = (259 : Int32) from by decide) w hw)
    · intro h
      have a := (isL_i _).mp (of_decide_eq_true h1)
      have b := (isD_i _).mp (of_decide_eq_true h)
      omega
  · rw [if_neg h1]
    by_cases h2 : dB B L i = true
    · rw [if_pos h2]
      exact ⟨fun _ => h2, fun _ => rfl⟩
    · rw [if_neg h2]
      refine ⟨fun h => ?_, fun h => absurd h h2⟩
      have hr := cb_r B L i
      rw [sp_eq, show (259 : Int32).toInt = 259 from by decide] at h
      by_cases h3 : (cb B L i = 60 ∨ cb B L i = 62) ∧ cb B L (i + 1) = 61
      · rw [if_pos h3] at h
        by_cases h4 : cb B L i = 60
        · rw [if_pos h4, show (256 : Int32).toInt = 256 from by decide] at h
          omega
        · rw [if_neg h4, show (257 : Int32).toInt = 257 from by decide] at h
          omega
      · rw [if_neg h3] at h
        rcases hr with hr | hr
        · rw [hr, spm1] at h
          omega
        · omega
/-- a sign of one byte that is no part of a longer one -/
abbrev sg1 (x : Int32) : Prop := (0 ≤ x.toInt ∧ x.toInt ≤ 255) ∧ ¬ isL x ∧ ¬ isD x ∧ ¬ x = 60 ∧ ¬ x = 62
theorem lexK_s {B : Nat → Int32} {L i : Nat} {x : Int32} (hx : sg1 x) : lexK B L i = x ↔ cb B L i = x := by
  unfold lexK
  by_cases h1 : lB B L i = true
  · rw [if_pos h1]
    constructor
    · intro h
      rcases kw_r (B := B) (L := L) (i := i) (j := re (lB B L) L i) 18 (Nat.le_refl _) with q | ⟨w, hw, _, q⟩
      · rw [q] at h
        have := hx.1
        rw [← h, show (258 : Int32).toInt = 258 from by decide] at this
        omega
      · rw [q] at h
        have := hx.1
        rw [← h, nI_toInt (by omega)] at this
        omega
    · intro h
      exact absurd (h ▸ of_decide_eq_true h1) hx.2.1
  · rw [if_neg h1]
    by_cases h2 : dB B L i = true
    · rw [if_pos h2]
      exact ⟨fun h => by
        have := hx.1
        rw [← h, show (259 : Int32).toInt = 259 from by decide] at this
        omega, fun h => absurd (h ▸ of_decide_eq_true h2) hx.2.2.1⟩
    · rw [if_neg h2]
      by_cases h3 : (cb B L i = 60 ∨ cb B L i = 62) ∧ cb B L (i + 1) = 61
      · rw [if_pos h3]
        constructor
        · intro h
          have := hx.1
          by_cases h4 : cb B L i = 60
          · rw [if_pos h4] at h
            rw [← h, show (256 : Int32).toInt = 256 from by decide] at this
            omega
          · rw [if_neg h4] at h
            rw [← h, show (257 : Int32).toInt = 257 from by decide] at this
            omega
        · intro h
          rw [h] at h3
          exact absurd h3.1 (fun q => q.elim hx.2.2.2.1 hx.2.2.2.2)
      · rw [if_neg h3]
theorem lexE_s {B : Nat → Int32} {L i : Nat} {x : Int32} (hx : sg1 x) (h : cb B L i = x) : lexE B L i = i + 1 ∧ i < L := by
  constructor
  · unfold lexE
    have a1 : ¬ lB B L i = true := fun q => hx.2.1 (h ▸ of_decide_eq_true q)
    have a2 : ¬ dB B L i = true := fun q => hx.2.2.1 (h ▸ of_decide_eq_true q)
    have a3 : ¬ ((cb B L i = 60 ∨ cb B L i = 62) ∧ cb B L (i + 1) = 61) := fun q => q.1.elim (fun z => hx.2.2.2.1 (h ▸ z)) (fun z => hx.2.2.2.2 (h ▸ z))
    rw [if_neg a1, if_neg a2, if_neg a3]
  · by_cases q : i < L
    · exact q
    · rw [cb_out (by omega)] at h
      have := hx.1
      rw [← h, spm1] at this
      omega
/-- no piece is told by a number below -1, nor between 277 and 1000 -/
theorem lexK_E {B : Nat → Int32} {L i : Nat} (hi : i ≤ L) : lexK B L i = -1 ↔ i = L := by
  constructor
  · intro h
    by_cases q : i = L
    · exact q
    · exfalso
      have hl : i < L := by omega
      have hr := cb_r B L i
      have hn : ¬ cb B L i = -1 := by
        rw [cb_in hl]
        obtain ⟨j, hj, ej⟩ := pk_andE (B i) (m := 255) 8 (by decide)
        rw [ej, sp_eq, nI_toInt (by omega), spm1]
        omega
      unfold lexK at h
      by_cases h1 : lB B L i = true
      · rw [if_pos h1] at h
        rcases kw_r (B := B) (L := L) (i := i) (j := re (lB B L) L i) 18 (Nat.le_refl _) with q | ⟨w, hw, _, q⟩
        · rw [q] at h
          exact absurd h (by decide)
        · rw [q] at h
          exact absurd h ((show ∀ w, w < 18 → ¬ nI (260 + w) = (-1 : Int32) from by decide) w hw)
      · rw [if_neg h1] at h
        by_cases h2 : dB B L i = true
        · rw [if_pos h2] at h
          exact absurd h (by decide)
        · rw [if_neg h2] at h
          by_cases h3 : (cb B L i = 60 ∨ cb B L i = 62) ∧ cb B L (i + 1) = 61
          · rw [if_pos h3] at h
            by_cases h4 : cb B L i = 60
            · rw [if_pos h4] at h
              exact absurd h (by decide)
            · rw [if_neg h4] at h
              exact absurd h (by decide)
          · rw [if_neg h3] at h
            exact hn h
  · intro h
    exact lexK_end (by omega)
/-! the class's tape while it is read -/
noncomputable def tpa (x : OB) (t f : Int32) : OB := (uF (uF x.1 6 t) 7 f, x.2.1, x.2.2)
theorem tpa_t {x : OB} {t f v : Int32} : ((uF (tpa x t f).1 6 v, (tpa x t f).2.1, (tpa x t f).2.2) : OB) = tpa x v f := by
  unfold tpa
  try dsimp only
  rw [uF_cm (i := 7) (j := 6) (by decide), uF_uF]
theorem tpa_f {x : OB} {t f v : Int32} : ((uF (tpa x t f).1 7 v, (tpa x t f).2.1, (tpa x t f).2.2) : OB) = tpa x t v := by
  unfold tpa
  try dsimp only
  rw [uF_uF]
noncomputable def TX (B : Nat → Int32) (L : Nat) (x : OB) (n : Nat) : Prop := x.1 1 = nI L ∧ x.1 5 = nI n ∧ L ≤ 400 ∧ n ≤ 401 ∧ Tab B L (x.2.1 2) (x.2.1 3) (x.2.1 4) 0 n 0
noncomputable def At (L : Nat) (x : OB) (n t i : Nat) : Prop := t < n ∧ i ≤ L ∧ x.2.1 3 t = nI i
section CL
variable {F : Nat} {B : Nat → Int32} {L n t i : Nat} {x : OB} {f : Int32}
theorem At.at (h : TX B L x n) (a : At L x n t i) : x.2.1 2 t = lexK B L i ∧ x.2.1 4 t = lexV B L i ∧ (i = L → t + 1 = n) ∧ (i < L → At L x n (t + 1) (sk B L (lexE B L i))) := by
  obtain ⟨h1, h2, h4, hn, _, _, h3⟩ := h
  obtain ⟨a1, a2, a3⟩ := a
  obtain ⟨q, q1, q2, q3, q4, q5, q6⟩ := h3 t (Nat.zero_le _) a1
  have e : q = i := by
    rw [a3] at q2
    exact ((nI_eq (by omega) (by omega)).mp q2).symm
  subst e
  exact ⟨q3, q4, q5, fun hl => ⟨(q6 hl).1, re_le (lexE_gt hl).2, (q6 hl).2⟩⟩
theorem s_kind (h : TX B L x n) (a : At L x n t i) : f_X7_kind F (tpa x (nI t) f) = some (lexK B L i) := by
  unfold f_X7_kind b_X7_kind_24
  have hn := h.2.2.2.1
  have ht := a.1
  rw [show (tpa x (nI t) f).1 5 = nI n from h.2.1, show (tpa x (nI t) f).1 6 = nI t from rfl, show (tpa x (nI t) f).2.1 2 = x.2.1 2 from rfl, if_neg (nI_ge ht (by omega)), if_pos (ib_n (by omega) (by decide)), nI_clamp (by omega), (a.at h).1]
theorem s_value (h : TX B L x n) (a : At L x n t i) : f_X7_value F (tpa x (nI t) f) = some (lexV B L i) := by
  unfold f_X7_value b_X7_value_24
  have hn := h.2.2.2.1
  have ht := a.1
  rw [show (tpa x (nI t) f).1 5 = nI n from h.2.1, show (tpa x (nI t) f).1 6 = nI t from rfl, show (tpa x (nI t) f).2.1 4 = x.2.1 4 from rfl, if_neg (nI_ge ht (by omega)), if_pos (ib_n (by omega) (by decide)), nI_clamp (by omega), (a.at h).2.1]
theorem s_skip (h : TX B L x n) (a : At L x n t i) (hi : i < L) : f_X7_skip F (tpa x (nI t) f) = some (tpa x (nI (t + 1)) f) := by
  unfold f_X7_skip b_X7_skip_23
  have hn := h.2.2.2.1
  have ht := ((a.at h).2.2.2 hi).1
  rw [show (tpa x (nI t) f).1 5 = nI n from h.2.1, show (tpa x (nI t) f).1 6 = nI t from rfl, nI_1, if_neg (nI_ge ht (by omega)), tpa_t]
theorem s_take {k : Int32} (h : TX B L x n) (a : At L x n t i) (hk : ¬ k = -1) : f_X7_take F k (tpa x (nI t) f) = if lexK B L i = k then some (1, tpa x (nI (t + 1)) f) else some (0, tpa x (nI t) f) := by
  unfold f_X7_take
  rw [s_kind h a, bd_some]
  by_cases q : lexK B L i = k
  · have hi : i < L := by
      by_cases z : i < L
      · exact z
      · rw [lexK_end (by omega)] at q
        exact absurd q.symm hk
    rw [if_pos q, if_pos q, s_skip h a hi, bd_some]
  · rw [if_neg q, if_neg q]
theorem s_fail {k : Int32} (h : TX B L x n) (a : At L x n t i) : f_X7_fail F k (tpa x (nI t) f) = some (0, tpa x (nI t) (1 + 8 * nI i + k)) := by
  unfold f_X7_fail b_X7_fail_31
  have hn := h.2.2.2.1
  have ht := a.1
  rw [show (tpa x (nI t) f).1 5 = nI n from h.2.1, show (tpa x (nI t) f).1 6 = nI t from rfl, show (tpa x (nI t) f).2.1 3 = x.2.1 3 from rfl, if_neg (nI_ge ht (by omega)), if_pos (ib_n (by omega) (by decide)), nI_clamp (by omega), a.2.2, tpa_f]
end CL
/-! the class's rule while it is read -/
noncomputable def rus (y : OB) (len u : Int32) (st : Nat → Int32) : OB := (uF (uF y.1 5 len) 7 u, uF y.2.1 0 st, y.2.2)
theorem rus_u {y : OB} {len u v : Int32} {st : Nat → Int32} : ((uF (rus y len u st).1 7 v, (rus y len u st).2.1, (rus y len u st).2.2) : OB) = rus y len v st := by
  unfold rus
  try dsimp only
  rw [uF_uF]
theorem s_add {F : Nat} {y : OB} {len : Nat} {u k : Int32} {st : Nat → Int32} (h : len < 400) : f_X4_add F k (rus y (nI len) u st) = some (rus y (nI (len + 1)) u (upd st len k)) := by
  unfold f_X4_add b_X4_add_30
  rw [show (rus y (nI len) u st).1 5 = nI len from rfl, show (rus y (nI len) u st).2.1 0 = st from rfl, if_neg (show ¬ (400 : Int32) ≤ nI len from by
    rw [sp_le, nI_toInt (by omega), show (400 : Int32).toInt = 400 from by decide]
    omega), if_pos (ib_n h (by decide)), nI_clamp (by omega), nI_1]
  unfold rus
  try dsimp only
  rw [uF_cm (i := 7) (j := 5) (by decide), uF_uF, uF_uF]
/-! the reference: faults, entries, what is counted, numbers -/
section RE
variable {F : Nat} {m : OB} {L s p : Nat} {f e d c o : Int32} {so nu op : Nat → Int32}
theorem s_fails {k q : Int32} {pp : Int32} : f_X9_fails F k q (ps m pp f e d c o so nu op) = some (ps m pp (if f = 0 then 1 + 8 * q + k else f) e d c o so nu op) := by
  unfold f_X9_fails b_X9_fails_23
  rw [show (ps m pp f e d c o so nu op).1 20 = f from rfl]
  by_cases h : f = 0
  · rw [if_pos h, if_pos h, ps_f]
  · rw [if_neg h, if_neg h, ps_f]
theorem s_entry {k v : Int32} {pp : Int32} {n : Nat} (h : RB m L s) (hn : n < 300) : f_X9_entry F k v (ps m pp 0 (nI n) d c o so nu op) = some (ps m pp 0 (nI (n + 1)) d c o (upd so (300 * s + n) k) (upd nu (300 * s + n) v) op) := by
  unfold f_X9_entry b_X9_entry_55
  have hs := h.2.2.2.2.1
  rw [show (ps m pp 0 (nI n) d c o so nu op).1 20 = 0 from rfl, if_pos rfl, show (ps m pp 0 (nI n) d c o so nu op).1 21 = nI s from h.2.2.2.1, show (ps m pp 0 (nI n) d c o so nu op).1 23 = nI n from rfl, show (300 : Int32) = nI 300 from rfl, pk_mul, nI_add, if_pos (ib_n (by omega) (by decide)), nI_clamp (by omega), nI_1]
  exact congrArg some ps_en
theorem g_entry {k v : Int32} {pp : Int32} (hf : ¬ f = 0) : f_X9_entry F k v (ps m pp f e d c o so nu op) = some (ps m pp f e d c o so nu op) := by
  unfold f_X9_entry b_X9_entry_55
  rw [show (ps m pp f e d c o so nu op).1 20 = f from rfl, if_neg hf]
theorem s_counted {q pp : Int32} : f_X9_isCounted F q (ps m pp f e d c o so nu op) = some (ps m pp (if c = 60 ∧ f = 0 then 1 + 8 * q + 3 else f) e d (c + 1) o so nu op) := by
  unfold f_X9_isCounted b_X9_isCounted_15
  rw [show (ps m pp f e d c o so nu op).1 25 = c from rfl]
  by_cases h : c = 60
  · rw [if_pos h, s_fails, bd_some, show (ps m pp (if f = 0 then 1 + 8 * q + 3 else f) e d c o so nu op).1 25 = c from rfl, ps_c]
    by_cases hf : f = 0
    · rw [if_pos hf, if_pos ⟨h, hf⟩]
    · rw [if_neg hf, if_neg (fun z => hf z.2)]
  · rw [if_neg h, ps_c, if_neg (fun z => h z.1)]
theorem dv_b {B : Nat → Int32} {i : Nat} : ∀ n, n ≤ 5 → (∀ k, k < n → dB B L (i + k) = true) → ∃ v, dv B L i n = nI v ∧ v < 10 ^ n
  | 0, _, _ => ⟨0, rfl, by decide⟩
  | n + 1, hn, h => by
    obtain ⟨v, e, hv⟩ := dv_b n (by omega) (fun k hk => h k (by omega))
    have hd := (isD_i _).mp (of_decide_eq_true (h n (by omega)))
    obtain ⟨q, hq, eq⟩ := nI_of (x := cb B L (i + n)) (by rw [sp_lt, sp0]; omega)
    rw [eq, nI_toInt hq] at hd
    have h5 : 10 ^ n ≤ 10 ^ 4 := Nat.pow_le_pow_right (by decide) (by omega)
    refine ⟨v * 10 + q - 48, ?_, ?_⟩
    · show dv B L i n * 10 + cb B L (i + n) - 48 = _
      rw [e, eq, show (10 : Int32) = nI 10 from rfl, pk_mul, nI_add, show (48 : Int32) = nI 48 from rfl, pk_sub (by omega)]
    · rw [Nat.pow_succ]
      omega
theorem s_digits (h : RB m L s) (hF : 600 ≤ F) (hp : p < L) (hd : dB (m.2.1 28) L p = true) : f_X9_digits F 99999 (ps m (nI p) f e d c o so nu op) = some (dv (m.2.1 28) L p (min 5 (re (dB (m.2.1 28) L) L p - p)), ps m (nI (re (dB (m.2.1 28) L) L p)) (if f = 0 ∧ 5 < re (dB (m.2.1 28) L) L p - p then 1 + 8 * nI p + 1 else f) e d c o so nu op) := by
  have h4 := h.2.1
  unfold f_X9_digits
  rw [s_isDigit9 h (by omega), bd_some, if_pos (of_decide_eq_true hd), if_neg (by decide), show (ps m (nI p) f e d c o so nu op).1 19 = nI p from rfl]
  have e0 : (0 : Int32) = dv (m.2.1 28) L p (min 5 (p - p)) := by
    rw [Nat.sub_self]
    rfl
  rw [show (((99999 : Int32), nI p, (0 : Int32), ps m (nI p) f e d c o so nu op) : Int32 × Int32 × Int32 × OB) = (fun q => ((99999 : Int32), nI p, dv (m.2.1 28) L p (min 5 (q - p)), ps m (nI q) f e d c o so nu op)) p from by
    try dsimp only
    rw [← e0]]
  rw [lp_run (st := fun q => ((99999 : Int32), nI p, dv (m.2.1 28) L p (min 5 (q - p)), ps m (nI q) f e d c o so nu op)) (r := fun q => if 5 < nI (q - p) then b_X9_digits_87 F (nI p) (dv (m.2.1 28) L p (min 5 (q - p))) (ps m (nI q) f e d c o so nu op) else (if dv (m.2.1 28) L p (min 5 (q - p)) ≤ 99999 then b_X9_digits_93 F (dv (m.2.1 28) L p (min 5 (q - p))) (ps m (nI q) f e d c o so nu op) else b_X9_digits_87 F (nI p) (dv (m.2.1 28) L p (min 5 (q - p))) (ps m (nI q) f e d c o so nu op))) (P := dB (m.2.1 28) L) (L := L) (i0 := p) (fun k q h0 hq hb => by
      unfold b_X9_digits_25 b_X9_digits_58
      try dsimp only
      rw [s_isDigit9 h (by omega), bd_some, if_pos (of_decide_eq_true hb), if_neg (by decide), show (ps m (nI q) f e d c o so nu op).1 19 = nI q from rfl, pk_sub h0, nI_1, ps_p]
      by_cases h5 : 5 ≤ q - p
      · rw [if_pos ((s_5le (by omega)).mpr h5), show min 5 (q + 1 - p) = min 5 (q - p) from by omega]
      · rw [if_neg (fun z => h5 ((s_5le (by omega)).mp z)), s_sign h (by omega), bd_some, show min 5 (q + 1 - p) = (q - p) + 1 from by omega, show min 5 (q - p) = q - p from by omega]
        show _ = k (99999, nI p, dv (m.2.1 28) L p (q - p) * 10 + cb (m.2.1 28) L (p + (q - p)) - 48, ps m (nI (q + 1)) f e d c o so nu op)
        rw [show p + (q - p) = q from by omega, Int32.mul_comm])
    (fun k q h0 hq hb => by
      unfold b_X9_digits_25
      try dsimp only
      rw [s_isDigit9 h (by omega), bd_some, show (ps m (nI q) f e d c o so nu op).1 19 = nI q from rfl, pk_sub h0]
      by_cases z : q < L
      · rw [if_neg (of_decide_eq_false (hb z)), if_pos rfl]
      · rw [if_neg (show ¬ isD (cb (m.2.1 28) L q) from by rw [cb_out (by omega)]; decide), if_pos rfl]) F p (Nat.le_refl _) (by omega) (by omega)]
  have hge := re_ge (P := dB (m.2.1 28) L) (L := L) (i := p) (by omega)
  have hle := re_le (P := dB (m.2.1 28) L) (L := L) (i := p) (by omega)
  have hin := re_in (P := dB (m.2.1 28) L) (L := L) _ p rfl
  generalize re (dB (m.2.1 28) L) L p = j at hge hle hin ⊢
  unfold b_X9_digits_87 b_X9_digits_93
  have e5 : (5 : Int32) < nI (j - p) ↔ 5 < j - p := by
    rw [sp_lt, nI_toInt (by omega), show (5 : Int32).toInt = 5 from by decide]
    omega
  by_cases h5 : 5 < j - p
  · rw [if_pos (e5.mpr h5), s_fails, bd_some]
    by_cases hf : f = 0
    · rw [if_pos hf, if_pos ⟨hf, h5⟩]
    · rw [if_neg hf, if_neg (fun z => hf z.1)]
  · rw [if_neg (fun z => h5 (e5.mp z)), if_neg (show ¬ (f = 0 ∧ 5 < j - p) from fun z => h5 z.2)]
    obtain ⟨v, ev, hv⟩ := dv_b (B := m.2.1 28) (L := L) (i := p) (min 5 (j - p)) (by omega) (fun k hk => hin (p + k) (by omega) (by omega))
    have h9 : 10 ^ min 5 (j - p) ≤ 10 ^ 5 := Nat.pow_le_pow_right (by decide) (by omega)
    rw [ev, if_pos (show nI v ≤ (99999 : Int32) from by
      rw [sp_le, nI_toInt (by omega), show (99999 : Int32).toInt = 99999 from by decide]
      omega)]
theorem s_wdY {w : Nat} (h : w < 11) : wdY (nI w) = w := (show ∀ w, w < 11 → wdY (nI w) = w from by decide) w h
/-- which of the first n words stands here -/
noncomputable def fw_ (B : Nat → Int32) (L i j : Nat) : Nat → Nat → Nat
  | 0, k => k
  | n + 1, k => if isW B L i j k = true then k else fw_ B L i j n (k + 1)
theorem fw_lt {B : Nat → Int32} {i j : Nat} : ∀ (n k : Nat), k ≤ fw_ B L i j n k ∧ fw_ B L i j n k ≤ k + n ∧ (fw_ B L i j n k < k + n → isW B L i j (fw_ B L i j n k) = true) ∧ (fw_ B L i j n k = k + n → ∀ w, k ≤ w → w < k + n → ¬ isW B L i j w = true)
  | 0, k => ⟨Nat.le_refl _, Nat.le_refl _, fun h => absurd h (Nat.lt_irrefl _), fun _ w h1 h2 => absurd h2 (by omega)⟩
  | n + 1, k => by
    show k ≤ (if _ then _ else _) ∧ _
    have ih := fw_lt (B := B) (i := i) (j := j) n (k + 1)
    have e : fw_ B L i j (n + 1) k = if isW B L i j k = true then k else fw_ B L i j n (k + 1) := rfl
    by_cases h : isW B L i j k = true
    · rw [if_pos h] at e ⊢
      rw [e]
      exact ⟨Nat.le_refl _, by omega, fun _ => h, fun q => absurd q (by omega)⟩
    · rw [if_neg h] at e ⊢
      rw [e]
      refine ⟨by omega, by omega, fun q => ih.2.2.1 (by omega), fun q w h1 h2 => ?_⟩
      by_cases ew : w = k
      · rw [ew]; exact h
      · exact ih.2.2.2 (by omega) w (by omega) (by omega)
theorem s_words (h : RB m L s) (hF : 600 ≤ F) (hp : p ≤ L) : ∀ (n g k : Nat), k + n = 11 → n < g → lp (b_X9_value_37 F) g (nI p, nI k, ps m (nI p) f e d c o so nu op) = b_X9_value_62 F (nI p) (nI (fw_ (m.2.1 28) L p (re (lB (m.2.1 28) L) L p) n k)) (ps m (nI p) f e d c o so nu op)
  | 0, 0, _, _, hg => absurd hg (by omega)
  | 0, g + 1, k, hk, hg => by
    rw [lp_S]
    unfold b_X9_value_37
    try dsimp only
    rw [show (ps m (nI p) f e d c o so nu op).1 27 = 11 from h.2.2.2.2.2, show k = 11 from by omega, if_pos (by decide)]
    rfl
  | n + 1, 0, _, _, hg => absurd hg (by omega)
  | n + 1, g + 1, k, hk, hg => by
    rw [lp_S]
    unfold b_X9_value_37
    try dsimp only
    rw [show (ps m (nI p) f e d c o so nu op).1 27 = 11 from h.2.2.2.2.2, if_neg (show ¬ (11 : Int32) ≤ nI k from by
      rw [sp_le, nI_toInt (by omega), show (11 : Int32).toInt = 11 from by decide]
      omega), s_wdY (by omega), s_stood h hF hp (by omega) (xl_pos (by omega)), bd_some, nI_1]
    have e : fw_ (m.2.1 28) L p (re (lB (m.2.1 28) L) L p) (n + 1) k = if isW (m.2.1 28) L p (re (lB (m.2.1 28) L) L p) k = true then k else fw_ (m.2.1 28) L p (re (lB (m.2.1 28) L) L p) n (k + 1) := rfl
    by_cases q : isW (m.2.1 28) L p (re (lB (m.2.1 28) L) L p) k = true
    · rw [if_pos q] at e
      rw [if_pos q, if_neg (by decide), e]
    · rw [if_neg q] at e
      rw [if_neg q, if_pos rfl, e]
      exact s_words h hF hp n g (k + 1) (by omega) (by omega)
end RE
