/-! code, pure: entries of the reference and steps of the class; a value; a sum -/
noncomputable def tr (a b : Int32) : Int32 := if a = 0 then 1000 + b else if a = 1 then 260 + b else if a = 2 then 43 else if a = 3 then 45 else if a = 4 then 60 else if a = 5 then 256 else if a = 6 then 61 else if a = 7 then 257 else if a = 8 then 62 else if a = 9 then 277 else if a = 10 then 276 else if a = 11 then 275 else if a = 13 then 42 else if a = 14 then 47 else 37
noncomputable def VE (a b : Int32) : Prop := (a = 0 ∧ ∃ v, v < 100000 ∧ b = nI v) ∨ (a = 1 ∧ ∃ w, w < 11 ∧ b = nI w) ∨ (∃ q, a = nI q ∧ 2 ≤ q ∧ q ≤ 15 ∧ q ≠ 12)
noncomputable def CE (s len : Nat) (st so nu : Nat → Int32) : Prop := ∀ j, j < len → st j = tr (so (300 * s + j)) (nu (300 * s + j)) ∧ VE (so (300 * s + j)) (nu (300 * s + j))
theorem CE.app {s len : Nat} {st so nu : Nat → Int32} (h : CE s len st so nu) {a b k : Int32} (hv : VE a b) (hk : k = tr a b) : CE s (len + 1) (upd st len k) (upd so (300 * s + len) a) (upd nu (300 * s + len) b) := by
  intro j hj
  by_cases e : j = len
  · subst e
    rw [pk_us, pk_us, pk_us]
    exact ⟨hk, hv⟩
  · rw [pk_un e, pk_un (by omega), pk_un (by omega)]
    exact h j (by omega)
noncomputable def FrS (s : Nat) (f g : Nat → Int32) : Prop := ∀ j, j < 300 * s ∨ 300 * s + 300 ≤ j → g j = f j
theorem FrS.rf {s : Nat} {f : Nat → Int32} : FrS s f f := fun _ _ => rfl
theorem FrS.tr {s : Nat} {f g h : Nat → Int32} (a : FrS s f g) (b : FrS s g h) : FrS s f h := fun j q => (b j q).trans (a j q)
theorem FrS.up {s n : Nat} {f g : Nat → Int32} {v : Int32} (a : FrS s f g) (hn : n < 300) : FrS s f (upd g (300 * s + n) v) := fun j q => by
  rw [pk_un (by omega)]
  exact a j q
abbrev vaK (k : Int32) : Prop := 1000 ≤ k ∨ (260 ≤ k ∧ k ≤ 270)
abbrev arK (k : Int32) : Prop := k = 37 ∨ k = 42 ∨ k = 43 ∨ k = 45 ∨ k = 47
abbrev cmK (k : Int32) : Prop := k = 60 ∨ k = 61 ∨ k = 62 ∨ k = 256 ∨ k = 257
abbrev loK (k : Int32) : Prop := k = 275 ∨ k = 276
noncomputable def k1_ : List Bool → Option (List Bool)
  | false :: τ => some (false :: τ)
  | _ => none
noncomputable def k2_ (x y : Bool) : List Bool → Option (List Bool)
  | u :: v :: τ => if u = x ∧ v = x then some (y :: τ) else none
  | _ => none
/-- kinds on the stack (true: a number, false: a fact): one step -/
noncomputable def kst (k : Int32) (σ : List Bool) : Option (List Bool) := if vaK k then some (true :: σ) else if k = 277 then k1_ σ else if arK k then k2_ true true σ else if cmK k then k2_ true false σ else if loK k then k2_ false false σ else none
/-- kinds on the stack behind steps -/
noncomputable def hgt (st : Nat → Int32) : Nat → Nat → List Bool → Option (List Bool)
  | 0, _, σ => some σ
  | n + 1, a, σ => (kst (st a) σ).bind (fun τ => hgt st n (a + 1) τ)
theorem hgt_add {st : Nat → Int32} {n2 : Nat} : ∀ (n a : Nat) (σ : List Bool), hgt st (n + n2) a σ = (hgt st n a σ).bind (fun τ => hgt st n2 (a + n) τ)
  | 0, a, σ => by
    rw [Nat.zero_add]
    rfl
  | n + 1, a, σ => by
    rw [show n + 1 + n2 = (n + n2) + 1 from by omega]
    show (kst (st a) σ).bind (fun τ => hgt st (n + n2) (a + 1) τ) = ((kst (st a) σ).bind (fun τ => hgt st n (a + 1) τ)).bind (fun τ => hgt st n2 (a + (n + 1)) τ)
    cases kst (st a) σ with
    | none => rfl
    | some τ =>
      show hgt st (n + n2) (a + 1) τ = (hgt st n (a + 1) τ).bind (fun τ => hgt st n2 (a + (n + 1)) τ)
      rw [hgt_add n (a + 1) τ, show a + 1 + n = a + (n + 1) from by omega]
theorem hgt_cg {st st2 : Nat → Int32} : ∀ (n a : Nat) (σ : List Bool), (∀ j, a ≤ j → j < a + n → st2 j = st j) → hgt st2 n a σ = hgt st n a σ := by
  intro n
  induction n with
  | zero => exact fun _ _ _ => rfl
  | succ n ih =>
    intro a σ q
    show (kst (st2 a) σ).bind (fun τ => hgt st2 n (a + 1) τ) = (kst (st a) σ).bind (fun τ => hgt st n (a + 1) τ)
    rw [q a (Nat.le_refl _) (by omega)]
    exact congrArg (Option.bind (kst (st a) σ)) (funext fun τ => ih (a + 1) τ (fun j h1 h2 => q j (by omega) (by omega)))
/-- from the a-th step to the b-th the stack grows by k of a kind -/
noncomputable def Seg (κ : Bool) (st : Nat → Int32) (a b k : Nat) : Prop := a ≤ b ∧ ∀ σ, hgt st (b - a) a σ = some (List.replicate k κ ++ σ)
theorem Seg.cg {κ : Bool} {st st2 : Nat → Int32} {a b k : Nat} (h : Seg κ st a b k) (q : ∀ j, a ≤ j → j < b → st2 j = st j) : Seg κ st2 a b k := ⟨h.1, fun z => by
  rw [hgt_cg (b - a) a z (fun j h1 h2 => q j h1 (by have := h.1; omega))]
  exact h.2 z⟩
theorem Seg.z {κ : Bool} {st : Nat → Int32} {a : Nat} : Seg κ st a a 0 := ⟨Nat.le_refl _, fun h => by rw [Nat.sub_self]; rfl⟩
theorem Seg.tr {κ : Bool} {st : Nat → Int32} {a b c j k : Nat} (h1 : Seg κ st a b j) (h2 : Seg κ st b c k) : Seg κ st a c (j + k) := ⟨Nat.le_trans h1.1 h2.1, fun σ => by
  have a1 := h1.1
  have a2 := h2.1
  rw [show c - a = (b - a) + (c - b) from by omega, hgt_add, h1.2 σ]
  show hgt st (c - b) (a + (b - a)) (List.replicate j κ ++ σ) = _
  rw [show a + (b - a) = b from by omega, h2.2, ← List.append_assoc, List.replicate_append_replicate, Nat.add_comm]⟩
/-- a value's step -/
theorem Seg.v {st : Nat → Int32} {a : Nat} {k : Int32} (hk : vaK k) : Seg true (upd st a k) a (a + 1) 1 := ⟨by omega, fun σ => by
  rw [show a + 1 - a = 0 + 1 from by omega]
  show (kst (upd st a k a) σ).bind (fun τ => some τ) = some (true :: σ)
  rw [pk_us]
  unfold kst
  rw [if_pos hk]
  rfl⟩
/-- a step more -/
theorem seg_1 {st : Nat → Int32} {a b : Nat} {k : Int32} {σ τ υ : List Bool} (hab : a ≤ b) (h : hgt st (b - a) a σ = some τ) (hk : kst k τ = some υ) : hgt (upd st b k) (b + 1 - a) a σ = some υ := by
  rw [show b + 1 - a = (b - a) + 1 from by omega, hgt_add, hgt_cg (st := st) (b - a) a σ (fun q _ hq => pk_un (by omega)), h]
  show hgt (upd st b k) 1 (a + (b - a)) τ = _
  rw [show a + (b - a) = b from by omega]
  show (kst (upd st b k b) τ).bind (fun τ => some τ) = _
  rw [pk_us, hk]
  rfl
noncomputable def opK : Bool → Int32 → Prop
  | true, k => arK k
  | false, k => loK k
theorem kst_b {κ : Bool} {k : Int32} (hk : opK κ k) (τ : List Bool) : kst k (κ :: κ :: τ) = some (κ :: τ) := by
  cases κ with
  | true =>
    have hk : arK k := hk
    rcases hk with e | e | e | e | e <;> rw [e] <;> rfl
  | false =>
    have hk : loK k := hk
    rcases hk with e | e <;> rw [e] <;> rfl
theorem kst_c {k : Int32} (hk : cmK k) (τ : List Bool) : kst k (true :: true :: τ) = some (false :: τ) := by
  rcases hk with e | e | e | e | e <;> rw [e] <;> rfl
/-- one of two: a step for two -/
theorem Seg.b {κ : Bool} {st : Nat → Int32} {a b j : Nat} {k : Int32} (h : Seg κ st a b (j + 2)) (hk : opK κ k) : Seg κ (upd st b k) a (b + 1) (j + 1) := ⟨by have := h.1; omega, fun σ => seg_1 h.1 (h.2 σ) (kst_b hk (List.replicate j κ ++ σ))⟩
/-- two numbers are compared -/
theorem Seg.c {st : Nat → Int32} {a b : Nat} {k : Int32} (h : Seg true st a b 2) (hk : cmK k) : Seg false (upd st b k) a (b + 1) 1 := ⟨by have := h.1; omega, fun σ => seg_1 h.1 (h.2 σ) (kst_c hk σ)⟩
theorem Seg.n {st : Nat → Int32} {a b j : Nat} (h : Seg false st a b (j + 1)) : Seg false (upd st b 277) a (b + 1) (j + 1) := ⟨by have := h.1; omega, fun σ => seg_1 h.1 (h.2 σ) (τ := false :: (List.replicate j false ++ σ)) rfl⟩
theorem flt {i k : Nat} : (1 : Int32) + 8 * nI i + nI k = nI (1 + 8 * i + k) := by
  rw [show (8 : Int32) = nI 8 from rfl, show (1 : Int32) = nI 1 from rfl, pk_mul, nI_add, nI_add]
theorem c60 {u : Nat} (h : u < 2 ^ 31) : nI u = 60 ↔ u = 60 := by
  rw [show (60 : Int32) = nI 60 from rfl, nI_eq h (by decide)]
theorem l60 {u : Nat} (h : u < 2 ^ 31) : nI u < 60 ↔ u < 60 := by
  rw [show (60 : Int32) = nI 60 from rfl, nI_ltI h (by decide)]
section VS
variable {F : Nat} {m x y : OB} {L s n t i p u len : Nat} {d o : Int32} {st so nu op : Nat → Int32}
theorem c_bad (hx : TX (m.2.1 28) L x n) (ha : At L x n t i) {k : Nat} {ru : OB} : Option.bind (f_X7_fail F (nI k) (tpa x (nI t) 0)) (fun q => if bo q.1 then some (q.1, q.2, ru) else none) = some (0, tpa x (nI t) (nI (1 + 8 * i + k)), ru) := by
  rw [s_fail hx ha, bd_some, if_pos (Or.inl rfl), flt]
/-- a value that can't stand here -/
theorem cv_bad (hx : TX (m.2.1 28) L x n) (ha : At L x n t i) (h1 : ¬ lexK (m.2.1 28) L i = 259) (h2 : ∀ w, w < 11 → ¬ lexK (m.2.1 28) L i = nI (260 + w)) {ru : OB} : f_X5_readValue F (tpa x (nI t) 0) ru = some (0, tpa x (nI t) (nI (1 + 8 * i + 0)), ru) := by
  unfold f_X5_readValue
  rw [s_kind hx ha, bd_some, s_value hx ha, bd_some, if_neg h1]
  have b31 : b_X5_readValue_31 F (tpa x (nI t) 0) ru = some (0, tpa x (nI t) (nI (1 + 8 * i + 0)), ru) := c_bad (k := 0) hx ha
  by_cases q : lexK (m.2.1 28) L i < 260
  · rw [if_pos q, b31]
  · rw [if_neg q]
    by_cases q2 : lexK (m.2.1 28) L i ≤ 270
    · exfalso
      rw [sp_lt, show (260 : Int32).toInt = 260 from by decide] at q
      rw [sp_le, show (270 : Int32).toInt = 270 from by decide] at q2
      refine h2 ((lexK (m.2.1 28) L i).toInt - 260).toNat (by omega) ?_
      rw [sp_eq, nI_toInt (by omega)]
      omega
    · rw [if_neg q2, b31]
theorem cv_go (hx : TX (m.2.1 28) L x n) (ha : At L x n t i) (hi : i < L) (hu : u ≤ 60) (hl : len < 300) {K V k : Int32} (hk : k = if K = 259 then 1000 + V else K) : b_X5_readValue_55 F K V (tpa x (nI t) 0) (rus y (nI len) (nI u) st) = if u < 60 then some (1, tpa x (nI (t + 1)) 0, rus y (nI (len + 1)) (nI (u + 1)) (upd st len k)) else some (0, tpa x (nI t) (nI (1 + 8 * i + 3)), rus y (nI len) (nI u) st) := by
  unfold b_X5_readValue_55 b_X5_readValue_101
  rw [show (rus y (nI len) (nI u) st).1 7 = nI u from rfl, nI_1, rus_u]
  by_cases h : u < 60
  · rw [if_pos ((l60 (by omega)).mpr h), if_pos h, s_skip hx ha hi, bd_some]
    by_cases h2 : K = 259
    · rw [if_pos h2] at hk
      rw [if_pos h2, s_add (by omega), bd_some, hk]
    · rw [if_neg h2] at hk
      rw [if_neg h2, s_add (by omega), bd_some, hk]
  · rw [if_neg (fun z => h ((l60 (by omega)).mp z)), if_neg h]
    exact c_bad (k := 3) hx ha
theorem v_sim (hr : RB m L s) (hF : 600 ≤ F) (hx : TX (m.2.1 28) L x n) (ha : At L x n t i) (hp : p ≤ L) (hk : sk (m.2.1 28) L p = i) (hu : u ≤ 60) (hl : len < 300) :
    (∃ (φ p2 : Nat) (c2 : Int32), 0 < φ ∧ φ < 4000 ∧ p2 ≤ L ∧ f_X5_readValue F (tpa x (nI t) 0) (rus y (nI len) (nI u) st) = some (0, tpa x (nI t) (nI φ), rus y (nI len) (nI u) st) ∧ f_X9_value F (ps m (nI p) 0 (nI len) d (nI u) o so nu op) = some (ps m (nI p2) (nI φ) (nI len) d c2 o so nu op))
    ∨ (∃ k a b : Int32, u < 60 ∧ i < L ∧ VE a b ∧ k = tr a b ∧ (1000 ≤ k ∨ (260 ≤ k ∧ k ≤ 270)) ∧ f_X5_readValue F (tpa x (nI t) 0) (rus y (nI len) (nI u) st) = some (1, tpa x (nI (t + 1)) 0, rus y (nI (len + 1)) (nI (u + 1)) (upd st len k)) ∧ f_X9_value F (ps m (nI p) 0 (nI len) d (nI u) o so nu op) = some (ps m (nI (lexE (m.2.1 28) L i)) 0 (nI (len + 1)) d (nI (u + 1)) o (upd so (300 * s + len) a) (upd nu (300 * s + len) b) op)) := by
  have h4 := hr.2.1
  have hi := ha.2.1
  have nz : ∀ φ : Nat, 0 < φ → φ < 4000 → ¬ nI φ = 0 := fun φ h1 h2 => nI_ne0 h1 (by omega)
  have ev : f_X9_value F (ps m (nI p) 0 (nI len) d (nI u) o so nu op) = if dB (m.2.1 28) L i = true then (Option.bind (f_X9_digits F 99999 (ps m (nI i) 0 (nI len) d (nI u) o so nu op)) (fun q12 => (Option.bind (f_X9_isCounted F (nI i) q12.2) (fun q13 => (Option.bind (f_X9_entry F 0 q12.1 q13) (fun q14 => (some q14))))))) else b_X9_value_62 F (nI i) (nI (fw_ (m.2.1 28) L i (re (lB (m.2.1 28) L) L i) 11 0)) (ps m (nI i) 0 (nI len) d (nI u) o so nu op) := by
    unfold f_X9_value
    rw [s_blanks hr hF hp, bd_some, hk, s_isDigit9 hr (by omega), bd_some, show (ps m (nI i) 0 (nI len) d (nI u) o so nu op).1 19 = nI i from rfl]
    by_cases q : dB (m.2.1 28) L i = true
    · rw [if_pos (of_decide_eq_true q), if_neg (by decide), if_pos q]
    · rw [if_neg (fun z9 => q (decide_eq_true z9)), if_pos rfl, if_neg q]
      exact s_words hr hF hi 11 F 0 (by decide) (by omega)
  rw [ev]
  by_cases hd : dB (m.2.1 28) L i = true
  · have hK := lexK_d.mpr hd
    have hiL : i < L := by
      by_cases z : i < L
      · exact z
      · rw [dB_out i (by omega)] at hd
        cases hd
    have hnl : ¬ lB (m.2.1 28) L i = true := fun q => by
      have a := (isL_i _).mp (of_decide_eq_true q)
      have b := (isD_i _).mp (of_decide_eq_true hd)
      omega
    have hE : lexE (m.2.1 28) L i = re (dB (m.2.1 28) L) L i := by
      unfold lexE
      rw [if_neg hnl, if_pos hd]
    have hV : lexV (m.2.1 28) L i = if re (dB (m.2.1 28) L) L i - i ≤ 5 then dv (m.2.1 28) L i (re (dB (m.2.1 28) L) L i - i) else -1 := by
      unfold lexV
      rw [if_neg hnl, if_pos hd]
    have hge := re_ge (P := dB (m.2.1 28) L) hi
    have hle := re_le (P := dB (m.2.1 28) L) hi
    have hin := re_in (P := dB (m.2.1 28) L) (L := L) _ i rfl
    rw [if_pos hd, s_digits hr hF hiL hd, bd_some]
    try dsimp only
    rw [s_counted, bd_some]
    have cl : f_X5_readValue F (tpa x (nI t) 0) (rus y (nI len) (nI u) st) = b_X5_readValue_37 F 259 (lexV (m.2.1 28) L i) (tpa x (nI t) 0) (rus y (nI len) (nI u) st) := by
      unfold f_X5_readValue
      rw [s_kind hx ha, bd_some, s_value hx ha, bd_some, hK, if_pos rfl]
    rw [cl, hE]
    unfold b_X5_readValue_37
    rw [if_pos rfl, hV]
    by_cases h5 : re (dB (m.2.1 28) L) L i - i ≤ 5
    · obtain ⟨v, e1, hv⟩ := dv_b (B := m.2.1 28) (L := L) (i := i) (re (dB (m.2.1 28) L) L i - i) h5 (fun k hk => hin (i + k) (by omega) (by omega))
      have h9 : 10 ^ (re (dB (m.2.1 28) L) L i - i) ≤ 10 ^ 5 := Nat.pow_le_pow_right (by decide) h5
      rw [if_pos h5, show min 5 (re (dB (m.2.1 28) L) L i - i) = re (dB (m.2.1 28) L) L i - i from by omega, e1, if_neg (show ¬ nI v = -1 from by rw [sp_eq, nI_toInt (by omega), spm1]; omega), if_neg (show ¬ ((0 : Int32) = 0 ∧ 5 < re (dB (m.2.1 28) L) L i - i) from fun z => by omega)]
      rw [cv_go hx ha hiL hu hl (k := 1000 + nI v) (by rw [if_pos rfl])]
      by_cases h6 : u < 60
      · refine Or.inr ⟨1000 + nI v, 0, nI v, h6, hiL, Or.inl ⟨rfl, v, by omega, rfl⟩, by unfold tr; rw [if_pos rfl], Or.inl ?_, ?_, ?_⟩
        · rw [show (1000 : Int32) = nI 1000 from rfl, nI_add]
          exact nI_le (by omega) (by omega)
        · rw [if_pos h6]
        · rw [if_neg (fun z => by have := (c60 (by omega)).mp z.1; omega), nI_1, s_entry hr hl, bd_some]
      · have hu6 : u = 60 := by omega
        refine Or.inl ⟨1 + 8 * i + 3, re (dB (m.2.1 28) L) L i, nI u + 1, by omega, by omega, hle, by rw [if_neg h6], ?_⟩
        have e3 : (1 : Int32) + 8 * nI i + 3 = nI (1 + 8 * i + 3) := flt (k := 3)
        rw [if_pos ⟨(c60 (by omega)).mpr hu6, rfl⟩, e3, g_entry (nz _ (by omega) (by omega)), bd_some]
    · rw [if_neg h5, if_pos rfl, if_pos (show (0 : Int32) = 0 ∧ 5 < re (dB (m.2.1 28) L) L i - i from ⟨rfl, by omega⟩)]
      have e1 : (1 : Int32) + 8 * nI i + 1 = nI (1 + 8 * i + 1) := flt (k := 1)
      refine Or.inl ⟨1 + 8 * i + 1, re (dB (m.2.1 28) L) L i, nI u + 1, by omega, by omega, hle, c_bad (k := 1) hx ha, ?_⟩
      rw [e1, if_neg (fun z => nz _ (by omega) (by omega) z.2), g_entry (nz _ (by omega) (by omega)), bd_some]
  · have hK : ¬ lexK (m.2.1 28) L i = 259 := fun q => hd (lexK_d.mp q)
    rw [if_neg hd]
    obtain ⟨f1, f2, f3, f4⟩ := fw_lt (L := L) (B := m.2.1 28) (i := i) (j := re (lB (m.2.1 28) L) L i) 11 0
    generalize hg : fw_ (m.2.1 28) L i (re (lB (m.2.1 28) L) L i) 11 0 = w at f1 f2 f3 f4 ⊢
    unfold b_X9_value_62
    rw [show (ps m (nI i) 0 (nI len) d (nI u) o so nu op).1 27 = 11 from hr.2.2.2.2.2]
    by_cases hw : w = 11
    · have hno : ∀ v, v < 11 → ¬ lexK (m.2.1 28) L i = nI (260 + v) := fun v hv q => f4 (by omega) v (by omega) (by omega) ((lexK_w (by omega)).mp q)
      have e1 : (1 : Int32) + 8 * nI i + 0 = nI (1 + 8 * i + 0) := flt (k := 0)
      rw [hw, if_pos (show nI 11 = (11 : Int32) from rfl), s_fails, bd_some, if_pos rfl, e1]
      exact Or.inl ⟨1 + 8 * i + 0, i, _, by omega, by omega, hi, cv_bad hx ha hK hno, rfl⟩
    · have hwl : w < 11 := by omega
      have hW := f3 (by omega)
      have hKw := (lexK_w (B := m.2.1 28) (L := L) (i := i) (w := w) (by omega)).mpr hW
      obtain ⟨hE, hlet⟩ := isW_end (by omega) hW
      have hiL : i < L := by
        by_cases z : i < L
        · exact z
        · rw [lB_out i (by omega)] at hlet
          cases hlet
      have hEL := (lexE_gt (B := m.2.1 28) hiL).2
      rw [if_neg (show ¬ nI w = (11 : Int32) from fun q => by
        rw [show (11 : Int32) = nI 11 from rfl, nI_eq (by omega) (by decide)] at q
        omega), s_counted, bd_some, s_wdY hwl, if_pos (by omega)]
      have cl : f_X5_readValue F (tpa x (nI t) 0) (rus y (nI len) (nI u) st) = b_X5_readValue_55 F (nI (260 + w)) (lexV (m.2.1 28) L i) (tpa x (nI t) 0) (rus y (nI len) (nI u) st) := by
        unfold f_X5_readValue b_X5_readValue_37
        rw [s_kind hx ha, bd_some, s_value hx ha, bd_some, hKw, if_neg (show ¬ nI (260 + w) = (259 : Int32) from fun q => by
          rw [show (259 : Int32) = nI 259 from rfl, nI_eq (by omega) (by decide)] at q
          omega), if_neg (show ¬ nI (260 + w) < (260 : Int32) from by
          rw [sp_lt, nI_toInt (by omega), show (260 : Int32).toInt = 260 from by decide]
          omega), if_pos (show nI (260 + w) ≤ (270 : Int32) from by
          rw [sp_le, nI_toInt (by omega), show (270 : Int32).toInt = 270 from by decide]
          omega), if_neg (show ¬ nI (260 + w) = (259 : Int32) from fun q => by
          rw [show (259 : Int32) = nI 259 from rfl, nI_eq (by omega) (by decide)] at q
          omega)]
      rw [cl, cv_go hx ha hiL hu hl (k := nI (260 + w)) (by rw [if_neg (show ¬ nI (260 + w) = (259 : Int32) from fun q => by
          rw [show (259 : Int32) = nI 259 from rfl, nI_eq (by omega) (by decide)] at q
          omega)]), hE]
      have e19 : ∀ (f c : Int32), (ps m (nI i) f (nI len) d c o so nu op).1 19 = nI i := fun _ _ => rfl
      by_cases h6 : u < 60
      · refine Or.inr ⟨nI (260 + w), 1, nI w, h6, hiL, Or.inr (Or.inl ⟨rfl, w, hwl, rfl⟩), ?_, Or.inr ⟨?_, ?_⟩, by rw [if_pos h6], ?_⟩
        · unfold tr
          rw [if_neg (by decide), if_pos rfl, show (260 : Int32) = nI 260 from rfl, nI_add]
        · rw [sp_le, nI_toInt (by omega), show (260 : Int32).toInt = 260 from by decide]
          omega
        · rw [sp_le, nI_toInt (by omega), show (270 : Int32).toInt = 270 from by decide]
          omega
        · rw [if_neg (fun z => by have := (c60 (by omega)).mp z.1; omega), nI_1, e19, nI_add, ps_p, s_entry hr hl, bd_some]
      · have hu6 : u = 60 := by omega
        refine Or.inl ⟨1 + 8 * i + 3, i + xl w, nI u + 1, by omega, by omega, by omega, by rw [if_neg h6], ?_⟩
        have e3 : (1 : Int32) + 8 * nI i + 3 = nI (1 + 8 * i + 3) := flt (k := 3)
        rw [if_pos ⟨(c60 (by omega)).mpr hu6, rfl⟩, e19, nI_add, ps_p, e3, g_entry (nz _ (by omega) (by omega)), bd_some]
end VS
