/-! 34.pure -/
section
/-! texts, pure: bytes, runs, pieces -/
theorem ib_n {a n : Nat} (h : a < n) (hn : n < 2 ^ 31) : ib (nI a) n := by
  unfold ib
  rw [nI_toInt (by omega)]
  omega
theorem uF_s {α : Type} {f : Nat → α} {i : Nat} {x : α} : uF f i x i = x := if_pos rfl
theorem uF_n {α : Type} {f : Nat → α} {i j : Nat} {x : α} (h : j ≠ i) : uF f i x j = f j := if_neg h
theorem uF_uF {α : Type} {f : Nat → α} {i : Nat} {x y : α} : uF (uF f i x) i y = uF f i y := by
  funext j
  unfold uF
  by_cases h : j = i
  · rw [if_pos h, if_pos h]
  · rw [if_neg h, if_neg h, if_neg h]
theorem uF_cm {α : Type} {f : Nat → α} {i j : Nat} {x y : α} (h : i ≠ j) : uF (uF f i x) j y = uF (uF f j y) i x := by
  funext q
  unfold uF
  by_cases h1 : q = j
  · rw [if_pos h1, if_neg (by omega), if_pos h1]
  · rw [if_neg h1]
    by_cases h2 : q = i
    · rw [if_pos h2, if_pos h2]
    · rw [if_neg h2, if_neg h2, if_neg h1]
theorem uF_id {α : Type} {f : Nat → α} {i : Nat} : uF f i (f i) = f := by
  funext j
  unfold uF
  by_cases h : j = i
  · rw [if_pos h, h]
  · rw [if_neg h]
theorem lp_S {α β : Type} (body : (α → Option β) → α → Option β) (n : Nat) (a : α) : lp body (n + 1) a = body (lp body n) a := rfl
theorem bd_some {α β : Type} (x : α) (g : α → Option β) : Option.bind (some x) g = g x := rfl
/-- a run -/
noncomputable def reF (P : Nat → Bool) : Nat → Nat → Nat
  | 0, i => i
  | n + 1, i => if P i = true then reF P n (i + 1) else i
noncomputable def re (P : Nat → Bool) (L i : Nat) : Nat := reF P (L - i) i
theorem re_t {P : Nat → Bool} {L i : Nat} (h : i < L) (hp : P i = true) : re P L i = re P L (i + 1) := by
  unfold re
  rw [show L - i = (L - (i + 1)) + 1 from by omega]
  show (if P i = true then _ else _) = _
  rw [if_pos hp]
theorem re_f {P : Nat → Bool} {L i : Nat} (hp : P i = false) : re P L i = i := by
  unfold re
  cases L - i with
  | zero => rfl
  | succ n =>
    show (if P i = true then _ else _) = _
    rw [if_neg (by rw [hp]; decide)]
theorem re_bd {P : Nat → Bool} {L : Nat} : ∀ (n i : Nat), L - i = n → i ≤ L → i ≤ re P L i ∧ re P L i ≤ L
  | 0, i, h, hi => by
    unfold re
    rw [h]
    exact ⟨Nat.le_refl _, hi⟩
  | n + 1, i, h, hi => by
    by_cases hp : P i = true
    · rw [re_t (by omega) hp]
      have := re_bd (P := P) (L := L) n (i + 1) (by omega) (by omega)
      omega
    · rw [re_f (by simpa using hp)]
      omega
theorem re_ge {P : Nat → Bool} {L i : Nat} (hi : i ≤ L) : i ≤ re P L i := (re_bd _ i rfl hi).1
theorem re_le {P : Nat → Bool} {L i : Nat} (hi : i ≤ L) : re P L i ≤ L := (re_bd _ i rfl hi).2
theorem re_out {P : Nat → Bool} {L : Nat} (hP : ∀ j, L ≤ j → P j = false) : ∀ (n i : Nat), L - i = n → P (re P L i) = false
  | 0, i, h => by
    unfold re
    rw [h]
    exact hP i (by omega)
  | n + 1, i, h => by
    by_cases hp : P i = true
    · rw [re_t (by omega) hp]
      exact re_out hP n (i + 1) (by omega)
    · have hp : P i = false := by simpa using hp
      rw [re_f hp]
      exact hp
theorem re_in {P : Nat → Bool} {L : Nat} : ∀ (n i : Nat), L - i = n → ∀ j, i ≤ j → j < re P L i → P j = true
  | 0, i, h, j, h1, h2 => by
    unfold re at h2
    rw [h] at h2
    exact absurd h2 (by show ¬ j < i; omega)
  | n + 1, i, h, j, h1, h2 => by
    by_cases hp : P i = true
    · rw [re_t (by omega) hp] at h2
      by_cases e : j = i
      · rw [e]; exact hp
      · exact re_in n (i + 1) (by omega) j (by omega) h2
    · rw [re_f (by simpa using hp)] at h2
      exact absurd h2 (by omega)
/-- a loop over a run -/
theorem lp_run {α β : Type} {body : (α → Option β) → α → Option β} {st : Nat → α} {r : Nat → Option β} {P : Nat → Bool} {L i0 : Nat} (h1 : ∀ k j, i0 ≤ j → j < L → P j = true → body k (st j) = k (st (j + 1))) (h2 : ∀ k j, i0 ≤ j → j ≤ L → (j < L → P j = false) → body k (st j) = r j) : ∀ (n i : Nat), i0 ≤ i → i ≤ L → L - i < n → lp body n (st i) = r (re P L i)
  | 0, i, _, _, h => absurd h (by omega)
  | n + 1, i, h0, hi, h => by
    rw [lp_S]
    by_cases hl : i < L
    · by_cases hp : P i = true
      · rw [h1 _ i h0 hl hp, re_t hl hp]
        exact lp_run h1 h2 n (i + 1) (by omega) (by omega) (by omega)
      · have hp : P i = false := by simpa using hp
        rw [h2 _ i h0 hi (fun _ => hp), re_f hp]
    · rw [h2 _ i h0 hi (fun q => absurd q hl)]
      have : re P L i = i := by
        unfold re
        rw [show L - i = 0 from by omega]
        rfl
      rw [this]
/-- a byte of the tape, as the readers see it -/
noncomputable def cb (B : Nat → Int32) (L i : Nat) : Int32 := if i < L then B i &&& 255 else -1
abbrev isL (x : Int32) : Prop := 97 ≤ x ∧ x ≤ 122
abbrev isD (x : Int32) : Prop := 48 ≤ x ∧ x ≤ 57
theorem isL_i (x : Int32) : isL x ↔ 97 ≤ x.toInt ∧ x.toInt ≤ 122 := by
  unfold isL
  rw [sp_le, sp_le, show (97 : Int32).toInt = 97 from by decide, show (122 : Int32).toInt = 122 from by decide]
theorem isD_i (x : Int32) : isD x ↔ 48 ≤ x.toInt ∧ x.toInt ≤ 57 := by
  unfold isD
  rw [sp_le, sp_le, show (48 : Int32).toInt = 48 from by decide, show (57 : Int32).toInt = 57 from by decide]
theorem cb_out {B : Nat → Int32} {L i : Nat} (h : L ≤ i) : cb B L i = -1 := by
  unfold cb
  rw [if_neg (by omega)]
theorem cb_in {B : Nat → Int32} {L i : Nat} (h : i < L) : cb B L i = B i &&& 255 := by
  unfold cb
  rw [if_pos h]
noncomputable def lB (B : Nat → Int32) (L i : Nat) : Bool := decide (isL (cb B L i))
noncomputable def dB (B : Nat → Int32) (L i : Nat) : Bool := decide (isD (cb B L i))
noncomputable def sB (B : Nat → Int32) (L i : Nat) : Bool := decide (cb B L i = 32)
theorem lB_out {B : Nat → Int32} {L : Nat} : ∀ j, L ≤ j → lB B L j = false := fun j h => by
  unfold lB
  rw [cb_out h]
  decide
theorem dB_out {B : Nat → Int32} {L : Nat} : ∀ j, L ≤ j → dB B L j = false := fun j h => by
  unfold dB
  rw [cb_out h]
  decide
theorem sB_out {B : Nat → Int32} {L : Nat} : ∀ j, L ≤ j → sB B L j = false := fun j h => by
  unfold sB
  rw [cb_out h]
  decide
/-- is it this word? -/
noncomputable def isW (B : Nat → Int32) (L i j w : Nat) : Bool := decide (j - i = xl w) && decide (∀ k, k < xl w → cb B L (i + k) = xc w k &&& 255)
noncomputable def kw (B : Nat → Int32) (L i j : Nat) : Nat → Int32
  | 0 => 258
  | n + 1 => if isW B L i j n = true then nI (260 + n) else kw B L i j n
noncomputable def dv (B : Nat → Int32) (L i : Nat) : Nat → Int32
  | 0 => 0
  | n + 1 => dv B L i n * 10 + cb B L (i + n) - 48
noncomputable def lexE (B : Nat → Int32) (L i : Nat) : Nat := if lB B L i = true then re (lB B L) L i else if dB B L i = true then re (dB B L) L i else if (cb B L i = 60 ∨ cb B L i = 62) ∧ cb B L (i + 1) = 61 then i + 2 else i + 1
noncomputable def lexK (B : Nat → Int32) (L i : Nat) : Int32 := if lB B L i = true then kw B L i (re (lB B L) L i) 18 else if dB B L i = true then 259 else if (cb B L i = 60 ∨ cb B L i = 62) ∧ cb B L (i + 1) = 61 then (if cb B L i = 60 then 256 else 257) else cb B L i
noncomputable def lexV (B : Nat → Int32) (L i : Nat) : Int32 := if lB B L i = true then 0 else if dB B L i = true then (if re (dB B L) L i - i ≤ 5 then dv B L i (re (dB B L) L i - i) else -1) else 0
noncomputable abbrev sk (B : Nat → Int32) (L i : Nat) : Nat := re (sB B L) L i
theorem lexE_gt {B : Nat → Int32} {L i : Nat} (h : i < L) : i < lexE B L i ∧ lexE B L i ≤ L := by
  unfold lexE
  by_cases h1 : lB B L i = true
  · rw [if_pos h1, re_t h h1]
    exact ⟨Nat.lt_of_lt_of_le (Nat.lt_succ_self i) (re_ge (by omega)), re_le (by omega)⟩
  · rw [if_neg h1]
    by_cases h2 : dB B L i = true
    · rw [if_pos h2, re_t h h2]
      exact ⟨Nat.lt_of_lt_of_le (Nat.lt_succ_self i) (re_ge (by omega)), re_le (by omega)⟩
    · rw [if_neg h2]
      by_cases h3 : (cb B L i = 60 ∨ cb B L i = 62) ∧ cb B L (i + 1) = 61
      · rw [if_pos h3]
        have : i + 1 < L := by
          by_cases q : i + 1 < L
          · exact q
          · have e3 := h3.2
            rw [cb_out (by omega)] at e3
            exact absurd e3 (by decide)
        omega
      · rw [if_neg h3]
        omega
theorem lexK_end {B : Nat → Int32} {L i : Nat} (h : L ≤ i) : lexK B L i = -1 := by
  unfold lexK
  rw [if_neg (by rw [lB_out i h]; decide), if_neg (by rw [dB_out i h]; decide), cb_out h, if_neg (fun z => absurd z.1 (by decide))]
theorem lexV_end {B : Nat → Int32} {L i : Nat} (h : L ≤ i) : lexV B L i = 0 := by
  unfold lexV
  rw [if_neg (by rw [lB_out i h]; decide), if_neg (by rw [dB_out i h]; decide)]
/-! the tape's own methods -/
theorem s_byteAt {F : Nat} {tp : OB} {L i : Nat} (hL : tp.1 1 = nI L) (h4 : L ≤ 400) (hi : i < 2 ^ 30) : f_X7_byteAt F (nI i) tp = some (cb (tp.2.1 0) L i) := by
  unfold f_X7_byteAt b_X7_byteAt_25 b_X7_byteAt_26
  rw [if_neg (nI_pos (by omega)), hL]
  by_cases h : i < L
  · rw [if_neg (nI_ge h (by omega)), if_pos (ib_n (by omega) (by decide)), nI_clamp (by omega), cb_in h]
  · rw [if_pos (nI_le (by omega) (by omega)), cb_out (by omega)]
theorem s_isLetter (F : Nat) (x : Int32) : f_X7_isLetter F x = some (if isL x then 1 else 0) := by
  unfold f_X7_isLetter b_X7_isLetter_16 b_X7_isLetter_17
  by_cases h1 : x < 97
  · rw [if_pos h1, if_pos (Or.inl rfl), if_neg (fun h => by
      have := (isL_i x).mp h
      rw [sp_lt, show (97 : Int32).toInt = 97 from by decide] at h1
      omega)]
  · rw [if_neg h1]
    by_cases h2 : 122 < x
    · rw [if_pos h2, if_pos (Or.inl rfl), if_neg (fun h => by
        have := (isL_i x).mp h
        rw [sp_lt, show (122 : Int32).toInt = 122 from by decide] at h2
        omega)]
    · rw [if_neg h2, if_pos (Or.inr rfl), if_pos ((isL_i x).mpr (by
        rw [sp_lt, show (97 : Int32).toInt = 97 from by decide] at h1
        rw [sp_lt, show (122 : Int32).toInt = 122 from by decide] at h2
        omega))]
theorem s_isDigit (F : Nat) (x : Int32) : f_X7_isDigit F x = some (if isD x then 1 else 0) := by
  unfold f_X7_isDigit b_X7_isDigit_16 b_X7_isDigit_17
  by_cases h1 : x < 48
  · rw [if_pos h1, if_pos (Or.inl rfl), if_neg (fun h => by
      have := (isD_i x).mp h
      rw [sp_lt, show (48 : Int32).toInt = 48 from by decide] at h1
      omega)]
  · rw [if_neg h1]
    by_cases h2 : 57 < x
    · rw [if_pos h2, if_pos (Or.inl rfl), if_neg (fun h => by
        have := (isD_i x).mp h
        rw [sp_lt, show (57 : Int32).toInt = 57 from by decide] at h2
        omega)]
    · rw [if_neg h2, if_pos (Or.inr rfl), if_pos ((isD_i x).mpr (by
        rw [sp_lt, show (48 : Int32).toInt = 48 from by decide] at h1
        rw [sp_lt, show (57 : Int32).toInt = 57 from by decide] at h2
        omega))]
/-- the tape while it is cut up -/
noncomputable def tcs (tp : OB) (n : Nat) (K P V : Nat → Int32) : OB := (uF (uF (uF tp.1 5 (nI n)) 6 0) 7 0, uF (uF (uF tp.2.1 2 K) 3 P) 4 V, tp.2.2)
theorem tcs_B {tp : OB} {n : Nat} {K P V : Nat → Int32} : (tcs tp n K P V).2.1 0 = tp.2.1 0 := rfl
theorem s_put {F : Nat} {tp : OB} {n : Nat} {K P V : Nat → Int32} {x y z : Int32} (hn : n ≤ 400) : f_X7_put F x y z (tcs tp n K P V) = some (tcs tp (n + 1) (upd K n x) (upd P n y) (upd V n z)) := by
  unfold f_X7_put b_X7_put_50
  have e5 : (tcs tp n K P V).1 5 = nI n := rfl
  rw [e5, if_neg (show ¬ (400 : Int32) < nI n from by
    rw [sp_lt, nI_toInt (by omega), show (400 : Int32).toInt = 400 from by decide]
    omega), if_pos (ib_n (by omega) (by decide)), nI_clamp (by omega)]
  show some ((uF (uF (uF (uF tp.1 5 (nI n)) 6 0) 7 0) 5 (nI n + 1), uF (uF (uF (uF (uF (uF tp.2.1 2 K) 3 P) 4 V) 2 (upd K n x)) 3 (upd P n y)) 4 (upd V n z), tp.2.2) : OB) = some (tcs tp (n + 1) (upd K n x) (upd P n y) (upd V n z))
  unfold tcs
  rw [uF_cm (i := 7) (j := 5) (by decide), uF_cm (i := 6) (j := 5) (by decide), uF_uF, nI_1]
  rw [uF_cm (i := 4) (j := 2) (by decide), uF_cm (i := 3) (j := 2) (by decide), uF_uF]
  rw [uF_cm (i := 4) (j := 3) (by decide), uF_uF, uF_uF]
theorem s_reads {F : Nat} {tp : OB} {L i j w : Nat} (hF : 600 ≤ F) (hL : tp.1 1 = nI L) (h4 : L ≤ 400) (hw : w < 19) (hi : i ≤ j) (hj : j ≤ L) : f_X7_reads F w (nI i) (nI j) tp = some (if isW (tp.2.1 0) L i j w = true then 1 else 0) := by
  unfold f_X7_reads
  have hx := xl_b w
  rw [if_pos hw, pk_sub hi]
  by_cases e : j - i = xl w
  · rw [if_pos (by rw [e])]
    have main : ∀ (n q : Nat), q ≤ xl w → xl w - q < n → (∀ k, k < q → cb (tp.2.1 0) L (i + k) = xc w k &&& 255) → lp (b_X7_reads_15 F tp) n (w, nI i, nI q) = some (if isW (tp.2.1 0) L i j w = true then 1 else 0) := by
      intro n
      induction n with
      | zero => intro q _ h; exact absurd h (by omega)
      | succ n ih =>
        intro q hq hn hk
        rw [lp_S]
        unfold b_X7_reads_15
        try dsimp only
        rw [if_pos hw]
        by_cases hq2 : q = xl w
        · rw [if_pos (nI_le (by omega) (by omega)), if_pos (by
            unfold isW
            rw [decide_eq_true e, decide_eq_true (by rw [← hq2]; exact hk)]
            rfl)]
        · rw [if_neg (nI_ge (by omega) (by omega)), nI_add, s_byteAt hL h4 (by omega), bd_some, if_pos (ib_n (by omega) (by omega)), nI_clamp (by omega)]
          by_cases hc : cb (tp.2.1 0) L (i + q) = xc w q &&& 255
          · rw [if_pos hc, nI_1]
            exact ih (q + 1) (by omega) (by omega) (fun k hk2 => by
              by_cases ek : k = q
              · rw [ek]; exact hc
              · exact hk k (by omega))
          · rw [if_neg hc, if_neg (by
              unfold isW
              intro h
              rw [Bool.and_eq_true, decide_eq_true_eq, decide_eq_true_eq] at h
              exact hc (h.2 q (by omega)))]
    exact main F 0 (Nat.zero_le _) (by omega) (fun k hk => absurd hk (by omega))
  · rw [if_neg (fun q => e (by
      have := (nI_eq (by omega) (by omega)).mp q
      omega)), if_neg (by
      unfold isW
      intro h
      rw [Bool.and_eq_true, decide_eq_true_eq] at h
      exact e h.1)]
theorem s_wdX {w : Nat} (h : w < 18) : wdX (nI (260 + w)) = w := (show ∀ w, w < 18 → wdX (nI (260 + w)) = w from by decide) w h
theorem s_addWord {F : Nat} {tp : OB} {n L i : Nat} {K P V : Nat → Int32} (hF : 600 ≤ F) (hL : tp.1 1 = nI L) (h4 : L ≤ 400) (hi : i < L) (hn : n ≤ 400) (hl : lB (tp.2.1 0) L i = true) : f_X7_addWord F (nI i) (tcs tp n K P V) = some (nI (re (lB (tp.2.1 0) L) L i) - 1, tcs tp (n + 1) (upd K n (kw (tp.2.1 0) L i (re (lB (tp.2.1 0) L) L i) 18)) (upd P n (nI i)) (upd V n 0)) := by
  unfold f_X7_addWord
  have hL2 : (tcs tp n K P V).1 1 = nI L := hL
  rw [lp_run (st := fun j => (nI i, nI j, tcs tp n K P V)) (r := fun j => b_X7_addWord_27 F (nI i) (nI j) (tcs tp n K P V)) (P := lB (tp.2.1 0) L) (L := L) (i0 := 0) (fun k j _ hj hp => by
      unfold b_X7_addWord_2
      try dsimp only
      rw [hL2, if_neg (nI_ge hj (by omega)), s_byteAt hL2 h4 (by omega), bd_some, s_isLetter, bd_some, tcs_B, if_pos (of_decide_eq_true hp), if_neg (by decide), nI_1])
    (fun k j _ hj hp => by
      unfold b_X7_addWord_2
      try dsimp only
      rw [hL2]
      by_cases h : j < L
      · rw [if_neg (nI_ge h (by omega)), s_byteAt hL2 h4 (by omega), bd_some, s_isLetter, bd_some, tcs_B, if_neg (of_decide_eq_false (hp h)), if_pos rfl]
      · rw [if_pos (nI_le (by omega) (by omega))]) F i (Nat.zero_le _) (by omega) (by omega)]
  have hle := re_le (P := lB (tp.2.1 0) L) (L := L) (i := i) (by omega)
  have hge := re_ge (P := lB (tp.2.1 0) L) (L := L) (i := i) (by omega)
  generalize re (lB (tp.2.1 0) L) L i = j at hle hge ⊢
  unfold b_X7_addWord_27
  have main : ∀ (m w : Nat), w ≤ 18 → 18 - w < m → lp (b_X7_addWord_36 F) m (nI i, nI j, kw (tp.2.1 0) L i j w, nI (260 + w), tcs tp n K P V) = some (nI j - 1, tcs tp (n + 1) (upd K n (kw (tp.2.1 0) L i j 18)) (upd P n (nI i)) (upd V n 0)) := by
    intro m
    induction m with
    | zero => intro w _ h; exact absurd h (by omega)
    | succ m ih =>
      intro w hw hm
      rw [lp_S]
      unfold b_X7_addWord_36 b_X7_addWord_61
      try dsimp only
      by_cases e : w = 18
      · rw [if_pos (by rw [e]; decide), s_put hn, bd_some, e]
      · rw [if_neg (show ¬ (277 : Int32) < nI (260 + w) from by
          rw [sp_lt, nI_toInt (by omega), show (277 : Int32).toInt = 277 from by decide]
          omega), s_wdX (by omega), s_reads hF hL2 h4 (by omega) hge hle, bd_some, tcs_B, nI_1]
        have ek : kw (tp.2.1 0) L i j (w + 1) = if isW (tp.2.1 0) L i j w = true then nI (260 + w) else kw (tp.2.1 0) L i j w := rfl
        by_cases hc : isW (tp.2.1 0) L i j w = true
        · rw [if_pos hc] at ek
          rw [if_pos hc, if_neg (by decide), ← ek]
          exact ih (w + 1) (by omega) (by omega)
        · rw [if_neg hc] at ek
          rw [if_neg hc, if_pos rfl, ← ek]
          exact ih (w + 1) (by omega) (by omega)
  exact main F 0 (Nat.zero_le _) (by omega)
theorem s_le5 {a : Nat} (h : a < 2 ^ 31) : nI a ≤ 5 ↔ a ≤ 5 := by
  rw [sp_le, nI_toInt h, show (5 : Int32).toInt = 5 from by decide]
  omega
theorem s_5le {a : Nat} (h : a < 2 ^ 31) : 5 ≤ nI a ↔ 5 ≤ a := by
  rw [sp_le, nI_toInt h, show (5 : Int32).toInt = 5 from by decide]
  omega
theorem s_addNumber {F : Nat} {tp : OB} {n L i : Nat} {K P V : Nat → Int32} (hF : 600 ≤ F) (hL : tp.1 1 = nI L) (h4 : L ≤ 400) (hi : i < L) (hn : n ≤ 400) : f_X7_addNumber F (nI i) (tcs tp n K P V) = some (nI (re (dB (tp.2.1 0) L) L i) - 1, tcs tp (n + 1) (upd K n 259) (upd P n (nI i)) (upd V n (if re (dB (tp.2.1 0) L) L i - i ≤ 5 then dv (tp.2.1 0) L i (re (dB (tp.2.1 0) L) L i - i) else -1))) := by
  unfold f_X7_addNumber
  have hL2 : (tcs tp n K P V).1 1 = nI L := hL
  have e0 : (0 : Int32) = dv (tp.2.1 0) L i (min 5 (i - i)) := by
    rw [Nat.sub_self]
    rfl
  rw [show ((nI i, nI i, (0 : Int32), tcs tp n K P V) : Int32 × Int32 × Int32 × OB) = (fun q => (nI i, nI q, dv (tp.2.1 0) L i (min 5 (q - i)), tcs tp n K P V)) i from by
    try dsimp only
    rw [← e0]]
  rw [lp_run (st := fun q => (nI i, nI q, dv (tp.2.1 0) L i (min 5 (q - i)), tcs tp n K P V)) (r := fun q => b_X7_addNumber_50 F (nI i) (nI q) (dv (tp.2.1 0) L i (min 5 (q - i))) (tcs tp n K P V)) (P := dB (tp.2.1 0) L) (L := L) (i0 := i) (fun k q h0 hq hp => by
      unfold b_X7_addNumber_4 b_X7_addNumber_44
      try dsimp only
      rw [hL2, if_neg (nI_ge hq (by omega)), s_byteAt hL2 h4 (by omega), bd_some, s_isDigit, bd_some, tcs_B, if_pos (of_decide_eq_true hp), if_neg (by decide), pk_sub h0]
      by_cases h5 : 5 ≤ q - i
      · rw [if_pos ((s_5le (by omega)).mpr h5), nI_1, show min 5 (q + 1 - i) = min 5 (q - i) from by omega]
      · rw [if_neg (fun z => h5 ((s_5le (by omega)).mp z)), bd_some, nI_1, show min 5 (q + 1 - i) = (q - i) + 1 from by omega, show min 5 (q - i) = q - i from by omega]
        show _ = k (nI i, nI (q + 1), dv (tp.2.1 0) L i (q - i) * 10 + cb (tp.2.1 0) L (i + (q - i)) - 48, tcs tp n K P V)
        rw [show i + (q - i) = q from by omega])
    (fun k q h0 hq hp => by
      unfold b_X7_addNumber_4
      try dsimp only
      rw [hL2]
      by_cases h : q < L
      · rw [if_neg (nI_ge h (by omega)), s_byteAt hL2 h4 (by omega), bd_some, s_isDigit, bd_some, tcs_B, if_neg (of_decide_eq_false (hp h)), if_pos rfl]
      · rw [if_pos (nI_le (by omega) (by omega))]) F i (Nat.le_refl _) (by omega) (by omega)]
  have hle := re_le (P := dB (tp.2.1 0) L) (L := L) (i := i) (by omega)
  have hge := re_ge (P := dB (tp.2.1 0) L) (L := L) (i := i) (by omega)
  generalize re (dB (tp.2.1 0) L) L i = j at hle hge ⊢
  unfold b_X7_addNumber_50 b_X7_addNumber_67
  rw [pk_sub hge]
  by_cases h5 : j - i ≤ 5
  · rw [if_pos ((s_le5 (by omega)).mpr h5), s_put hn, bd_some, if_pos h5, show min 5 (j - i) = j - i from by omega]
  · rw [if_neg (fun z => h5 ((s_le5 (by omega)).mp z)), s_put hn, bd_some, if_neg h5]
theorem s_pred {j : Nat} (h : 0 < j) : nI j - 1 = nI (j - 1) := by
  rw [← nI_pred (j - 1), show j - 1 + 1 = j from by omega]
theorem s_addPiece {F : Nat} {tp : OB} {n L i : Nat} {K P V : Nat → Int32} (hF : 600 ≤ F) (hL : tp.1 1 = nI L) (h4 : L ≤ 400) (hi : i < L) (hn : n ≤ 400) : f_X7_addPiece F (nI i) (tcs tp n K P V) = some (nI (lexE (tp.2.1 0) L i - 1), tcs tp (n + 1) (upd K n (lexK (tp.2.1 0) L i)) (upd P n (nI i)) (upd V n (lexV (tp.2.1 0) L i))) := by
  unfold f_X7_addPiece
  have hL2 : (tcs tp n K P V).1 1 = nI L := hL
  have hE := lexE_gt (B := tp.2.1 0) hi
  rw [s_byteAt hL2 h4 (by omega), bd_some, s_isLetter, bd_some, tcs_B]
  unfold lexE at hE ⊢
  unfold lexK lexV
  by_cases h1 : lB (tp.2.1 0) L i = true
  · rw [if_pos h1] at hE
    rw [if_pos (of_decide_eq_true h1), if_neg (by decide), s_addWord hF hL h4 hi hn h1, bd_some, if_pos h1, if_pos h1, if_pos h1, s_pred (by omega)]
  · rw [if_neg h1] at hE
    rw [if_neg (fun z9 => h1 (decide_eq_true z9)), if_pos rfl, s_isDigit, bd_some, if_neg h1, if_neg h1, if_neg h1]
    by_cases h2 : dB (tp.2.1 0) L i = true
    · rw [if_pos h2] at hE
      rw [if_pos (of_decide_eq_true h2), if_neg (by decide), s_addNumber hF hL h4 hi hn, bd_some, if_pos h2, if_pos h2, if_pos h2, s_pred (by omega)]
    · rw [if_neg h2] at hE
      rw [if_neg (fun z9 => h2 (decide_eq_true z9)), if_pos rfl, if_neg h2, if_neg h2, if_neg h2]
      have tail : b_X7_addPiece_81 F (nI i) (cb (tp.2.1 0) L i) (tcs tp n K P V) = some (nI i, tcs tp (n + 1) (upd K n (cb (tp.2.1 0) L i)) (upd P n (nI i)) (upd V n 0)) := by
        unfold b_X7_addPiece_81
        rw [s_put hn, bd_some]
      have two : cb (tp.2.1 0) L i = 60 ∨ cb (tp.2.1 0) L i = 62 → b_X7_addPiece_44 F (nI i) (cb (tp.2.1 0) L i) (tcs tp n K P V) = some (nI ((if (cb (tp.2.1 0) L i = 60 ∨ cb (tp.2.1 0) L i = 62) ∧ cb (tp.2.1 0) L (i + 1) = 61 then i + 2 else i + 1) - 1), tcs tp (n + 1) (upd K n (if (cb (tp.2.1 0) L i = 60 ∨ cb (tp.2.1 0) L i = 62) ∧ cb (tp.2.1 0) L (i + 1) = 61 then (if cb (tp.2.1 0) L i = 60 then 256 else 257) else cb (tp.2.1 0) L i)) (upd P n (nI i)) (upd V n 0)) := by
        intro h3
        unfold b_X7_addPiece_44
        rw [nI_1, s_byteAt hL2 h4 (by omega), bd_some, tcs_B]
        by_cases h4 : cb (tp.2.1 0) L (i + 1) = 61
        · have h34 := And.intro h3 h4
          rw [if_pos h4, if_pos h34, if_pos h34]
          unfold b_X7_addPiece_72
          by_cases h5 : cb (tp.2.1 0) L i = 60
          · rw [if_pos h5, if_pos h5, s_put hn, bd_some, nI_1]
            rfl
          · rw [if_neg h5, if_neg h5, s_put hn, bd_some, nI_1]
            rfl
        · rw [if_neg h4, tail, if_neg (fun z => h4 z.2), if_neg (fun z => h4 z.2)]
          rfl
      by_cases h3 : cb (tp.2.1 0) L i = 60
      · rw [if_pos h3, two (Or.inl h3)]
      · rw [if_neg h3]
        by_cases h4 : cb (tp.2.1 0) L i = 62
        · rw [if_pos h4, two (Or.inr h4)]
        · rw [if_neg h4, tail, if_neg (fun z => z.1.elim h3 h4), if_neg (fun z => z.1.elim h3 h4)]
          rfl
/-- pieces from the n-th on, up to the m-th, which is the end -/
noncomputable def Tab (B : Nat → Int32) (L : Nat) (K P V : Nat → Int32) (n m i : Nat) : Prop := n < m ∧ P n = nI (sk B L i) ∧ ∀ t, n ≤ t → t < m → ∃ q, q ≤ L ∧ P t = nI q ∧ K t = lexK B L q ∧ V t = lexV B L q ∧ (q = L → t + 1 = m) ∧ (q < L → t + 1 < m ∧ P (t + 1) = nI (sk B L (lexE B L q)))
theorem s_cutLoop {F : Nat} {tp : OB} {L : Nat} (hF : 600 ≤ F) (hL : tp.1 1 = nI L) (h4 : L ≤ 400) : ∀ (f i n : Nat) (K P V : Nat → Int32), i ≤ L → L - i < f → n ≤ i → ∃ (m : Nat) (K2 P2 V2 : Nat → Int32), lp (b_X7_cutUp_17 F) f (nI i, tcs tp n K P V) = some (tcs tp m K2 P2 V2) ∧ m ≤ L + 1 ∧ Tab (tp.2.1 0) L K2 P2 V2 n m i ∧ ∀ t, t < n → K2 t = K t ∧ P2 t = P t ∧ V2 t = V t
  | 0, _, _, _, _, _, _, h, _ => absurd h (by omega)
  | f + 1, i, n, K, P, V, hi, hf, hn => by
    have hL2 : (tcs tp n K P V).1 1 = nI L := hL
    rw [lp_S]
    unfold b_X7_cutUp_17 b_X7_cutUp_45
    try dsimp only
    rw [hL2]
    by_cases h : i < L
    · rw [if_neg (nI_ge h (by omega)), s_byteAt hL2 h4 (by omega), bd_some, tcs_B]
      by_cases hb : cb (tp.2.1 0) L i = 32
      · rw [if_pos hb, nI_1]
        obtain ⟨m, K2, P2, V2, e, hm, ⟨t1, t2, t3⟩, hk⟩ := s_cutLoop hF hL h4 f (i + 1) n K P V (by omega) (by omega) (by omega)
        refine ⟨m, K2, P2, V2, e, hm, ⟨t1, ?_, t3⟩, hk⟩
        rw [t2]
        show nI (re _ _ _) = nI (re _ _ _)
        rw [re_t (P := sB (tp.2.1 0) L) h (decide_eq_true hb)]
      · have hE := lexE_gt (B := tp.2.1 0) h
        rw [if_neg hb, s_addPiece hF hL h4 h (by omega), bd_some]
        have eE : (if nI i < nI (lexE (tp.2.1 0) L i - 1) then nI (lexE (tp.2.1 0) L i - 1) else nI i) + 1 = nI (lexE (tp.2.1 0) L i) := by
          by_cases hq : i < lexE (tp.2.1 0) L i - 1
          · rw [if_pos (nI_lt hq (by omega)), nI_1, show lexE (tp.2.1 0) L i - 1 + 1 = lexE (tp.2.1 0) L i from by omega]
          · rw [if_neg (nI_nlt (by omega) (by omega)), nI_1, show i + 1 = lexE (tp.2.1 0) L i from by omega]
        try dsimp only
        rw [eE]
        obtain ⟨m, K2, P2, V2, e, hm, ⟨t1, t2, t3⟩, hk⟩ := s_cutLoop hF hL h4 f (lexE (tp.2.1 0) L i) (n + 1) (upd K n (lexK (tp.2.1 0) L i)) (upd P n (nI i)) (upd V n (lexV (tp.2.1 0) L i)) (by omega) (by omega) (by omega)
        obtain ⟨k1, k2, k3⟩ := hk n (by omega)
        rw [pk_us] at k1 k2 k3
        have eS : sk (tp.2.1 0) L i = i := re_f (decide_eq_false hb)
        refine ⟨m, K2, P2, V2, e, hm, ⟨by omega, by rw [k2, eS], fun t h1 h2 => ?_⟩, fun t ht => ?_⟩
        · by_cases et : t = n
          · subst et
            exact ⟨i, by omega, k2, k1, k3, fun q => absurd q (by omega), fun _ => ⟨t1, t2⟩⟩
          · exact t3 t (by omega) h2
        · obtain ⟨k4, k5, k6⟩ := hk t (by omega)
          rw [pk_un (by omega)] at k4 k5 k6
          exact ⟨k4, k5, k6⟩
    · have ei : i = L := by omega
      rw [if_pos (nI_le (by omega) (by omega)), s_put (by omega), bd_some]
      have eS : sk (tp.2.1 0) L i = L := by
        rw [ei]
        exact re_f (sB_out L (Nat.le_refl _))
      refine ⟨n + 1, _, _, _, rfl, by omega, ⟨by omega, by rw [pk_us, eS], fun t h1 h2 => ⟨L, Nat.le_refl _, ?_, ?_, ?_, fun _ => by omega, fun q => absurd q (by omega)⟩⟩, fun t ht => ⟨pk_un (by omega), pk_un (by omega), pk_un (by omega)⟩⟩
      · rw [show t = n from by omega, pk_us]
      · rw [show t = n from by omega, pk_us, lexK_end (Nat.le_refl _)]
      · rw [show t = n from by omega, pk_us, lexV_end (Nat.le_refl _)]
theorem s_cutUp {F : Nat} {tp : OB} {L : Nat} (hF : 600 ≤ F) (hL : tp.1 1 = nI L) (h4 : L ≤ 400) : ∃ (m : Nat) (K P V : Nat → Int32), f_X7_cutUp F tp = some (tcs tp m K P V) ∧ m ≤ L + 1 ∧ Tab (tp.2.1 0) L K P V 0 m 0 := by
  obtain ⟨m, K, P, V, e, hm, ht, _⟩ := s_cutLoop hF hL h4 F 0 0 (tp.2.1 2) (tp.2.1 3) (tp.2.1 4) (Nat.zero_le _) (by omega) (Nat.le_refl _)
  refine ⟨m, K, P, V, ?_, hm, ht⟩
  rw [← e]
  unfold f_X7_cutUp tcs
  rw [uF_id (f := tp.2.1) (i := 2), uF_id (f := tp.2.1) (i := 3), uF_id (f := tp.2.1) (i := 4), nI_0]
end
section
/-! reading, pure: the reference's own steps -/
theorem s_cmp (x y : Int64) : (lg_cmp x y < 0 ↔ x.toInt < y.toInt) ∧ (0 < lg_cmp x y ↔ y.toInt < x.toInt) := by
  unfold lg_cmp
  by_cases h1 : x > y
  · have h2 : y.toInt < x.toInt := Int64.lt_iff_toInt_lt.mp h1
    rw [if_pos h1]
    exact ⟨⟨fun h => absurd h (by decide), fun h => absurd h (by omega)⟩, ⟨fun _ => h2, fun _ => by decide⟩⟩
  · have h2 : ¬ y.toInt < x.toInt := fun q => h1 (Int64.lt_iff_toInt_lt.mpr q)
    rw [if_neg h1]
    by_cases h3 : x = y
    · rw [if_pos h3, h3]
      exact ⟨⟨fun h => absurd h (by decide), fun h => absurd h (by omega)⟩, ⟨fun h => absurd h (by decide), fun h => absurd h (by omega)⟩⟩
    · have h4 : ¬ x.toInt = y.toInt := fun q => h3 (Int64.toInt_inj.mp q)
      rw [if_neg h3]
      exact ⟨⟨fun _ => by omega, fun _ => by decide⟩, ⟨fun h => absurd h (by decide), fun h => absurd h h2⟩⟩
theorem s_in (F : Nat) (x a b : Int64) : f_X9_in F x a b = some (if a.toInt ≤ x.toInt ∧ x.toInt ≤ b.toInt then 1 else 0) := by
  unfold f_X9_in b_X9_in_17 b_X9_in_18
  by_cases h1 : lg_cmp x a < 0
  · have := (s_cmp x a).1.mp h1
    rw [if_pos h1, if_pos (Or.inl rfl), if_neg (by omega)]
  · have h1' : ¬ x.toInt < a.toInt := fun q => h1 ((s_cmp x a).1.mpr q)
    rw [if_neg h1]
    by_cases h2 : 0 < lg_cmp x b
    · have := (s_cmp x b).2.mp h2
      rw [if_pos h2, if_pos (Or.inl rfl), if_neg (by omega)]
    · have h2' : ¬ b.toInt < x.toInt := fun q => h2 ((s_cmp x b).2.mpr q)
      rw [if_neg h2, if_pos (Or.inr rfl), if_pos (by omega)]
theorem s_bo01 {c : Prop} [Decidable c] : bo (if c then 1 else 0) := by
  by_cases h : c
  · rw [if_pos h]; exact Or.inr rfl
  · rw [if_neg h]; exact Or.inl rfl
/-- the reference while it reads -/
noncomputable def ps (m : OB) (p f e d c o : Int32) (so nu op : Nat → Int32) : OB := (uF (uF (uF (uF (uF (uF m.1 19 p) 20 f) 23 e) 24 d) 25 c) 26 o, uF (uF (uF m.2.1 29 so) 30 nu) 35 op, m.2.2)
section PS
variable {m : OB} {p f e d c o : Int32} {so nu op : Nat → Int32} {v : Int32}
theorem ps_p : ((uF (ps m p f e d c o so nu op).1 19 v, (ps m p f e d c o so nu op).2.1, (ps m p f e d c o so nu op).2.2) : OB) = ps m v f e d c o so nu op := by
  unfold ps
  try dsimp only
  rw [uF_cm (i := 26) (j := 19) (by decide), uF_cm (i := 25) (j := 19) (by decide), uF_cm (i := 24) (j := 19) (by decide), uF_cm (i := 23) (j := 19) (by decide), uF_cm (i := 20) (j := 19) (by decide), uF_uF]
theorem ps_f : ((uF (ps m p f e d c o so nu op).1 20 v, (ps m p f e d c o so nu op).2.1, (ps m p f e d c o so nu op).2.2) : OB) = ps m p v e d c o so nu op := by
  unfold ps
  try dsimp only
  rw [uF_cm (i := 26) (j := 20) (by decide), uF_cm (i := 25) (j := 20) (by decide), uF_cm (i := 24) (j := 20) (by decide), uF_cm (i := 23) (j := 20) (by decide), uF_uF]
theorem ps_d : ((uF (ps m p f e d c o so nu op).1 24 v, (ps m p f e d c o so nu op).2.1, (ps m p f e d c o so nu op).2.2) : OB) = ps m p f e v c o so nu op := by
  unfold ps
  try dsimp only
  rw [uF_cm (i := 26) (j := 24) (by decide), uF_cm (i := 25) (j := 24) (by decide), uF_uF]
theorem ps_c : ((uF (ps m p f e d c o so nu op).1 25 v, (ps m p f e d c o so nu op).2.1, (ps m p f e d c o so nu op).2.2) : OB) = ps m p f e d v o so nu op := by
  unfold ps
  try dsimp only
  rw [uF_cm (i := 26) (j := 25) (by decide), uF_uF]
theorem ps_o : ((uF (ps m p f e d c o so nu op).1 26 v, (ps m p f e d c o so nu op).2.1, (ps m p f e d c o so nu op).2.2) : OB) = ps m p f e d c v so nu op := by
  unfold ps
  try dsimp only
  rw [uF_uF]
theorem ps_en {so2 nu2 : Nat → Int32} : ((uF (ps m p f e d c o so nu op).1 23 v, uF (uF (ps m p f e d c o so nu op).2.1 29 so2) 30 nu2, (ps m p f e d c o so nu op).2.2) : OB) = ps m p f v d c o so2 nu2 op := by
  unfold ps
  try dsimp only
  rw [uF_cm (i := 26) (j := 23) (by decide), uF_cm (i := 25) (j := 23) (by decide), uF_cm (i := 24) (j := 23) (by decide), uF_uF]
  rw [uF_cm (i := 35) (j := 29) (by decide), uF_cm (i := 30) (j := 29) (by decide), uF_uF]
  rw [uF_cm (i := 35) (j := 30) (by decide), uF_uF]
theorem ps_op {op2 : Nat → Int32} : ((uF (ps m p f e d c o so nu op).1 26 v, uF (ps m p f e d c o so nu op).2.1 35 op2, (ps m p f e d c o so nu op).2.2) : OB) = ps m p f e d c v so nu op2 := by
  unfold ps
  try dsimp only
  rw [uF_uF, uF_uF]
theorem ps_pdo {v2 v3 : Int32} : ((uF (uF (uF (ps m p f e d c o so nu op).1 19 v) 24 v2) 26 v3, (ps m p f e d c o so nu op).2.1, (ps m p f e d c o so nu op).2.2) : OB) = ps m v f e v2 c v3 so nu op := by
  unfold ps
  try dsimp only
  rw [uF_cm (i := 26) (j := 19) (by decide), uF_cm (i := 25) (j := 19) (by decide), uF_cm (i := 24) (j := 19) (by decide), uF_cm (i := 23) (j := 19) (by decide), uF_cm (i := 20) (j := 19) (by decide), uF_uF, uF_cm (i := 26) (j := 24) (by decide), uF_cm (i := 25) (j := 24) (by decide), uF_uF, uF_uF]
theorem ps_od {v2 : Int32} : ((uF (uF (ps m p f e d c o so nu op).1 26 v) 24 v2, (ps m p f e d c o so nu op).2.1, (ps m p f e d c o so nu op).2.2) : OB) = ps m p f e v2 c v so nu op := by
  unfold ps
  try dsimp only
  rw [uF_uF, uF_cm (i := 26) (j := 24) (by decide), uF_cm (i := 25) (j := 24) (by decide), uF_uF]
end PS
/-- what the readers rest on: the tape, its length; the slot; eleven words -/
noncomputable def RB (m : OB) (L s : Nat) : Prop := m.1 18 = nI L ∧ L ≤ 400 ∧ (∀ i, -128 ≤ (m.2.1 28 i).toInt ∧ (m.2.1 28 i).toInt ≤ 127) ∧ m.1 21 = nI s ∧ s < 6 ∧ m.1 27 = 11
section RD
variable {F : Nat} {m : OB} {L s p : Nat} {f e d c o : Int32} {so nu op : Nat → Int32}
theorem s_sign (h : RB m L s) (hp : p < 2 ^ 30) : f_X9_sign F (ps m (nI p) f e d c o so nu op) = some (cb (m.2.1 28) L p) := by
  unfold f_X9_sign b_X9_sign_28
  have e1 : (ps m (nI p) f e d c o so nu op).1 18 = nI L := h.1
  have e2 : (ps m (nI p) f e d c o so nu op).1 19 = nI p := rfl
  have e3 : (ps m (nI p) f e d c o so nu op).2.1 28 = m.2.1 28 := rfl
  rw [e1, e2, e3]
  have h4 := h.2.1
  by_cases q : p < L
  · rw [if_neg (nI_ge q (by omega)), if_pos (ib_n (by omega) (by decide)), nI_clamp (by omega), cb_in q]
  · rw [if_pos (nI_le (by omega) (by omega)), cb_out (by omega)]
theorem s_blanks (h : RB m L s) (hF : 600 ≤ F) (hp : p ≤ L) : f_X9_blanks F (ps m (nI p) f e d c o so nu op) = some (ps m (nI (sk (m.2.1 28) L p)) f e d c o so nu op) := by
  have h4 := h.2.1
  unfold f_X9_blanks
  rw [lp_run (st := fun j => ps m (nI j) f e d c o so nu op) (r := fun j => some (ps m (nI j) f e d c o so nu op)) (P := sB (m.2.1 28) L) (L := L) (i0 := 0) (fun k j _ hj hb => by
      unfold b_X9_blanks_0
      try dsimp only
      rw [s_sign h (by omega), bd_some, if_pos (of_decide_eq_true hb), show (ps m (nI j) f e d c o so nu op).1 19 = nI j from rfl, nI_1, ps_p])
    (fun k j _ hj hb => by
      unfold b_X9_blanks_0
      try dsimp only
      rw [s_sign h (by omega), bd_some]
      by_cases q : j < L
      · rw [if_neg (of_decide_eq_false (hb q))]
      · rw [cb_out (by omega), if_neg (by decide)]) F p (Nat.zero_le _) hp (by omega)]
theorem s_isDigit9 (h : RB m L s) (hp : p < 2 ^ 30) : f_X9_isDigit F (ps m (nI p) f e d c o so nu op) = some (if isD (cb (m.2.1 28) L p) then 1 else 0) := by
  unfold f_X9_isDigit
  rw [s_sign h hp, bd_some, s_in, bd_some, if_pos s_bo01]
  congr 1
  rw [Int32.toInt_toInt64, show (48 : Int64).toInt = 48 from by decide, show (57 : Int64).toInt = 57 from by decide]
  by_cases q : isD (cb (m.2.1 28) L p)
  · rw [if_pos q, if_pos ((isD_i _).mp q)]
  · rw [if_neg q, if_neg (fun z => q ((isD_i _).mpr z))]
theorem s_byte {x : Int32} (h : -128 ≤ x.toInt ∧ x.toInt ≤ 127) : (0 ≤ x.toInt → x &&& 255 = x) ∧ (x.toInt < 0 → 128 ≤ (x &&& 255).toInt) := by
  have e := pk_and x (m := 255) 8 (by decide)
  have hb : x.toInt = x.toBitVec.toInt := rfl
  have hlt := x.toBitVec.isLt
  rw [hb, BitVec.toInt_eq_toNat_cond] at h
  constructor
  · intro h0
    rw [hb, BitVec.toInt_eq_toNat_cond] at h0
    by_cases q : 2 * x.toBitVec.toNat < 2 ^ 32
    · rw [if_pos q] at h h0
      rw [e, Nat.mod_eq_of_lt (by omega)]
      rw [sp_eq, nI_toInt (by omega), hb, BitVec.toInt_eq_toNat_cond, if_pos q]
    · rw [if_neg q] at h0
      omega
  · intro h0
    rw [hb, BitVec.toInt_eq_toNat_cond] at h0
    by_cases q : 2 * x.toBitVec.toNat < 2 ^ 32
    · rw [if_pos q] at h0
      omega
    · rw [if_neg q] at h h0
      rw [e, nI_toInt (by have := Nat.mod_lt x.toBitVec.toNat (show 0 < 2 ^ 8 by decide); omega)]
      omega
theorem s_byteL {x : Int32} (h : -128 ≤ x.toInt ∧ x.toInt ≤ 127) : (¬ x < 97 ∧ ¬ 122 < x) ↔ isL (x &&& 255) := by
  rw [isL_i, sp_lt, sp_lt, show (97 : Int32).toInt = 97 from by decide, show (122 : Int32).toInt = 122 from by decide]
  by_cases q : 0 ≤ x.toInt
  · rw [(s_byte h).1 q]
    omega
  · have := (s_byte h).2 (by omega)
    omega
theorem s_stood {w : Nat} (h : RB m L s) (hF : 600 ≤ F) (hp : p ≤ L) (hw : w < 18) (hw0 : 0 < xl w) : f_X9_stood F w (ps m (nI p) f e d c o so nu op) = some (if isW (m.2.1 28) L p (re (lB (m.2.1 28) L) L p) w = true then 1 else 0) := by
  have h4 := h.2.1
  have hx := xl_b w
  have e19 : (ps m (nI p) f e d c o so nu op).1 19 = nI p := rfl
  have e18 : (ps m (nI p) f e d c o so nu op).1 18 = nI L := h.1
  have e28 : (ps m (nI p) f e d c o so nu op).2.1 28 = m.2.1 28 := rfl
  have key : ∀ j, j < L → (lB (m.2.1 28) L j = true ↔ ¬ m.2.1 28 j < 97 ∧ ¬ 122 < m.2.1 28 j) := fun j hj => by
    rw [s_byteL (h.2.2.1 j)]
    unfold lB
    rw [decide_eq_true_eq, cb_in hj]
  unfold f_X9_stood
  rw [e19]
  rw [lp_run (st := fun j => (w, nI j)) (r := fun j => b_X9_stood_41 F (ps m (nI p) f e d c o so nu op) w (nI j)) (P := lB (m.2.1 28) L) (L := L) (i0 := 0) (fun k j _ hj hb => by
      have hb := (key j hj).mp hb
      unfold b_X9_stood_5
      try dsimp only
      rw [e18, e28, if_neg (nI_ge hj (by omega)), if_pos (ib_n (by omega) (by decide)), nI_clamp (by omega), if_neg hb.1, if_neg hb.2, nI_1])
    (fun k j _ hj hb => by
      unfold b_X9_stood_5
      try dsimp only
      rw [e18, e28]
      by_cases q : j < L
      · have hb : ¬ (¬ m.2.1 28 j < 97 ∧ ¬ 122 < m.2.1 28 j) := fun z => by
          have := (key j q).mpr z
          rw [hb q] at this
          cases this
        rw [if_neg (nI_ge q (by omega)), if_pos (ib_n (by omega) (by decide)), nI_clamp (by omega)]
        by_cases a1 : m.2.1 28 j < 97
        · rw [if_pos a1]
        · rw [if_neg a1, if_pos (Classical.byContradiction (fun a2 => hb ⟨a1, a2⟩))]
      · rw [if_pos (nI_le (by omega) (by omega))]) F p (Nat.zero_le _) hp (by omega)]
  have hge := re_ge (P := lB (m.2.1 28) L) hp
  have hle := re_le (P := lB (m.2.1 28) L) hp
  have hin := re_in (P := lB (m.2.1 28) L) (L := L) _ p rfl
  generalize re (lB (m.2.1 28) L) L p = j at hge hle hin ⊢
  unfold b_X9_stood_41 b_X9_stood_59
  rw [if_pos hw, e19, pk_sub hge]
  by_cases ej : j - p = xl w
  · rw [if_pos (by rw [ej])]
    have main : ∀ (n q : Nat), q ≤ xl w → xl w - q < n → (∀ k, k < q → cb (m.2.1 28) L (p + k) = xc w k &&& 255) → lp (b_X9_stood_63 F (ps m (nI p) f e d c o so nu op)) n (w, 1, nI q) = some (if isW (m.2.1 28) L p j w = true then 1 else 0) := by
      intro n
      induction n with
      | zero => intro q _ h; exact absurd h (by omega)
      | succ n ih =>
        intro q hq hn hk
        rw [lp_S]
        unfold b_X9_stood_63 b_X9_stood_102 b_X9_stood_109
        try dsimp only
        rw [if_pos hw]
        by_cases hq2 : q = xl w
        · rw [if_pos (nI_le (by omega) (by omega)), if_pos (Or.inr rfl), if_pos (by
            unfold isW
            rw [decide_eq_true ej, decide_eq_true (by rw [← hq2]; exact hk)]
            rfl)]
        · have hpq : p + q < L := by omega
          have hlt := (key (p + q) hpq).mp (hin (p + q) (by omega) (by omega))
          have hb := h.2.2.1 (p + q)
          have hself : m.2.1 28 (p + q) &&& 255 = m.2.1 28 (p + q) := (s_byte hb).1 (by
            have := hlt.1
            rw [sp_lt, show (97 : Int32).toInt = 97 from by decide] at this
            omega)
          rw [if_neg (nI_ge (by omega) (by omega)), if_neg (by decide), e19, nI_add, if_pos (ib_n (by omega) (by decide)), if_pos (ib_n (by omega) (by omega)), nI_clamp (by omega), nI_clamp (by omega), e28, nI_1]
          by_cases hc : m.2.1 28 (p + q) = xc w q &&& 255
          · rw [if_pos hc]
            exact ih (q + 1) (by omega) (by omega) (fun k hk2 => by
              by_cases ek : k = q
              · rw [ek, cb_in hpq, hself]; exact hc
              · exact hk k (by omega))
          · rw [if_neg hc]
            have hf : isW (m.2.1 28) L p j w = false := by
              cases hz : isW (m.2.1 28) L p j w with
              | false => rfl
              | true =>
                unfold isW at hz
                rw [Bool.and_eq_true, decide_eq_true_eq, decide_eq_true_eq] at hz
                have := hz.2 q (by omega)
                rw [cb_in hpq, hself] at this
                exact absurd this hc
            cases n with
            | zero => exact absurd hn (by omega)
            | succ n =>
              rw [lp_S]
              try unfold b_X9_stood_63 b_X9_stood_109
              try dsimp only
              rw [if_pos hw, hf]
              by_cases hz : q + 1 = xl w
              · rw [if_pos (nI_le (by omega) (by omega)), if_pos (Or.inl rfl), if_neg (by decide)]
              · rw [if_neg (nI_ge (by omega) (by omega)), if_pos rfl, if_pos (Or.inl rfl), if_neg (by decide)]
    exact main F 0 (Nat.zero_le _) (by omega) (fun k hk => absurd hk (by omega))
  · rw [if_neg (fun q => ej (by
      have := (nI_eq (by omega) (by omega)).mp q
      omega))]
    have hf : isW (m.2.1 28) L p j w = false := by
      cases hz : isW (m.2.1 28) L p j w with
      | false => rfl
      | true =>
        unfold isW at hz
        rw [Bool.and_eq_true, decide_eq_true_eq] at hz
        exact absurd hz.1 ej
    rw [hf, if_neg (by decide)]
    obtain ⟨n, rfl⟩ : ∃ n, F = n + 1 := ⟨F - 1, by omega⟩
    rw [lp_S]
    unfold b_X9_stood_63 b_X9_stood_109
    try dsimp only
    rw [if_pos hw, if_neg (show ¬ nI (xl w) ≤ 0 from nI_nle hw0 (by omega)), if_pos rfl, if_pos (Or.inl rfl)]
end RD
end
section
/-! reading, pure: the class's own steps; words and signs -/
theorem sk_le {B : Nat → Int32} {L p : Nat} (h : p ≤ L) : sk B L p ≤ L := re_le h
theorem sk_ge {B : Nat → Int32} {L p : Nat} (h : p ≤ L) : p ≤ sk B L p := re_ge h
theorem cb_r (B : Nat → Int32) (L i : Nat) : cb B L i = -1 ∨ (0 ≤ (cb B L i).toInt ∧ (cb B L i).toInt ≤ 255) := by
  unfold cb
  by_cases h : i < L
  · rw [if_pos h]
    obtain ⟨j, hj, ej⟩ := pk_andE (B i) (m := 255) 8 (by decide)
    refine Or.inr ?_
    rw [ej, nI_toInt (by omega)]
    omega
  · rw [if_neg h]
    exact Or.inl rfl
theorem isW_un {B : Nat → Int32} {L i j w v : Nat} (hw : w < 18) (hv : v < 18) (h1 : isW B L i j w = true) (h2 : isW B L i j v = true) : w = v := by
  unfold isW at h1 h2
  rw [Bool.and_eq_true, decide_eq_true_eq, decide_eq_true_eq] at h1 h2
  have hl : xl w = xl v := by omega
  exact (show ∀ w, w < 18 → ∀ v, v < 18 → xl w = xl v → (∀ k, k < 7 → k < xl w → xc w k &&& 255 = xc v k &&& 255) → w = v from by decide +kernel) w hw v hv hl (fun k _ hk => by rw [← h1.2 k hk, ← h2.2 k (by omega)])
theorem xl_pos {w : Nat} (h : w < 18) : 0 < xl w := (show ∀ w, w < 18 → 0 < xl w from by decide) w h
theorem kw_iff {B : Nat → Int32} {L i j w : Nat} (hw : w < 18) : ∀ n, n ≤ 18 → (kw B L i j n = nI (260 + w) ↔ w < n ∧ isW B L i j w = true)
  | 0, _ => ⟨fun h => absurd h ((show ∀ w, w < 18 → ¬ (258 : Int32) = nI (260 + w) from by decide) w hw), fun h => absurd h.1 (by omega)⟩
  | n + 1, hn => by
    show (if isW B L i j n = true then nI (260 + n) else kw B L i j n) = _ ↔ _
    by_cases h : isW B L i j n = true
    · rw [if_pos h, nI_eq (by omega) (by omega)]
      exact ⟨fun e => by
        have : w = n := by omega
        rw [this]
        exact ⟨by omega, h⟩, fun e => by
        have := isW_un (by omega) hw h e.2
        omega⟩
    · rw [if_neg h, kw_iff hw n (by omega)]
      exact ⟨fun e => ⟨by omega, e.2⟩, fun e => ⟨by
        have : w ≠ n := fun q => h (q ▸ e.2)
        omega, e.2⟩⟩
theorem kw_r {B : Nat → Int32} {L i j : Nat} : ∀ n, n ≤ 18 → kw B L i j n = 258 ∨ ∃ w, w < n ∧ isW B L i j w = true ∧ kw B L i j n = nI (260 + w)
  | 0, _ => Or.inl rfl
  | n + 1, hn => by
    show (if isW B L i j n = true then nI (260 + n) else kw B L i j n) = _ ∨ _
    by_cases h : isW B L i j n = true
    · exact Or.inr ⟨n, by omega, h, if_pos h⟩
    · rcases kw_r n (by omega) with q | ⟨w, h1, h2, h3⟩
      · exact Or.inl (by rw [if_neg h]; exact q)
      · refine Or.inr ⟨w, by omega, h2, ?_⟩
        show (if isW B L i j n = true then nI (260 + n) else kw B L i j n) = _
        rw [if_neg h]
        exact h3
theorem lexK_w {B : Nat → Int32} {L i w : Nat} (hw : w < 18) : lexK B L i = nI (260 + w) ↔ isW B L i (re (lB B L) L i) w = true := by
  unfold lexK
  by_cases h1 : lB B L i = true
  · rw [if_pos h1, kw_iff hw 18 (Nat.le_refl _)]
    exact ⟨fun h => h.2, fun h => ⟨hw, h⟩⟩
  · rw [if_neg h1, re_f (by simpa using h1)]
    constructor
    · intro h
      have hr := cb_r B L i
      rw [sp_eq, nI_toInt (by omega)] at h
      by_cases h2 : dB B L i = true
      · rw [if_pos h2, show (259 : Int32).toInt = 259 from by decide] at h
        omega
      · rw [if_neg h2] at h
        by_cases h3 : (cb B L i = 60 ∨ cb B L i = 62) ∧ cb B L (i + 1) = 61
        · rw [if_pos h3] at h
          by_cases h4 : cb B L i = 60
          · rw [if_pos h4, show (256 : Int32).toInt = 256 from by decide] at h
            omega
          · rw [if_neg h4, show (257 : Int32).toInt = 257 from by decide] at h
            omega
        · rw [if_neg h3] at h
          rcases hr with hr | hr
          · rw [hr, spm1] at h
            omega
          · omega
    · intro h
      have := xl_pos hw
      unfold isW at h
      rw [Bool.and_eq_true, decide_eq_true_eq] at h
      omega
theorem isW_end {B : Nat → Int32} {L i w : Nat} (hw : w < 18) (h : isW B L i (re (lB B L) L i) w = true) : lexE B L i = i + xl w ∧ lB B L i = true := by
  have hp := xl_pos hw
  have h1 : lB B L i = true := by
    cases q : lB B L i with
    | true => rfl
    | false =>
      rw [re_f q] at h
      unfold isW at h
      rw [Bool.and_eq_true, decide_eq_true_eq] at h
      omega
  unfold lexE
  rw [if_pos h1]
  unfold isW at h
  rw [Bool.and_eq_true, decide_eq_true_eq] at h
  exact ⟨by omega, h1⟩
theorem lexK_d {B : Nat → Int32} {L i : Nat} : lexK B L i = 259 ↔ dB B L i = true := by
  unfold lexK
  by_cases h1 : lB B L i = true
  · rw [if_pos h1]
    constructor
    · intro h
      rcases kw_r (B := B) (L := L) (i := i) (j := re (lB B L) L i) 18 (Nat.le_refl _) with q | ⟨w, hw, _, q⟩
      · rw [q] at h
        exact absurd h (by decide)
      · rw [q] at h
        exact absurd h ((show ∀ w, w < 18 → ¬ nI (260 + w) = (259 : Int32) from by decide) w hw)
    · intro h
      have a := (isL_i _).mp (of_decide_eq_true h1)
      have b := (isD_i _).mp (of_decide_eq_true h)
      omega
  · rw [if_neg h1]
    by_cases h2 : dB B L i = true
    · rw [if_pos h2]
      exact ⟨fun _ => h2, fun _ => rfl⟩
    · rw [if_neg h2]
      refine ⟨fun h => ?_, fun h => absurd h h2⟩
      have hr := cb_r B L i
      rw [sp_eq, show (259 : Int32).toInt = 259 from by decide] at h
      by_cases h3 : (cb B L i = 60 ∨ cb B L i = 62) ∧ cb B L (i + 1) = 61
      · rw [if_pos h3] at h
        by_cases h4 : cb B L i = 60
        · rw [if_pos h4, show (256 : Int32).toInt = 256 from by decide] at h
          omega
        · rw [if_neg h4, show (257 : Int32).toInt = 257 from by decide] at h
          omega
      · rw [if_neg h3] at h
        rcases hr with hr | hr
        · rw [hr, spm1] at h
          omega
        · omega
/-- a sign of one byte that is no part of a longer one -/
abbrev sg1 (x : Int32) : Prop := (0 ≤ x.toInt ∧ x.toInt ≤ 255) ∧ ¬ isL x ∧ ¬ isD x ∧ ¬ x = 60 ∧ ¬ x = 62
theorem lexK_s {B : Nat → Int32} {L i : Nat} {x : Int32} (hx : sg1 x) : lexK B L i = x ↔ cb B L i = x := by
  unfold lexK
  by_cases h1 : lB B L i = true
  · rw [if_pos h1]
    constructor
    · intro h
      rcases kw_r (B := B) (L := L) (i := i) (j := re (lB B L) L i) 18 (Nat.le_refl _) with q | ⟨w, hw, _, q⟩
      · rw [q] at h
        have := hx.1
        rw [← h, show (258 : Int32).toInt = 258 from by decide] at this
        omega
      · rw [q] at h
        have := hx.1
        rw [← h, nI_toInt (by omega)] at this
        omega
    · intro h
      exact absurd (h ▸ of_decide_eq_true h1) hx.2.1
  · rw [if_neg h1]
    by_cases h2 : dB B L i = true
    · rw [if_pos h2]
      exact ⟨fun h => by
        have := hx.1
        rw [← h, show (259 : Int32).toInt = 259 from by decide] at this
        omega, fun h => absurd (h ▸ of_decide_eq_true h2) hx.2.2.1⟩
    · rw [if_neg h2]
      by_cases h3 : (cb B L i = 60 ∨ cb B L i = 62) ∧ cb B L (i + 1) = 61
      · rw [if_pos h3]
        constructor
        · intro h
          have := hx.1
          by_cases h4 : cb B L i = 60
          · rw [if_pos h4] at h
            rw [← h, show (256 : Int32).toInt = 256 from by decide] at this
            omega
          · rw [if_neg h4] at h
            rw [← h, show (257 : Int32).toInt = 257 from by decide] at this
            omega
        · intro h
          rw [h] at h3
          exact absurd h3.1 (fun q => q.elim hx.2.2.2.1 hx.2.2.2.2)
      · rw [if_neg h3]
theorem lexE_s {B : Nat → Int32} {L i : Nat} {x : Int32} (hx : sg1 x) (h : cb B L i = x) : lexE B L i = i + 1 ∧ i < L := by
  constructor
  · unfold lexE
    have a1 : ¬ lB B L i = true := fun q => hx.2.1 (h ▸ of_decide_eq_true q)
    have a2 : ¬ dB B L i = true := fun q => hx.2.2.1 (h ▸ of_decide_eq_true q)
    have a3 : ¬ ((cb B L i = 60 ∨ cb B L i = 62) ∧ cb B L (i + 1) = 61) := fun q => q.1.elim (fun z => hx.2.2.2.1 (h ▸ z)) (fun z => hx.2.2.2.2 (h ▸ z))
    rw [if_neg a1, if_neg a2, if_neg a3]
  · by_cases q : i < L
    · exact q
    · rw [cb_out (by omega)] at h
      have := hx.1
      rw [← h, spm1] at this
      omega
/-- no piece is told by a number below -1, nor between 277 and 1000 -/
theorem lexK_E {B : Nat → Int32} {L i : Nat} (hi : i ≤ L) : lexK B L i = -1 ↔ i = L := by
  constructor
  · intro h
    by_cases q : i = L
    · exact q
    · exfalso
      have hl : i < L := by omega
      have hr := cb_r B L i
      have hn : ¬ cb B L i = -1 := by
        rw [cb_in hl]
        obtain ⟨j, hj, ej⟩ := pk_andE (B i) (m := 255) 8 (by decide)
        rw [ej, sp_eq, nI_toInt (by omega), spm1]
        omega
      unfold lexK at h
      by_cases h1 : lB B L i = true
      · rw [if_pos h1] at h
        rcases kw_r (B := B) (L := L) (i := i) (j := re (lB B L) L i) 18 (Nat.le_refl _) with q | ⟨w, hw, _, q⟩
        · rw [q] at h
          exact absurd h (by decide)
        · rw [q] at h
          exact absurd h ((show ∀ w, w < 18 → ¬ nI (260 + w) = (-1 : Int32) from by decide) w hw)
      · rw [if_neg h1] at h
        by_cases h2 : dB B L i = true
        · rw [if_pos h2] at h
          exact absurd h (by decide)
        · rw [if_neg h2] at h
          by_cases h3 : (cb B L i = 60 ∨ cb B L i = 62) ∧ cb B L (i + 1) = 61
          · rw [if_pos h3] at h
            by_cases h4 : cb B L i = 60
            · rw [if_pos h4] at h
              exact absurd h (by decide)
            · rw [if_neg h4] at h
              exact absurd h (by decide)
          · rw [if_neg h3] at h
            exact hn h
  · intro h
    exact lexK_end (by omega)
/-! the class's tape while it is read -/
noncomputable def tpa (x : OB) (t f : Int32) : OB := (uF (uF x.1 6 t) 7 f, x.2.1, x.2.2)
theorem tpa_t {x : OB} {t f v : Int32} : ((uF (tpa x t f).1 6 v, (tpa x t f).2.1, (tpa x t f).2.2) : OB) = tpa x v f := by
  unfold tpa
  try dsimp only
  rw [uF_cm (i := 7) (j := 6) (by decide), uF_uF]
theorem tpa_f {x : OB} {t f v : Int32} : ((uF (tpa x t f).1 7 v, (tpa x t f).2.1, (tpa x t f).2.2) : OB) = tpa x t v := by
  unfold tpa
  try dsimp only
  rw [uF_uF]
noncomputable def TX (B : Nat → Int32) (L : Nat) (x : OB) (n : Nat) : Prop := x.1 1 = nI L ∧ x.1 5 = nI n ∧ L ≤ 400 ∧ n ≤ 401 ∧ Tab B L (x.2.1 2) (x.2.1 3) (x.2.1 4) 0 n 0
noncomputable def At (L : Nat) (x : OB) (n t i : Nat) : Prop := t < n ∧ i ≤ L ∧ x.2.1 3 t = nI i
section CL
variable {F : Nat} {B : Nat → Int32} {L n t i : Nat} {x : OB} {f : Int32}
theorem At.at (h : TX B L x n) (a : At L x n t i) : x.2.1 2 t = lexK B L i ∧ x.2.1 4 t = lexV B L i ∧ (i = L → t + 1 = n) ∧ (i < L → At L x n (t + 1) (sk B L (lexE B L i))) := by
  obtain ⟨h1, h2, h4, hn, _, _, h3⟩ := h
  obtain ⟨a1, a2, a3⟩ := a
  obtain ⟨q, q1, q2, q3, q4, q5, q6⟩ := h3 t (Nat.zero_le _) a1
  have e : q = i := by
    rw [a3] at q2
    exact ((nI_eq (by omega) (by omega)).mp q2).symm
  subst e
  exact ⟨q3, q4, q5, fun hl => ⟨(q6 hl).1, re_le (lexE_gt hl).2, (q6 hl).2⟩⟩
theorem s_kind (h : TX B L x n) (a : At L x n t i) : f_X7_kind F (tpa x (nI t) f) = some (lexK B L i) := by
  unfold f_X7_kind b_X7_kind_24
  have hn := h.2.2.2.1
  have ht := a.1
  rw [show (tpa x (nI t) f).1 5 = nI n from h.2.1, show (tpa x (nI t) f).1 6 = nI t from rfl, show (tpa x (nI t) f).2.1 2 = x.2.1 2 from rfl, if_neg (nI_ge ht (by omega)), if_pos (ib_n (by omega) (by decide)), nI_clamp (by omega), (a.at h).1]
theorem s_value (h : TX B L x n) (a : At L x n t i) : f_X7_value F (tpa x (nI t) f) = some (lexV B L i) := by
  unfold f_X7_value b_X7_value_24
  have hn := h.2.2.2.1
  have ht := a.1
  rw [show (tpa x (nI t) f).1 5 = nI n from h.2.1, show (tpa x (nI t) f).1 6 = nI t from rfl, show (tpa x (nI t) f).2.1 4 = x.2.1 4 from rfl, if_neg (nI_ge ht (by omega)), if_pos (ib_n (by omega) (by decide)), nI_clamp (by omega), (a.at h).2.1]
theorem s_skip (h : TX B L x n) (a : At L x n t i) (hi : i < L) : f_X7_skip F (tpa x (nI t) f) = some (tpa x (nI (t + 1)) f) := by
  unfold f_X7_skip b_X7_skip_23
  have hn := h.2.2.2.1
  have ht := ((a.at h).2.2.2 hi).1
  rw [show (tpa x (nI t) f).1 5 = nI n from h.2.1, show (tpa x (nI t) f).1 6 = nI t from rfl, nI_1, if_neg (nI_ge ht (by omega)), tpa_t]
theorem s_take {k : Int32} (h : TX B L x n) (a : At L x n t i) (hk : ¬ k = -1) : f_X7_take F k (tpa x (nI t) f) = if lexK B L i = k then some (1, tpa x (nI (t + 1)) f) else some (0, tpa x (nI t) f) := by
  unfold f_X7_take
  rw [s_kind h a, bd_some]
  by_cases q : lexK B L i = k
  · have hi : i < L := by
      by_cases z : i < L
      · exact z
      · rw [lexK_end (by omega)] at q
        exact absurd q.symm hk
    rw [if_pos q, if_pos q, s_skip h a hi, bd_some]
  · rw [if_neg q, if_neg q]
theorem s_fail {k : Int32} (h : TX B L x n) (a : At L x n t i) : f_X7_fail F k (tpa x (nI t) f) = some (0, tpa x (nI t) (1 + 8 * nI i + k)) := by
  unfold f_X7_fail b_X7_fail_31
  have hn := h.2.2.2.1
  have ht := a.1
  rw [show (tpa x (nI t) f).1 5 = nI n from h.2.1, show (tpa x (nI t) f).1 6 = nI t from rfl, show (tpa x (nI t) f).2.1 3 = x.2.1 3 from rfl, if_neg (nI_ge ht (by omega)), if_pos (ib_n (by omega) (by decide)), nI_clamp (by omega), a.2.2, tpa_f]
end CL
/-! the class's rule while it is read -/
noncomputable def rus (y : OB) (len u : Int32) (st : Nat → Int32) : OB := (uF (uF y.1 5 len) 7 u, uF y.2.1 0 st, y.2.2)
theorem rus_u {y : OB} {len u v : Int32} {st : Nat → Int32} : ((uF (rus y len u st).1 7 v, (rus y len u st).2.1, (rus y len u st).2.2) : OB) = rus y len v st := by
  unfold rus
  try dsimp only
  rw [uF_uF]
theorem s_add {F : Nat} {y : OB} {len : Nat} {u k : Int32} {st : Nat → Int32} (h : len < 400) : f_X4_add F k (rus y (nI len) u st) = some (rus y (nI (len + 1)) u (upd st len k)) := by
  unfold f_X4_add b_X4_add_30
  rw [show (rus y (nI len) u st).1 5 = nI len from rfl, show (rus y (nI len) u st).2.1 0 = st from rfl, if_neg (show ¬ (400 : Int32) ≤ nI len from by
    rw [sp_le, nI_toInt (by omega), show (400 : Int32).toInt = 400 from by decide]
    omega), if_pos (ib_n h (by decide)), nI_clamp (by omega), nI_1]
  unfold rus
  try dsimp only
  rw [uF_cm (i := 7) (j := 5) (by decide), uF_uF, uF_uF]
/-! the reference: faults, entries, what is counted, numbers -/
section RE
variable {F : Nat} {m : OB} {L s p : Nat} {f e d c o : Int32} {so nu op : Nat → Int32}
theorem s_fails {k q : Int32} {pp : Int32} : f_X9_fails F k q (ps m pp f e d c o so nu op) = some (ps m pp (if f = 0 then 1 + 8 * q + k else f) e d c o so nu op) := by
  unfold f_X9_fails b_X9_fails_23
  rw [show (ps m pp f e d c o so nu op).1 20 = f from rfl]
  by_cases h : f = 0
  · rw [if_pos h, if_pos h, ps_f]
  · rw [if_neg h, if_neg h, ps_f]
theorem s_entry {k v : Int32} {pp : Int32} {n : Nat} (h : RB m L s) (hn : n < 300) : f_X9_entry F k v (ps m pp 0 (nI n) d c o so nu op) = some (ps m pp 0 (nI (n + 1)) d c o (upd so (300 * s + n) k) (upd nu (300 * s + n) v) op) := by
  unfold f_X9_entry b_X9_entry_55
  have hs := h.2.2.2.2.1
  rw [show (ps m pp 0 (nI n) d c o so nu op).1 20 = 0 from rfl, if_pos rfl, show (ps m pp 0 (nI n) d c o so nu op).1 21 = nI s from h.2.2.2.1, show (ps m pp 0 (nI n) d c o so nu op).1 23 = nI n from rfl, show (300 : Int32) = nI 300 from rfl, pk_mul, nI_add, if_pos (ib_n (by omega) (by decide)), nI_clamp (by omega), nI_1]
  exact congrArg some ps_en
theorem g_entry {k v : Int32} {pp : Int32} (hf : ¬ f = 0) : f_X9_entry F k v (ps m pp f e d c o so nu op) = some (ps m pp f e d c o so nu op) := by
  unfold f_X9_entry b_X9_entry_55
  rw [show (ps m pp f e d c o so nu op).1 20 = f from rfl, if_neg hf]
theorem s_counted {q pp : Int32} : f_X9_isCounted F q (ps m pp f e d c o so nu op) = some (ps m pp (if c = 60 ∧ f = 0 then 1 + 8 * q + 3 else f) e d (c + 1) o so nu op) := by
  unfold f_X9_isCounted b_X9_isCounted_15
  rw [show (ps m pp f e d c o so nu op).1 25 = c from rfl]
  by_cases h : c = 60
  · rw [if_pos h, s_fails, bd_some, show (ps m pp (if f = 0 then 1 + 8 * q + 3 else f) e d c o so nu op).1 25 = c from rfl, ps_c]
    by_cases hf : f = 0
    · rw [if_pos hf, if_pos ⟨h, hf⟩]
    · rw [if_neg hf, if_neg (fun z => hf z.2)]
  · rw [if_neg h, ps_c, if_neg (fun z => h z.1)]
theorem dv_b {B : Nat → Int32} {i : Nat} : ∀ n, n ≤ 5 → (∀ k, k < n → dB B L (i + k) = true) → ∃ v, dv B L i n = nI v ∧ v < 10 ^ n
  | 0, _, _ => ⟨0, rfl, by decide⟩
  | n + 1, hn, h => by
    obtain ⟨v, e, hv⟩ := dv_b n (by omega) (fun k hk => h k (by omega))
    have hd := (isD_i _).mp (of_decide_eq_true (h n (by omega)))
    obtain ⟨q, hq, eq⟩ := nI_of (x := cb B L (i + n)) (by rw [sp_lt, sp0]; omega)
    rw [eq, nI_toInt hq] at hd
    have h5 : 10 ^ n ≤ 10 ^ 4 := Nat.pow_le_pow_right (by decide) (by omega)
    refine ⟨v * 10 + q - 48, ?_, ?_⟩
    · show dv B L i n * 10 + cb B L (i + n) - 48 = _
      rw [e, eq, show (10 : Int32) = nI 10 from rfl, pk_mul, nI_add, show (48 : Int32) = nI 48 from rfl, pk_sub (by omega)]
    · rw [Nat.pow_succ]
      omega
theorem s_digits (h : RB m L s) (hF : 600 ≤ F) (hp : p < L) (hd : dB (m.2.1 28) L p = true) : f_X9_digits F 99999 (ps m (nI p) f e d c o so nu op) = some (dv (m.2.1 28) L p (min 5 (re (dB (m.2.1 28) L) L p - p)), ps m (nI (re (dB (m.2.1 28) L) L p)) (if f = 0 ∧ 5 < re (dB (m.2.1 28) L) L p - p then 1 + 8 * nI p + 1 else f) e d c o so nu op) := by
  have h4 := h.2.1
  unfold f_X9_digits
  rw [s_isDigit9 h (by omega), bd_some, if_pos (of_decide_eq_true hd), if_neg (by decide), show (ps m (nI p) f e d c o so nu op).1 19 = nI p from rfl]
  have e0 : (0 : Int32) = dv (m.2.1 28) L p (min 5 (p - p)) := by
    rw [Nat.sub_self]
    rfl
  rw [show (((99999 : Int32), nI p, (0 : Int32), ps m (nI p) f e d c o so nu op) : Int32 × Int32 × Int32 × OB) = (fun q => ((99999 : Int32), nI p, dv (m.2.1 28) L p (min 5 (q - p)), ps m (nI q) f e d c o so nu op)) p from by
    try dsimp only
    rw [← e0]]
  rw [lp_run (st := fun q => ((99999 : Int32), nI p, dv (m.2.1 28) L p (min 5 (q - p)), ps m (nI q) f e d c o so nu op)) (r := fun q => if 5 < nI (q - p) then b_X9_digits_87 F (nI p) (dv (m.2.1 28) L p (min 5 (q - p))) (ps m (nI q) f e d c o so nu op) else (if dv (m.2.1 28) L p (min 5 (q - p)) ≤ 99999 then b_X9_digits_93 F (dv (m.2.1 28) L p (min 5 (q - p))) (ps m (nI q) f e d c o so nu op) else b_X9_digits_87 F (nI p) (dv (m.2.1 28) L p (min 5 (q - p))) (ps m (nI q) f e d c o so nu op))) (P := dB (m.2.1 28) L) (L := L) (i0 := p) (fun k q h0 hq hb => by
      unfold b_X9_digits_25 b_X9_digits_58
      try dsimp only
      rw [s_isDigit9 h (by omega), bd_some, if_pos (of_decide_eq_true hb), if_neg (by decide), show (ps m (nI q) f e d c o so nu op).1 19 = nI q from rfl, pk_sub h0, nI_1, ps_p]
      by_cases h5 : 5 ≤ q - p
      · rw [if_pos ((s_5le (by omega)).mpr h5), show min 5 (q + 1 - p) = min 5 (q - p) from by omega]
      · rw [if_neg (fun z => h5 ((s_5le (by omega)).mp z)), s_sign h (by omega), bd_some, show min 5 (q + 1 - p) = (q - p) + 1 from by omega, show min 5 (q - p) = q - p from by omega]
        show _ = k (99999, nI p, dv (m.2.1 28) L p (q - p) * 10 + cb (m.2.1 28) L (p + (q - p)) - 48, ps m (nI (q + 1)) f e d c o so nu op)
        rw [show p + (q - p) = q from by omega, Int32.mul_comm])
    (fun k q h0 hq hb => by
      unfold b_X9_digits_25
      try dsimp only
      rw [s_isDigit9 h (by omega), bd_some, show (ps m (nI q) f e d c o so nu op).1 19 = nI q from rfl, pk_sub h0]
      by_cases z : q < L
      · rw [if_neg (of_decide_eq_false (hb z)), if_pos rfl]
      · rw [if_neg (show ¬ isD (cb (m.2.1 28) L q) from by rw [cb_out (by omega)]; decide), if_pos rfl]) F p (Nat.le_refl _) (by omega) (by omega)]
  have hge := re_ge (P := dB (m.2.1 28) L) (L := L) (i := p) (by omega)
  have hle := re_le (P := dB (m.2.1 28) L) (L := L) (i := p) (by omega)
  have hin := re_in (P := dB (m.2.1 28) L) (L := L) _ p rfl
  generalize re (dB (m.2.1 28) L) L p = j at hge hle hin ⊢
  unfold b_X9_digits_87 b_X9_digits_93
  have e5 : (5 : Int32) < nI (j - p) ↔ 5 < j - p := by
    rw [sp_lt, nI_toInt (by omega), show (5 : Int32).toInt = 5 from by decide]
    omega
  by_cases h5 : 5 < j - p
  · rw [if_pos (e5.mpr h5), s_fails, bd_some]
    by_cases hf : f = 0
    · rw [if_pos hf, if_pos ⟨hf, h5⟩]
    · rw [if_neg hf, if_neg (fun z => hf z.1)]
  · rw [if_neg (fun z => h5 (e5.mp z)), if_neg (show ¬ (f = 0 ∧ 5 < j - p) from fun z => h5 z.2)]
    obtain ⟨v, ev, hv⟩ := dv_b (B := m.2.1 28) (L := L) (i := p) (min 5 (j - p)) (by omega) (fun k hk => hin (p + k) (by omega) (by omega))
    have h9 : 10 ^ min 5 (j - p) ≤ 10 ^ 5 := Nat.pow_le_pow_right (by decide) (by omega)
    rw [ev, if_pos (show nI v ≤ (99999 : Int32) from by
      rw [sp_le, nI_toInt (by omega), show (99999 : Int32).toInt = 99999 from by decide]
      omega)]
theorem s_wdY {w : Nat} (h : w < 11) : wdY (nI w) = w := (show ∀ w, w < 11 → wdY (nI w) = w from by decide) w h
/-- which of the first n words stands here -/
noncomputable def fw_ (B : Nat → Int32) (L i j : Nat) : Nat → Nat → Nat
  | 0, k => k
  | n + 1, k => if isW B L i j k = true then k else fw_ B L i j n (k + 1)
theorem fw_lt {B : Nat → Int32} {i j : Nat} : ∀ (n k : Nat), k ≤ fw_ B L i j n k ∧ fw_ B L i j n k ≤ k + n ∧ (fw_ B L i j n k < k + n → isW B L i j (fw_ B L i j n k) = true) ∧ (fw_ B L i j n k = k + n → ∀ w, k ≤ w → w < k + n → ¬ isW B L i j w = true)
  | 0, k => ⟨Nat.le_refl _, Nat.le_refl _, fun h => absurd h (Nat.lt_irrefl _), fun _ w h1 h2 => absurd h2 (by omega)⟩
  | n + 1, k => by
    show k ≤ (if _ then _ else _) ∧ _
    have ih := fw_lt (B := B) (i := i) (j := j) n (k + 1)
    have e : fw_ B L i j (n + 1) k = if isW B L i j k = true then k else fw_ B L i j n (k + 1) := rfl
    by_cases h : isW B L i j k = true
    · rw [if_pos h] at e ⊢
      rw [e]
      exact ⟨Nat.le_refl _, by omega, fun _ => h, fun q => absurd q (by omega)⟩
    · rw [if_neg h] at e ⊢
      rw [e]
      refine ⟨by omega, by omega, fun q => ih.2.2.1 (by omega), fun q w h1 h2 => ?_⟩
      by_cases ew : w = k
      · rw [ew]; exact h
      · exact ih.2.2.2 (by omega) w (by omega) (by omega)
theorem s_words (h : RB m L s) (hF : 600 ≤ F) (hp : p ≤ L) : ∀ (n g k : Nat), k + n = 11 → n < g → lp (b_X9_value_37 F) g (nI p, nI k, ps m (nI p) f e d c o so nu op) = b_X9_value_62 F (nI p) (nI (fw_ (m.2.1 28) L p (re (lB (m.2.1 28) L) L p) n k)) (ps m (nI p) f e d c o so nu op)
  | 0, 0, _, _, hg => absurd hg (by omega)
  | 0, g + 1, k, hk, hg => by
    rw [lp_S]
    unfold b_X9_value_37
    try dsimp only
    rw [show (ps m (nI p) f e d c o so nu op).1 27 = 11 from h.2.2.2.2.2, show k = 11 from by omega, if_pos (by decide)]
    rfl
  | n + 1, 0, _, _, hg => absurd hg (by omega)
  | n + 1, g + 1, k, hk, hg => by
    rw [lp_S]
    unfold b_X9_value_37
    try dsimp only
    rw [show (ps m (nI p) f e d c o so nu op).1 27 = 11 from h.2.2.2.2.2, if_neg (show ¬ (11 : Int32) ≤ nI k from by
      rw [sp_le, nI_toInt (by omega), show (11 : Int32).toInt = 11 from by decide]
      omega), s_wdY (by omega), s_stood h hF hp (by omega) (xl_pos (by omega)), bd_some, nI_1]
    have e : fw_ (m.2.1 28) L p (re (lB (m.2.1 28) L) L p) (n + 1) k = if isW (m.2.1 28) L p (re (lB (m.2.1 28) L) L p) k = true then k else fw_ (m.2.1 28) L p (re (lB (m.2.1 28) L) L p) n (k + 1) := rfl
    by_cases q : isW (m.2.1 28) L p (re (lB (m.2.1 28) L) L p) k = true
    · rw [if_pos q] at e
      rw [if_pos q, if_neg (by decide), e]
    · rw [if_neg q] at e
      rw [if_neg q, if_pos rfl, e]
      exact s_words h hF hp n g (k + 1) (by omega) (by omega)
end RE
end
section
/-! code, pure: entries of the reference and steps of the class; a value; a sum -/
noncomputable def tr (a b : Int32) : Int32 := if a = 0 then 1000 + b else if a = 1 then 260 + b else if a = 2 then 43 else if a = 3 then 45 else if a = 4 then 60 else if a = 5 then 256 else if a = 6 then 61 else if a = 7 then 257 else if a = 8 then 62 else if a = 9 then 277 else if a = 10 then 276 else if a = 11 then 275 else if a = 13 then 42 else if a = 14 then 47 else 37
noncomputable def VE (a b : Int32) : Prop := (a = 0 ∧ ∃ v, v < 100000 ∧ b = nI v) ∨ (a = 1 ∧ ∃ w, w < 11 ∧ b = nI w) ∨ (∃ q, a = nI q ∧ 2 ≤ q ∧ q ≤ 15 ∧ q ≠ 12)
noncomputable def CE (s len : Nat) (st so nu : Nat → Int32) : Prop := ∀ j, j < len → st j = tr (so (300 * s + j)) (nu (300 * s + j)) ∧ VE (so (300 * s + j)) (nu (300 * s + j))
theorem CE.app {s len : Nat} {st so nu : Nat → Int32} (h : CE s len st so nu) {a b k : Int32} (hv : VE a b) (hk : k = tr a b) : CE s (len + 1) (upd st len k) (upd so (300 * s + len) a) (upd nu (300 * s + len) b) := by
  intro j hj
  by_cases e : j = len
  · subst e
    rw [pk_us, pk_us, pk_us]
    exact ⟨hk, hv⟩
  · rw [pk_un e, pk_un (by omega), pk_un (by omega)]
    exact h j (by omega)
noncomputable def FrS (s : Nat) (f g : Nat → Int32) : Prop := ∀ j, j < 300 * s ∨ 300 * s + 300 ≤ j → g j = f j
theorem FrS.rf {s : Nat} {f : Nat → Int32} : FrS s f f := fun _ _ => rfl
theorem FrS.tr {s : Nat} {f g h : Nat → Int32} (a : FrS s f g) (b : FrS s g h) : FrS s f h := fun j q => (b j q).trans (a j q)
theorem FrS.up {s n : Nat} {f g : Nat → Int32} {v : Int32} (a : FrS s f g) (hn : n < 300) : FrS s f (upd g (300 * s + n) v) := fun j q => by
  rw [pk_un (by omega)]
  exact a j q
abbrev vaK (k : Int32) : Prop := 1000 ≤ k ∨ (260 ≤ k ∧ k ≤ 270)
abbrev arK (k : Int32) : Prop := k = 37 ∨ k = 42 ∨ k = 43 ∨ k = 45 ∨ k = 47
abbrev cmK (k : Int32) : Prop := k = 60 ∨ k = 61 ∨ k = 62 ∨ k = 256 ∨ k = 257
abbrev loK (k : Int32) : Prop := k = 275 ∨ k = 276
noncomputable def k1_ : List Bool → Option (List Bool)
  | false :: τ => some (false :: τ)
  | _ => none
noncomputable def k2_ (x y : Bool) : List Bool → Option (List Bool)
  | u :: v :: τ => if u = x ∧ v = x then some (y :: τ) else none
  | _ => none
/-- kinds on the stack (true: a number, false: a fact): one step -/
noncomputable def kst (k : Int32) (σ : List Bool) : Option (List Bool) := if vaK k then some (true :: σ) else if k = 277 then k1_ σ else if arK k then k2_ true true σ else if cmK k then k2_ true false σ else if loK k then k2_ false false σ else none
/-- kinds on the stack behind steps -/
noncomputable def hgt (st : Nat → Int32) : Nat → Nat → List Bool → Option (List Bool)
  | 0, _, σ => some σ
  | n + 1, a, σ => (kst (st a) σ).bind (fun τ => hgt st n (a + 1) τ)
theorem hgt_add {st : Nat → Int32} {n2 : Nat} : ∀ (n a : Nat) (σ : List Bool), hgt st (n + n2) a σ = (hgt st n a σ).bind (fun τ => hgt st n2 (a + n) τ)
  | 0, a, σ => by
    rw [Nat.zero_add]
    rfl
  | n + 1, a, σ => by
    rw [show n + 1 + n2 = (n + n2) + 1 from by omega]
    show (kst (st a) σ).bind (fun τ => hgt st (n + n2) (a + 1) τ) = ((kst (st a) σ).bind (fun τ => hgt st n (a + 1) τ)).bind (fun τ => hgt st n2 (a + (n + 1)) τ)
    cases kst (st a) σ with
    | none => rfl
    | some τ =>
      show hgt st (n + n2) (a + 1) τ = (hgt st n (a + 1) τ).bind (fun τ => hgt st n2 (a + (n + 1)) τ)
      rw [hgt_add n (a + 1) τ, show a + 1 + n = a + (n + 1) from by omega]
theorem hgt_cg {st st2 : Nat → Int32} : ∀ (n a : Nat) (σ : List Bool), (∀ j, a ≤ j → j < a + n → st2 j = st j) → hgt st2 n a σ = hgt st n a σ := by
  intro n
  induction n with
  | zero => exact fun _ _ _ => rfl
  | succ n ih =>
    intro a σ q
    show (kst (st2 a) σ).bind (fun τ => hgt st2 n (a + 1) τ) = (kst (st a) σ).bind (fun τ => hgt st n (a + 1) τ)
    rw [q a (Nat.le_refl _) (by omega)]
    exact congrArg (Option.bind (kst (st a) σ)) (funext fun τ => ih (a + 1) τ (fun j h1 h2 => q j (by omega) (by omega)))
/-- from the a-th step to the b-th the stack grows by k of a kind -/
noncomputable def Seg (κ : Bool) (st : Nat → Int32) (a b k : Nat) : Prop := a ≤ b ∧ ∀ σ, hgt st (b - a) a σ = some (List.replicate k κ ++ σ)
theorem Seg.cg {κ : Bool} {st st2 : Nat → Int32} {a b k : Nat} (h : Seg κ st a b k) (q : ∀ j, a ≤ j → j < b → st2 j = st j) : Seg κ st2 a b k := ⟨h.1, fun z => by
  rw [hgt_cg (b - a) a z (fun j h1 h2 => q j h1 (by have := h.1; omega))]
  exact h.2 z⟩
theorem Seg.z {κ : Bool} {st : Nat → Int32} {a : Nat} : Seg κ st a a 0 := ⟨Nat.le_refl _, fun h => by rw [Nat.sub_self]; rfl⟩
theorem Seg.tr {κ : Bool} {st : Nat → Int32} {a b c j k : Nat} (h1 : Seg κ st a b j) (h2 : Seg κ st b c k) : Seg κ st a c (j + k) := ⟨Nat.le_trans h1.1 h2.1, fun σ => by
  have a1 := h1.1
  have a2 := h2.1
  rw [show c - a = (b - a) + (c - b) from by omega, hgt_add, h1.2 σ]
  show hgt st (c - b) (a + (b - a)) (List.replicate j κ ++ σ) = _
  rw [show a + (b - a) = b from by omega, h2.2, ← List.append_assoc, List.replicate_append_replicate, Nat.add_comm]⟩
/-- a value's step -/
theorem Seg.v {st : Nat → Int32} {a : Nat} {k : Int32} (hk : vaK k) : Seg true (upd st a k) a (a + 1) 1 := ⟨by omega, fun σ => by
  rw [show a + 1 - a = 0 + 1 from by omega]
  show (kst (upd st a k a) σ).bind (fun τ => some τ) = some (true :: σ)
  rw [pk_us]
  unfold kst
  rw [if_pos hk]
  rfl⟩
/-- a step more -/
theorem seg_1 {st : Nat → Int32} {a b : Nat} {k : Int32} {σ τ υ : List Bool} (hab : a ≤ b) (h : hgt st (b - a) a σ = some τ) (hk : kst k τ = some υ) : hgt (upd st b k) (b + 1 - a) a σ = some υ := by
  rw [show b + 1 - a = (b - a) + 1 from by omega, hgt_add, hgt_cg (st := st) (b - a) a σ (fun q _ hq => pk_un (by omega)), h]
  show hgt (upd st b k) 1 (a + (b - a)) τ = _
  rw [show a + (b - a) = b from by omega]
  show (kst (upd st b k b) τ).bind (fun τ => some τ) = _
  rw [pk_us, hk]
  rfl
noncomputable def opK : Bool → Int32 → Prop
  | true, k => arK k
  | false, k => loK k
theorem kst_b {κ : Bool} {k : Int32} (hk : opK κ k) (τ : List Bool) : kst k (κ :: κ :: τ) = some (κ :: τ) := by
  cases κ with
  | true =>
    have hk : arK k := hk
    rcases hk with e | e | e | e | e <;> rw [e] <;> rfl
  | false =>
    have hk : loK k := hk
    rcases hk with e | e <;> rw [e] <;> rfl
theorem kst_c {k : Int32} (hk : cmK k) (τ : List Bool) : kst k (true :: true :: τ) = some (false :: τ) := by
  rcases hk with e | e | e | e | e <;> rw [e] <;> rfl
/-- one of two: a step for two -/
theorem Seg.b {κ : Bool} {st : Nat → Int32} {a b j : Nat} {k : Int32} (h : Seg κ st a b (j + 2)) (hk : opK κ k) : Seg κ (upd st b k) a (b + 1) (j + 1) := ⟨by have := h.1; omega, fun σ => seg_1 h.1 (h.2 σ) (kst_b hk (List.replicate j κ ++ σ))⟩
/-- two numbers are compared -/
theorem Seg.c {st : Nat → Int32} {a b : Nat} {k : Int32} (h : Seg true st a b 2) (hk : cmK k) : Seg false (upd st b k) a (b + 1) 1 := ⟨by have := h.1; omega, fun σ => seg_1 h.1 (h.2 σ) (kst_c hk σ)⟩
theorem Seg.n {st : Nat → Int32} {a b j : Nat} (h : Seg false st a b (j + 1)) : Seg false (upd st b 277) a (b + 1) (j + 1) := ⟨by have := h.1; omega, fun σ => seg_1 h.1 (h.2 σ) (τ := false :: (List.replicate j false ++ σ)) rfl⟩
theorem flt {i k : Nat} : (1 : Int32) + 8 * nI i + nI k = nI (1 + 8 * i + k) := by
  rw [show (8 : Int32) = nI 8 from rfl, show (1 : Int32) = nI 1 from rfl, pk_mul, nI_add, nI_add]
theorem c60 {u : Nat} (h : u < 2 ^ 31) : nI u = 60 ↔ u = 60 := by
  rw [show (60 : Int32) = nI 60 from rfl, nI_eq h (by decide)]
theorem l60 {u : Nat} (h : u < 2 ^ 31) : nI u < 60 ↔ u < 60 := by
  rw [show (60 : Int32) = nI 60 from rfl, nI_ltI h (by decide)]
section VS
variable {F : Nat} {m x y : OB} {L s n t i p u len : Nat} {d o : Int32} {st so nu op : Nat → Int32}
theorem c_bad (hx : TX (m.2.1 28) L x n) (ha : At L x n t i) {k : Nat} {ru : OB} : Option.bind (f_X7_fail F (nI k) (tpa x (nI t) 0)) (fun q => if bo q.1 then some (q.1, q.2, ru) else none) = some (0, tpa x (nI t) (nI (1 + 8 * i + k)), ru) := by
  rw [s_fail hx ha, bd_some, if_pos (Or.inl rfl), flt]
/-- a value that can't stand here -/
theorem cv_bad (hx : TX (m.2.1 28) L x n) (ha : At L x n t i) (h1 : ¬ lexK (m.2.1 28) L i = 259) (h2 : ∀ w, w < 11 → ¬ lexK (m.2.1 28) L i = nI (260 + w)) {ru : OB} : f_X5_readValue F (tpa x (nI t) 0) ru = some (0, tpa x (nI t) (nI (1 + 8 * i + 0)), ru) := by
  unfold f_X5_readValue
  rw [s_kind hx ha, bd_some, s_value hx ha, bd_some, if_neg h1]
  have b31 : b_X5_readValue_31 F (tpa x (nI t) 0) ru = some (0, tpa x (nI t) (nI (1 + 8 * i + 0)), ru) := c_bad (k := 0) hx ha
  by_cases q : lexK (m.2.1 28) L i < 260
  · rw [if_pos q, b31]
  · rw [if_neg q]
    by_cases q2 : lexK (m.2.1 28) L i ≤ 270
    · exfalso
      rw [sp_lt, show (260 : Int32).toInt = 260 from by decide] at q
      rw [sp_le, show (270 : Int32).toInt = 270 from by decide] at q2
      refine h2 ((lexK (m.2.1 28) L i).toInt - 260).toNat (by omega) ?_
      rw [sp_eq, nI_toInt (by omega)]
      omega
    · rw [if_neg q2, b31]
theorem cv_go (hx : TX (m.2.1 28) L x n) (ha : At L x n t i) (hi : i < L) (hu : u ≤ 60) (hl : len < 300) {K V k : Int32} (hk : k = if K = 259 then 1000 + V else K) : b_X5_readValue_55 F K V (tpa x (nI t) 0) (rus y (nI len) (nI u) st) = if u < 60 then some (1, tpa x (nI (t + 1)) 0, rus y (nI (len + 1)) (nI (u + 1)) (upd st len k)) else some (0, tpa x (nI t) (nI (1 + 8 * i + 3)), rus y (nI len) (nI u) st) := by
  unfold b_X5_readValue_55 b_X5_readValue_101
  rw [show (rus y (nI len) (nI u) st).1 7 = nI u from rfl, nI_1, rus_u]
  by_cases h : u < 60
  · rw [if_pos ((l60 (by omega)).mpr h), if_pos h, s_skip hx ha hi, bd_some]
    by_cases h2 : K = 259
    · rw [if_pos h2] at hk
      rw [if_pos h2, s_add (by omega), bd_some, hk]
    · rw [if_neg h2] at hk
      rw [if_neg h2, s_add (by omega), bd_some, hk]
  · rw [if_neg (fun z => h ((l60 (by omega)).mp z)), if_neg h]
    exact c_bad (k := 3) hx ha
theorem v_sim (hr : RB m L s) (hF : 600 ≤ F) (hx : TX (m.2.1 28) L x n) (ha : At L x n t i) (hp : p ≤ L) (hk : sk (m.2.1 28) L p = i) (hu : u ≤ 60) (hl : len < 300) :
    (∃ (φ p2 : Nat) (c2 : Int32), 0 < φ ∧ φ < 4000 ∧ p2 ≤ L ∧ f_X5_readValue F (tpa x (nI t) 0) (rus y (nI len) (nI u) st) = some (0, tpa x (nI t) (nI φ), rus y (nI len) (nI u) st) ∧ f_X9_value F (ps m (nI p) 0 (nI len) d (nI u) o so nu op) = some (ps m (nI p2) (nI φ) (nI len) d c2 o so nu op))
    ∨ (∃ k a b : Int32, u < 60 ∧ i < L ∧ VE a b ∧ k = tr a b ∧ (1000 ≤ k ∨ (260 ≤ k ∧ k ≤ 270)) ∧ f_X5_readValue F (tpa x (nI t) 0) (rus y (nI len) (nI u) st) = some (1, tpa x (nI (t + 1)) 0, rus y (nI (len + 1)) (nI (u + 1)) (upd st len k)) ∧ f_X9_value F (ps m (nI p) 0 (nI len) d (nI u) o so nu op) = some (ps m (nI (lexE (m.2.1 28) L i)) 0 (nI (len + 1)) d (nI (u + 1)) o (upd so (300 * s + len) a) (upd nu (300 * s + len) b) op)) := by
  have h4 := hr.2.1
  have hi := ha.2.1
  have nz : ∀ φ : Nat, 0 < φ → φ < 4000 → ¬ nI φ = 0 := fun φ h1 h2 => nI_ne0 h1 (by omega)
  have ev : f_X9_value F (ps m (nI p) 0 (nI len) d (nI u) o so nu op) = if dB (m.2.1 28) L i = true then (Option.bind (f_X9_digits F 99999 (ps m (nI i) 0 (nI len) d (nI u) o so nu op)) (fun q12 => (Option.bind (f_X9_isCounted F (nI i) q12.2) (fun q13 => (Option.bind (f_X9_entry F 0 q12.1 q13) (fun q14 => (some q14))))))) else b_X9_value_62 F (nI i) (nI (fw_ (m.2.1 28) L i (re (lB (m.2.1 28) L) L i) 11 0)) (ps m (nI i) 0 (nI len) d (nI u) o so nu op) := by
    unfold f_X9_value
    rw [s_blanks hr hF hp, bd_some, hk, s_isDigit9 hr (by omega), bd_some, show (ps m (nI i) 0 (nI len) d (nI u) o so nu op).1 19 = nI i from rfl]
    by_cases q : dB (m.2.1 28) L i = true
    · rw [if_pos (of_decide_eq_true q), if_neg (by decide), if_pos q]
    · rw [if_neg (fun z9 => q (decide_eq_true z9)), if_pos rfl, if_neg q]
      exact s_words hr hF hi 11 F 0 (by decide) (by omega)
  rw [ev]
  by_cases hd : dB (m.2.1 28) L i = true
  · have hK := lexK_d.mpr hd
    have hiL : i < L := by
      by_cases z : i < L
      · exact z
      · rw [dB_out i (by omega)] at hd
        cases hd
    have hnl : ¬ lB (m.2.1 28) L i = true := fun q => by
      have a := (isL_i _).mp (of_decide_eq_true q)
      have b := (isD_i _).mp (of_decide_eq_true hd)
      omega
    have hE : lexE (m.2.1 28) L i = re (dB (m.2.1 28) L) L i := by
      unfold lexE
      rw [if_neg hnl, if_pos hd]
    have hV : lexV (m.2.1 28) L i = if re (dB (m.2.1 28) L) L i - i ≤ 5 then dv (m.2.1 28) L i (re (dB (m.2.1 28) L) L i - i) else -1 := by
      unfold lexV
      rw [if_neg hnl, if_pos hd]
    have hge := re_ge (P := dB (m.2.1 28) L) hi
    have hle := re_le (P := dB (m.2.1 28) L) hi
    have hin := re_in (P := dB (m.2.1 28) L) (L := L) _ i rfl
    rw [if_pos hd, s_digits hr hF hiL hd, bd_some]
    try dsimp only
    rw [s_counted, bd_some]
    have cl : f_X5_readValue F (tpa x (nI t) 0) (rus y (nI len) (nI u) st) = b_X5_readValue_37 F 259 (lexV (m.2.1 28) L i) (tpa x (nI t) 0) (rus y (nI len) (nI u) st) := by
      unfold f_X5_readValue
      rw [s_kind hx ha, bd_some, s_value hx ha, bd_some, hK, if_pos rfl]
    rw [cl, hE]
    unfold b_X5_readValue_37
    rw [if_pos rfl, hV]
    by_cases h5 : re (dB (m.2.1 28) L) L i - i ≤ 5
    · obtain ⟨v, e1, hv⟩ := dv_b (B := m.2.1 28) (L := L) (i := i) (re (dB (m.2.1 28) L) L i - i) h5 (fun k hk => hin (i + k) (by omega) (by omega))
      have h9 : 10 ^ (re (dB (m.2.1 28) L) L i - i) ≤ 10 ^ 5 := Nat.pow_le_pow_right (by decide) h5
      rw [if_pos h5, show min 5 (re (dB (m.2.1 28) L) L i - i) = re (dB (m.2.1 28) L) L i - i from by omega, e1, if_neg (show ¬ nI v = -1 from by rw [sp_eq, nI_toInt (by omega), spm1]; omega), if_neg (show ¬ ((0 : Int32) = 0 ∧ 5 < re (dB (m.2.1 28) L) L i - i) from fun z => by omega)]
      rw [cv_go hx ha hiL hu hl (k := 1000 + nI v) (by rw [if_pos rfl])]
      by_cases h6 : u < 60
      · refine Or.inr ⟨1000 + nI v, 0, nI v, h6, hiL, Or.inl ⟨rfl, v, by omega, rfl⟩, by unfold tr; rw [if_pos rfl], Or.inl ?_, ?_, ?_⟩
        · rw [show (1000 : Int32) = nI 1000 from rfl, nI_add]
          exact nI_le (by omega) (by omega)
        · rw [if_pos h6]
        · rw [if_neg (fun z => by have := (c60 (by omega)).mp z.1; omega), nI_1, s_entry hr hl, bd_some]
      · have hu6 : u = 60 := by omega
        refine Or.inl ⟨1 + 8 * i + 3, re (dB (m.2.1 28) L) L i, nI u + 1, by omega, by omega, hle, by rw [if_neg h6], ?_⟩
        have e3 : (1 : Int32) + 8 * nI i + 3 = nI (1 + 8 * i + 3) := flt (k := 3)
        rw [if_pos ⟨(c60 (by omega)).mpr hu6, rfl⟩, e3, g_entry (nz _ (by omega) (by omega)), bd_some]
    · rw [if_neg h5, if_pos rfl, if_pos (show (0 : Int32) = 0 ∧ 5 < re (dB (m.2.1 28) L) L i - i from ⟨rfl, by omega⟩)]
      have e1 : (1 : Int32) + 8 * nI i + 1 = nI (1 + 8 * i + 1) := flt (k := 1)
      refine Or.inl ⟨1 + 8 * i + 1, re (dB (m.2.1 28) L) L i, nI u + 1, by omega, by omega, hle, c_bad (k := 1) hx ha, ?_⟩
      rw [e1, if_neg (fun z => nz _ (by omega) (by omega) z.2), g_entry (nz _ (by omega) (by omega)), bd_some]
  · have hK : ¬ lexK (m.2.1 28) L i = 259 := fun q => hd (lexK_d.mp q)
    rw [if_neg hd]
    obtain ⟨f1, f2, f3, f4⟩ := fw_lt (L := L) (B := m.2.1 28) (i := i) (j := re (lB (m.2.1 28) L) L i) 11 0
    generalize hg : fw_ (m.2.1 28) L i (re (lB (m.2.1 28) L) L i) 11 0 = w at f1 f2 f3 f4 ⊢
    unfold b_X9_value_62
    rw [show (ps m (nI i) 0 (nI len) d (nI u) o so nu op).1 27 = 11 from hr.2.2.2.2.2]
    by_cases hw : w = 11
    · have hno : ∀ v, v < 11 → ¬ lexK (m.2.1 28) L i = nI (260 + v) := fun v hv q => f4 (by omega) v (by omega) (by omega) ((lexK_w (by omega)).mp q)
      have e1 : (1 : Int32) + 8 * nI i + 0 = nI (1 + 8 * i + 0) := flt (k := 0)
      rw [hw, if_pos (show nI 11 = (11 : Int32) from rfl), s_fails, bd_some, if_pos rfl, e1]
      exact Or.inl ⟨1 + 8 * i + 0, i, _, by omega, by omega, hi, cv_bad hx ha hK hno, rfl⟩
    · have hwl : w < 11 := by omega
      have hW := f3 (by omega)
      have hKw := (lexK_w (B := m.2.1 28) (L := L) (i := i) (w := w) (by omega)).mpr hW
      obtain ⟨hE, hlet⟩ := isW_end (by omega) hW
      have hiL : i < L := by
        by_cases z : i < L
        · exact z
        · rw [lB_out i (by omega)] at hlet
          cases hlet
      have hEL := (lexE_gt (B := m.2.1 28) hiL).2
      rw [if_neg (show ¬ nI w = (11 : Int32) from fun q => by
        rw [show (11 : Int32) = nI 11 from rfl, nI_eq (by omega) (by decide)] at q
        omega), s_counted, bd_some, s_wdY hwl, if_pos (by omega)]
      have cl : f_X5_readValue F (tpa x (nI t) 0) (rus y (nI len) (nI u) st) = b_X5_readValue_55 F (nI (260 + w)) (lexV (m.2.1 28) L i) (tpa x (nI t) 0) (rus y (nI len) (nI u) st) := by
        unfold f_X5_readValue b_X5_readValue_37
        rw [s_kind hx ha, bd_some, s_value hx ha, bd_some, hKw, if_neg (show ¬ nI (260 + w) = (259 : Int32) from fun q => by
          rw [show (259 : Int32) = nI 259 from rfl, nI_eq (by omega) (by decide)] at q
          omega), if_neg (show ¬ nI (260 + w) < (260 : Int32) from by
          rw [sp_lt, nI_toInt (by omega), show (260 : Int32).toInt = 260 from by decide]
          omega), if_pos (show nI (260 + w) ≤ (270 : Int32) from by
          rw [sp_le, nI_toInt (by omega), show (270 : Int32).toInt = 270 from by decide]
          omega), if_neg (show ¬ nI (260 + w) = (259 : Int32) from fun q => by
          rw [show (259 : Int32) = nI 259 from rfl, nI_eq (by omega) (by decide)] at q
          omega)]
      rw [cl, cv_go hx ha hiL hu hl (k := nI (260 + w)) (by rw [if_neg (show ¬ nI (260 + w) = (259 : Int32) from fun q => by
          rw [show (259 : Int32) = nI 259 from rfl, nI_eq (by omega) (by decide)] at q
          omega)]), hE]
      have e19 : ∀ (f c : Int32), (ps m (nI i) f (nI len) d c o so nu op).1 19 = nI i := fun _ _ => rfl
      by_cases h6 : u < 60
      · refine Or.inr ⟨nI (260 + w), 1, nI w, h6, hiL, Or.inr (Or.inl ⟨rfl, w, hwl, rfl⟩), ?_, Or.inr ⟨?_, ?_⟩, by rw [if_pos h6], ?_⟩
        · unfold tr
          rw [if_neg (by decide), if_pos rfl, show (260 : Int32) = nI 260 from rfl, nI_add]
        · rw [sp_le, nI_toInt (by omega), show (260 : Int32).toInt = 260 from by decide]
          omega
        · rw [sp_le, nI_toInt (by omega), show (270 : Int32).toInt = 270 from by decide]
          omega
        · rw [if_neg (fun z => by have := (c60 (by omega)).mp z.1; omega), nI_1, e19, nI_add, ps_p, s_entry hr hl, bd_some]
      · have hu6 : u = 60 := by omega
        refine Or.inl ⟨1 + 8 * i + 3, i + xl w, nI u + 1, by omega, by omega, by omega, by rw [if_neg h6], ?_⟩
        have e3 : (1 : Int32) + 8 * nI i + 3 = nI (1 + 8 * i + 3) := flt (k := 3)
        rw [if_pos ⟨(c60 (by omega)).mpr hu6, rfl⟩, e19, nI_add, ps_p, e3, g_entry (nz _ (by omega) (by omega)), bd_some]
end VS
end
section
/-! a sum, a comparison, pure: both readers -/
section GA
variable {F : Nat} {m : OB} {L s p : Nat} {f e d c o : Int32} {so nu op : Nat → Int32}
theorem g_val (hr : RB m L s) (hF : 600 ≤ F) (hf : ¬ f = 0) (hp : p ≤ L) : ∃ (p2 : Nat) (c2 : Int32), p2 ≤ L ∧ f_X9_value F (ps m (nI p) f e d c o so nu op) = some (ps m (nI p2) f e d c2 o so nu op) := by
  have h4 := hr.2.1
  have hi := sk_le (B := m.2.1 28) hp
  unfold f_X9_value
  rw [s_blanks hr hF hp, bd_some]
  generalize sk (m.2.1 28) L p = i at hi ⊢
  rw [s_isDigit9 hr (by omega), bd_some, show (ps m (nI i) f e d c o so nu op).1 19 = nI i from rfl]
  by_cases q : dB (m.2.1 28) L i = true
  · have hiL : i < L := by
      by_cases z : i < L
      · exact z
      · rw [dB_out i (by omega)] at q
        cases q
    rw [if_pos (of_decide_eq_true q), if_neg (by decide), s_digits hr hF hiL q, bd_some]
    try dsimp only
    rw [if_neg (fun z => hf z.1), s_counted, bd_some, if_neg (fun z => hf z.2), g_entry hf, bd_some]
    exact ⟨_, _, re_le hi, rfl⟩
  · rw [if_neg (fun z9 => q (decide_eq_true z9)), if_pos rfl]
    have := s_words (f := f) (e := e) (d := d) (c := c) (o := o) (so := so) (nu := nu) (op := op) hr hF hi 11 F 0 (by decide) (by omega)
    rw [nI_0] at this
    rw [this]
    obtain ⟨f1, f2, f3, f4⟩ := fw_lt (L := L) (B := m.2.1 28) (i := i) (j := re (lB (m.2.1 28) L) L i) 11 0
    generalize fw_ (m.2.1 28) L i (re (lB (m.2.1 28) L) L i) 11 0 = w at f1 f2 f3 f4 ⊢
    unfold b_X9_value_62
    rw [show (ps m (nI i) f e d c o so nu op).1 27 = 11 from hr.2.2.2.2.2]
    by_cases hw : w = 11
    · rw [hw, if_pos (show nI 11 = (11 : Int32) from rfl), s_fails, bd_some, if_neg hf]
      exact ⟨_, _, hi, rfl⟩
    · have hwl : w < 11 := by omega
      obtain ⟨hE, hlet⟩ := isW_end (by omega) (f3 (by omega))
      have hiL : i < L := by
        by_cases z : i < L
        · exact z
        · rw [lB_out i (by omega)] at hlet
          cases hlet
      have hEL := (lexE_gt (B := m.2.1 28) hiL).2
      rw [if_neg (show ¬ nI w = (11 : Int32) from fun q => by
        rw [show (11 : Int32) = nI 11 from rfl, nI_eq (by omega) (by decide)] at q
        omega), s_counted, bd_some, s_wdY hwl, if_pos (by omega), show ∀ (f c : Int32), (ps m (nI i) f e d c o so nu op).1 19 = nI i from fun _ _ => rfl, nI_add, ps_p, if_neg (fun z => hf z.2), g_entry hf, bd_some]
      exact ⟨_, _, by omega, rfl⟩
theorem g_term8 (hf : ¬ f = 0) {g : Nat} {pp : Int32} : lp (b_X9_term_8 F) (g + 1) (ps m pp f e d c o so nu op) = some (ps m pp f e d c o so nu op) := by
  rw [lp_S, b_X9_term_8]
  unfold b_X9_term_100
  rw [show (ps m pp f e d c o so nu op).1 20 = f from rfl, if_neg hf]
theorem g_sum4 (hf : ¬ f = 0) {g : Nat} {pp : Int32} : lp (b_X9_sum_4 F) (g + 1) (ps m pp f e d c o so nu op) = some (ps m pp f e d c o so nu op) := by
  rw [lp_S, b_X9_sum_4]
  unfold b_X9_sum_67
  rw [show (ps m pp f e d c o so nu op).1 20 = f from rfl, if_neg hf]
end GA
noncomputable def eo (F : Nat) (r : Option Int32) (mo : OB) : Option OB := match r with
  | none => some mo
  | some k => f_X9_entry F k 0 mo
/-- the reference where it wants a value, with what waits to be added and multiplied -/
noncomputable def RefV (F : Nat) (ra rm : Option Int32) (ft fs : Nat) (mo : OB) : Option OB := (f_X9_value F mo).bind fun q => (eo F rm q).bind fun q => (f_X9_blanks F q).bind fun q => (lp (b_X9_term_8 F) ft q).bind fun q => (eo F ra q).bind fun q => lp (b_X9_sum_4 F) fs q
theorem sum_RefV (F : Nat) (mo : OB) : f_X9_sum F mo = RefV F none none F F mo := by
  unfold f_X9_sum f_X9_term RefV eo
  cases f_X9_value F mo with
  | none => rfl
  | some q =>
    show Option.bind (Option.bind (f_X9_blanks F q) _) _ = Option.bind (f_X9_blanks F q) _
    cases f_X9_blanks F q with
    | none => rfl
    | some q => rfl
noncomputable def mulOp (c : Int32) : Option Int32 := if c = 42 then some 13 else if c = 47 then some 14 else if c = 37 then some 15 else none
noncomputable def addOp (c : Int32) : Option Int32 := if c = 43 then some 2 else if c = 45 then some 3 else none
noncomputable def pn (r : Option Int32) : Nat := match r with
  | none => 0
  | some _ => 1
noncomputable def cop (r : Option Int32) : Int32 := match r with
  | none => -1
  | some k => tr k 0
noncomputable def isOp (r : Option Int32) : Prop := ∀ k, r = some k → VE k 0 ∧ arK (tr k 0) ∧ ¬ tr k 0 = -1
theorem VE_lit {q : Nat} (h : 2 ≤ q ∧ q ≤ 15 ∧ q ≠ 12) {k b : Int32} (e : k = nI q) : VE k b := Or.inr (Or.inr ⟨q, e, h⟩)
theorem isOp_mul (c : Int32) : isOp (mulOp c) := by
  intro k e
  unfold mulOp at e
  by_cases h1 : c = 42
  · rw [if_pos h1] at e
    cases e
    exact ⟨VE_lit (q := 13) (by decide) rfl, by decide, by decide⟩
  · rw [if_neg h1] at e
    by_cases h2 : c = 47
    · rw [if_pos h2] at e
      cases e
      exact ⟨VE_lit (q := 14) (by decide) rfl, by decide, by decide⟩
    · rw [if_neg h2] at e
      by_cases h3 : c = 37
      · rw [if_pos h3] at e
        cases e
        exact ⟨VE_lit (q := 15) (by decide) rfl, by decide, by decide⟩
      · rw [if_neg h3] at e
        cases e
theorem isOp_add (c : Int32) : isOp (addOp c) := by
  intro k e
  unfold addOp at e
  by_cases h1 : c = 43
  · rw [if_pos h1] at e
    cases e
    exact ⟨VE_lit (q := 2) (by decide) rfl, by decide, by decide⟩
  · rw [if_neg h1] at e
    by_cases h2 : c = 45
    · rw [if_pos h2] at e
      cases e
      exact ⟨VE_lit (q := 3) (by decide) rfl, by decide, by decide⟩
    · rw [if_neg h2] at e
      cases e
section SU
variable {F : Nat} {m x y : OB} {L s n : Nat} {d o : Int32} {op : Nat → Int32}
theorem t_go {g i : Nat} {e c : Int32} {so nu : Nat → Int32} (hr : RB m L s) (hi : i ≤ L) : lp (b_X9_term_8 F) (g + 1) (ps m (nI i) 0 e d c o so nu op) = match mulOp (cb (m.2.1 28) L i) with
    | none => some (ps m (nI i) 0 e d c o so nu op)
    | some k => (f_X9_value F (ps m (nI (i + 1)) 0 e d c o so nu op)).bind fun q => (f_X9_entry F k 0 q).bind fun q => (f_X9_blanks F q).bind fun q => lp (b_X9_term_8 F) g q := by
  have h4 := hr.2.1
  rw [lp_S, b_X9_term_8]
  unfold b_X9_term_42 b_X9_term_72 b_X9_term_100 mulOp
  rw [show (ps m (nI i) 0 e d c o so nu op).1 20 = 0 from rfl, if_pos rfl, s_sign hr (by omega), bd_some, show (ps m (nI i) 0 e d c o so nu op).1 19 = nI i from rfl, nI_1, ps_p]
  by_cases h1 : cb (m.2.1 28) L i = 42
  · rw [if_pos h1, if_pos h1, bd_some, if_pos h1]
  · rw [if_neg h1, if_neg h1, bd_some]
    by_cases h2 : cb (m.2.1 28) L i = 47
    · rw [if_pos h2, if_pos h2, bd_some, if_neg h1, bd_some, if_pos h2]
    · rw [if_neg h2, if_neg h2, bd_some]
      by_cases h3 : cb (m.2.1 28) L i = 37
      · rw [if_pos h3, if_pos h3, bd_some, if_neg h1, bd_some, if_neg h2]
      · rw [if_neg h3, if_neg h3]
theorem a_go {g i : Nat} {e c : Int32} {so nu : Nat → Int32} (hr : RB m L s) (hi : i ≤ L) : lp (b_X9_sum_4 F) (g + 1) (ps m (nI i) 0 e d c o so nu op) = match addOp (cb (m.2.1 28) L i) with
    | none => some (ps m (nI i) 0 e d c o so nu op)
    | some k => RefV F (some k) none F g (ps m (nI (i + 1)) 0 e d c o so nu op) := by
  have h4 := hr.2.1
  rw [lp_S, b_X9_sum_4]
  unfold b_X9_sum_29 b_X9_sum_43 b_X9_sum_67 addOp
  rw [show (ps m (nI i) 0 e d c o so nu op).1 20 = 0 from rfl, if_pos rfl, s_sign hr (by omega), bd_some, show (ps m (nI i) 0 e d c o so nu op).1 19 = nI i from rfl, nI_1, ps_p]
  have key : ∀ k, Option.bind (f_X9_term F (ps m (nI (i + 1)) 0 e d c o so nu op)) (fun q1 => Option.bind (f_X9_entry F k 0 q1) (fun q2 => lp (b_X9_sum_4 F) g q2)) = RefV F (some k) none F g (ps m (nI (i + 1)) 0 e d c o so nu op) := fun k => by
    unfold f_X9_term RefV eo
    cases f_X9_value F (ps m (nI (i + 1)) 0 e d c o so nu op) with
    | none => rfl
    | some q =>
      show Option.bind (Option.bind (f_X9_blanks F q) _) _ = Option.bind (f_X9_blanks F q) _
      cases f_X9_blanks F q with
      | none => rfl
      | some q => rfl
  by_cases h1 : cb (m.2.1 28) L i = 43
  · rw [if_pos h1, if_pos h1, bd_some, if_pos h1, key]
  · rw [if_neg h1, if_neg h1, bd_some]
    by_cases h2 : cb (m.2.1 28) L i = 45
    · rw [if_pos h2, if_pos h2, bd_some, if_neg h1, key]
    · rw [if_neg h2, if_neg h2]
theorem RefV_bad {ra rm : Option Int32} {ft fs p2 : Nat} {mo : OB} {φ e c : Int32} {so nu : Nat → Int32} (hr : RB m L s) (hF : 600 ≤ F) (hφ : ¬ φ = 0) (hp : p2 ≤ L) (h : f_X9_value F mo = some (ps m (nI p2) φ e d c o so nu op)) (h1 : 0 < ft) (h2 : 0 < fs) : RefV F ra rm ft fs mo = some (ps m (nI (sk (m.2.1 28) L p2)) φ e d c o so nu op) := by
  have ge : ∀ (r : Option Int32) (pp : Int32), eo F r (ps m pp φ e d c o so nu op) = some (ps m pp φ e d c o so nu op) := fun r pp => by
    cases r with
    | none => rfl
    | some k => exact g_entry hφ
  obtain ⟨a, rfl⟩ : ∃ a, ft = a + 1 := ⟨ft - 1, by omega⟩
  obtain ⟨b, rfl⟩ : ∃ b, fs = b + 1 := ⟨fs - 1, by omega⟩
  unfold RefV
  rw [h, bd_some, ge, bd_some, s_blanks hr hF hp, bd_some, g_term8 hφ, bd_some, ge, bd_some, g_sum4 hφ]
theorem c_one {a b c : Int32} {t i : Nat} (hx : TX (m.2.1 28) L x n) (ha : At L x n t i) (h1 : ¬ a = -1) (h2 : ¬ b = -1) (h3 : ¬ c = -1) : f_X5_takeOneOf F a b c (tpa x (nI t) 0) = if lexK (m.2.1 28) L i = a ∨ lexK (m.2.1 28) L i = b ∨ lexK (m.2.1 28) L i = c then some (lexK (m.2.1 28) L i, tpa x (nI (t + 1)) 0) else some (-1, tpa x (nI t) 0) := by
  unfold f_X5_takeOneOf b_X5_takeOneOf_26
  rw [s_kind hx ha, bd_some]
  have hi := ha.2.1
  by_cases hl : i < L
  · rw [s_skip hx ha hl, bd_some]
    by_cases q1 : lexK (m.2.1 28) L i = a
    · rw [if_pos q1, if_pos (Or.inl q1)]
    · rw [if_neg q1]
      by_cases q2 : lexK (m.2.1 28) L i = b
      · rw [if_pos q2, if_pos (Or.inr (Or.inl q2))]
      · rw [if_neg q2]
        by_cases q3 : lexK (m.2.1 28) L i = c
        · rw [if_pos q3, if_pos (Or.inr (Or.inr q3))]
        · rw [if_neg q3, if_neg (fun z => z.elim q1 (fun z => z.elim q2 q3))]
  · have e := lexK_end (B := m.2.1 28) (L := L) (i := i) (by omega)
    rw [e, if_neg (fun z => h1 z.symm), if_neg (fun z => h2 z.symm), if_neg (fun z => h3 z.symm), if_neg (fun z => z.elim (fun z => h1 z.symm) (fun z => z.elim (fun z => h2 z.symm) (fun z => h3 z.symm)))]
theorem c_mul {t i : Nat} (hx : TX (m.2.1 28) L x n) (ha : At L x n t i) : f_X5_takeOneOf F 42 47 37 (tpa x (nI t) 0) = match mulOp (cb (m.2.1 28) L i) with
    | none => some (-1, tpa x (nI t) 0)
    | some k => some (tr k 0, tpa x (nI (t + 1)) 0) := by
  rw [c_one hx ha (by decide) (by decide) (by decide)]
  have e1 := lexK_s (B := m.2.1 28) (L := L) (i := i) (x := 42) (by decide)
  have e2 := lexK_s (B := m.2.1 28) (L := L) (i := i) (x := 47) (by decide)
  have e3 := lexK_s (B := m.2.1 28) (L := L) (i := i) (x := 37) (by decide)
  unfold mulOp
  by_cases h1 : cb (m.2.1 28) L i = 42
  · rw [if_pos h1, if_pos (Or.inl (e1.mpr h1)), e1.mpr h1]
    rfl
  · rw [if_neg h1]
    by_cases h2 : cb (m.2.1 28) L i = 47
    · rw [if_pos h2, if_pos (Or.inr (Or.inl (e2.mpr h2))), e2.mpr h2]
      rfl
    · rw [if_neg h2]
      by_cases h3 : cb (m.2.1 28) L i = 37
      · rw [if_pos h3, if_pos (Or.inr (Or.inr (e3.mpr h3))), e3.mpr h3]
        rfl
      · rw [if_neg h3, if_neg (fun z => z.elim (fun z => h1 (e1.mp z)) (fun z => z.elim (fun z => h2 (e2.mp z)) (fun z => h3 (e3.mp z))))]
theorem c_add {t i : Nat} (hx : TX (m.2.1 28) L x n) (ha : At L x n t i) : f_X5_takeOneOf F 43 45 45 (tpa x (nI t) 0) = match addOp (cb (m.2.1 28) L i) with
    | none => some (-1, tpa x (nI t) 0)
    | some k => some (tr k 0, tpa x (nI (t + 1)) 0) := by
  rw [c_one hx ha (by decide) (by decide) (by decide)]
  have e1 := lexK_s (B := m.2.1 28) (L := L) (i := i) (x := 43) (by decide)
  have e2 := lexK_s (B := m.2.1 28) (L := L) (i := i) (x := 45) (by decide)
  unfold addOp
  by_cases h1 : cb (m.2.1 28) L i = 43
  · rw [if_pos h1, if_pos (Or.inl (e1.mpr h1)), e1.mpr h1]
    rfl
  · rw [if_neg h1]
    by_cases h2 : cb (m.2.1 28) L i = 45
    · rw [if_pos h2, if_pos (Or.inr (Or.inl (e2.mpr h2))), e2.mpr h2]
      rfl
    · rw [if_neg h2, if_neg (fun z => z.elim (fun z => h1 (e1.mp z)) (fun z => z.elim (fun z => h2 (e2.mp z)) (fun z => h2 (e2.mp z))))]
theorem op_at {i : Nat} {k : Int32} (h : mulOp (cb (m.2.1 28) L i) = some k ∨ addOp (cb (m.2.1 28) L i) = some k) : i < L ∧ lexE (m.2.1 28) L i = i + 1 := by
  have go : ∀ c : Int32, sg1 c → cb (m.2.1 28) L i = c → i < L ∧ lexE (m.2.1 28) L i = i + 1 := fun c hc e => ⟨(lexE_s hc e).2, (lexE_s hc e).1⟩
  rcases h with h | h
  · unfold mulOp at h
    by_cases h1 : cb (m.2.1 28) L i = 42
    · exact go 42 (by decide) h1
    · rw [if_neg h1] at h
      by_cases h2 : cb (m.2.1 28) L i = 47
      · exact go 47 (by decide) h2
      · rw [if_neg h2] at h
        by_cases h3 : cb (m.2.1 28) L i = 37
        · exact go 37 (by decide) h3
        · rw [if_neg h3] at h
          cases h
  · unfold addOp at h
    by_cases h1 : cb (m.2.1 28) L i = 43
    · exact go 43 (by decide) h1
    · rw [if_neg h1] at h
      by_cases h2 : cb (m.2.1 28) L i = 45
      · exact go 45 (by decide) h2
      · rw [if_neg h2] at h
        cases h
end SU
/-- both find the same fault -/
noncomputable def Bad (m x : OB) (L s : Nat) (d o : Int32) (op so nu : Nat → Int32) (rc : Option (Int32 × OB × OB)) (rr : Option OB) : Prop := ∃ (φ p2 : Nat) (e2 c2 t2 : Int32) (so2 nu2 : Nat → Int32) (ru2 : OB), 0 < φ ∧ φ < 4000 ∧ p2 ≤ L ∧ FrS s so so2 ∧ FrS s nu nu2 ∧ rc = some (0, tpa x t2 (nI φ), ru2) ∧ rr = some (ps m (nI p2) (nI φ) e2 d c2 o so2 nu2 op)
/-- both go on at the same place, with the same code -/
noncomputable def Good (m x y : OB) (L s n l0 i u len lim : Nat) (d o : Int32) (op st so nu : Nat → Int32) (rc : Option (Int32 × OB × OB)) (rr : Option OB) : Prop := ∃ (i2 t2 u2 len2 : Nat) (st2 so2 nu2 : Nat → Int32), At L x n t2 i2 ∧ i < i2 ∧ u < u2 ∧ u2 ≤ 60 ∧ len2 + 1 ≤ lim + 2 * (u2 - u) ∧ len < len2 ∧ CE s len2 st2 so2 nu2 ∧ FrS s so so2 ∧ FrS s nu nu2 ∧ (∀ j, j < len → st2 j = st j) ∧ Seg true st2 l0 len2 1 ∧ rc = some (1, tpa x (nI t2) 0, rus y (nI len2) (nI u2) st2) ∧ rr = some (ps m (nI i2) 0 (nI len2) d (nI u2) o so2 nu2 op)
theorem Bad.mono {m x : OB} {L s : Nat} {d o : Int32} {op so nu so1 nu1 : Nat → Int32} {rc : Option (Int32 × OB × OB)} {rr : Option OB} (h : Bad m x L s d o op so1 nu1 rc rr) (h1 : FrS s so so1) (h2 : FrS s nu nu1) : Bad m x L s d o op so nu rc rr := by
  obtain ⟨φ, p2, e2, c2, t2, so2, nu2, ru2, a1, a2, a3, a4, a5, a6, a7⟩ := h
  exact ⟨φ, p2, e2, c2, t2, so2, nu2, ru2, a1, a2, a3, h1.tr a4, h2.tr a5, a6, a7⟩
theorem Good.mono {m x y : OB} {L s n l0 i u len lim i1 u1 len1 lim1 : Nat} {d o : Int32} {op st so nu st1 so1 nu1 : Nat → Int32} {rc : Option (Int32 × OB × OB)} {rr : Option OB} (h : Good m x y L s n l0 i1 u1 len1 lim1 d o op st1 so1 nu1 rc rr) (hi : i ≤ i1) (hu : u ≤ u1) (hl : len ≤ len1) (hm : lim1 ≤ lim + 2 * (u1 - u)) (h1 : FrS s so so1) (h2 : FrS s nu nu1) (h3 : ∀ j, j < len → st1 j = st j) : Good m x y L s n l0 i u len lim d o op st so nu rc rr := by
  obtain ⟨i2, t2, u2, len2, st2, so2, nu2, a1, a2, a3, a4, a5, a6, a7, a8, a9, a10, a11, a12, a13⟩ := h
  exact ⟨i2, t2, u2, len2, st2, so2, nu2, a1, by omega, by omega, a4, by omega, by omega, a7, h1.tr a8, h2.tr a9, fun j hj => (a10 j (by omega)).trans (h3 j hj), a11, a12, a13⟩
theorem RefV_t {F : Nat} {ra : Option Int32} {k : Int32} {ft fs : Nat} {mo : OB} : Option.bind ((f_X9_value F mo).bind fun q => (f_X9_entry F k 0 q).bind fun q => (f_X9_blanks F q).bind fun q => lp (b_X9_term_8 F) ft q) (fun q => (eo F ra q).bind fun q => lp (b_X9_sum_4 F) fs q) = RefV F ra (some k) ft fs mo := by
  unfold RefV
  cases f_X9_value F mo with
  | none => rfl
  | some q =>
    show Option.bind (Option.bind (f_X9_entry F k 0 q) _) _ = Option.bind (f_X9_entry F k 0 q) _
    cases f_X9_entry F k 0 q with
    | none => rfl
    | some q =>
      show Option.bind (Option.bind (f_X9_blanks F q) _) _ = Option.bind (f_X9_blanks F q) _
      cases f_X9_blanks F q with
      | none => rfl
      | some q => rfl
section SM
variable {F : Nat} {m x y : OB} {L s n l0 : Nat} {d o : Int32} {op : Nat → Int32}
/-- where a sum goes on: the class's loop, and the reference -/
noncomputable def SumAt (F : Nat) (m x y : OB) (L s n l0 : Nat) (d o : Int32) (op : Nat → Int32) (N : Nat) : Prop := ∀ (i t p u len cnt fc ft fs : Nat) (st so nu : Nat → Int32) (ra rm : Option Int32), L - i < N → At L x n t i → p ≤ L → sk (m.2.1 28) L p = i → u ≤ 60 → CE s len st so nu → isOp ra → isOp rm → 3 * (len + pn ra + pn rm) ≤ 14 * u + 36 → 2 * cnt ≤ i → L - i < fc → L - i < ft → L - i < fs → Seg true st l0 len (pn ra + pn rm) →
  Bad m x L s d o op so nu (lp (b_X5_readSum_7 F) fc (cop ra, cop rm, nI cnt, tpa x (nI t) 0, rus y (nI len) (nI u) st)) (RefV F ra rm ft fs (ps m (nI p) 0 (nI len) d (nI u) o so nu op)) ∨ Good m x y L s n l0 i u len (len + pn ra + pn rm) d o op st so nu (lp (b_X5_readSum_7 F) fc (cop ra, cop rm, nI cnt, tpa x (nI t) 0, rus y (nI len) (nI u) st)) (RefV F ra rm ft fs (ps m (nI p) 0 (nI len) d (nI u) o so nu op))
theorem sum_tail {N i t u len cnt g ft fs e : Nat} {st so nu : Nat → Int32} {ra : Option Int32} (hr : RB m L s) (hF : 600 ≤ F) (hx : TX (m.2.1 28) L x n) (ih : SumAt F m x y L s n l0 d o op N) (hN : L - i ≤ N) (ha : At L x n t i) (he : e ≤ L) (hk : sk (m.2.1 28) L e = i) (hu : u ≤ 60) (hc : CE s len st so nu) (hra : isOp ra) (hb : 3 * (len + pn ra) ≤ 14 * u + 28) (hcnt : 2 * cnt < i) (hg : L - i < g + 1) (hft : L - i < ft) (hfs : L - i < fs) (hseg : Seg true st l0 len (pn ra + 1)) :
    Bad m x L s d o op so nu (b_X5_readSum_35 F (lp (b_X5_readSum_7 F) g) (cop ra) (nI cnt) (tpa x (nI t) 0) (rus y (nI len) (nI u) st)) ((f_X9_blanks F (ps m (nI e) 0 (nI len) d (nI u) o so nu op)).bind fun q => (lp (b_X9_term_8 F) ft q).bind fun q => (eo F ra q).bind fun q => lp (b_X9_sum_4 F) fs q)
    ∨ (∃ (i2 t2 u2 len2 : Nat) (st2 so2 nu2 : Nat → Int32), At L x n t2 i2 ∧ i ≤ i2 ∧ u ≤ u2 ∧ u2 ≤ 60 ∧ len2 ≤ len + pn ra + 2 * (u2 - u) ∧ len ≤ len2 ∧ CE s len2 st2 so2 nu2 ∧ FrS s so so2 ∧ FrS s nu nu2 ∧ (∀ j, j < len → st2 j = st j) ∧ Seg true st2 l0 len2 1 ∧ b_X5_readSum_35 F (lp (b_X5_readSum_7 F) g) (cop ra) (nI cnt) (tpa x (nI t) 0) (rus y (nI len) (nI u) st) = some (1, tpa x (nI t2) 0, rus y (nI len2) (nI u2) st2) ∧ ((f_X9_blanks F (ps m (nI e) 0 (nI len) d (nI u) o so nu op)).bind fun q => (lp (b_X9_term_8 F) ft q).bind fun q => (eo F ra q).bind fun q => lp (b_X9_sum_4 F) fs q) = some (ps m (nI i2) 0 (nI len2) d (nI u2) o so2 nu2 op)) := by
  have h4 := hr.2.1
  have hi := ha.2.1
  obtain ⟨a, rfl⟩ : ∃ a, ft = a + 1 := ⟨ft - 1, by omega⟩
  obtain ⟨b, rfl⟩ : ∃ b, fs = b + 1 := ⟨fs - 1, by omega⟩
  rw [s_blanks hr hF he, bd_some, hk, t_go hr hi]
  unfold b_X5_readSum_35 b_X5_readSum_61 b_X5_readSum_79
  rw [c_mul hx ha, nI_1]
  cases hm : mulOp (cb (m.2.1 28) L i) with
  | some k =>
    obtain ⟨hl, hE⟩ := op_at (m := m) (Or.inl hm)
    have ho := isOp_mul (cb (m.2.1 28) L i) k hm
    have hA := (ha.at hx).2.2.2 hl
    rw [hE] at hA
    have hsk := sk_ge (B := m.2.1 28) (L := L) (p := i + 1) (by omega)
    try dsimp only
    rw [bd_some, if_neg ho.2.2, RefV_t]
    have hq := ih (sk (m.2.1 28) L (i + 1)) (t + 1) (i + 1) u len (cnt + 1) g a (b + 1) st so nu ra (some k) (by omega) hA (by omega) rfl hu hc hra (fun k2 e2 => by cases e2; exact ho) (by show 3 * (len + pn ra + 1) ≤ _; omega) (by omega) (by omega) (by omega) (by omega) hseg
    rcases hq with hq | hq
    · exact Or.inl hq
    · obtain ⟨i2, t2, u2, len2, st2, so2, nu2, a1, a2, a3, a4, a5, a6, a7, a8, a9, a10, a11, a12, a13⟩ := hq
      refine Or.inr ⟨i2, t2, u2, len2, st2, so2, nu2, a1, by omega, by omega, a4, ?_, by omega, a7, a8, a9, a10, a11, a12, a13⟩
      have a5 : len2 + 1 ≤ len + pn ra + 1 + 2 * (u2 - u) := a5
      omega
  | none =>
    try dsimp only
    rw [bd_some, bd_some, if_pos rfl]
    have fin : ∀ (len1 : Nat) (st1 so1 nu1 : Nat → Int32), len ≤ len1 → len1 ≤ len + pn ra → CE s len1 st1 so1 nu1 → FrS s so so1 → FrS s nu nu1 → (∀ j, j < len → st1 j = st j) → Seg true st1 l0 len1 1 →
        (Bad m x L s d o op so nu (Option.bind (f_X5_takeOneOf F 43 45 45 (tpa x (nI t) 0)) (fun q1 => (if q1.1 = (-1) then (some (1, q1.2, rus y (nI len1) (nI u) st1)) else lp (b_X5_readSum_7 F) g (q1.1, -1, nI (cnt + 1), q1.2, rus y (nI len1) (nI u) st1)))) (lp (b_X9_sum_4 F) (b + 1) (ps m (nI i) 0 (nI len1) d (nI u) o so1 nu1 op))
        ∨ (∃ (i2 t2 u2 len2 : Nat) (st2 so2 nu2 : Nat → Int32), At L x n t2 i2 ∧ i ≤ i2 ∧ u ≤ u2 ∧ u2 ≤ 60 ∧ len2 ≤ len + pn ra + 2 * (u2 - u) ∧ len ≤ len2 ∧ CE s len2 st2 so2 nu2 ∧ FrS s so so2 ∧ FrS s nu nu2 ∧ (∀ j, j < len → st2 j = st j) ∧ Seg true st2 l0 len2 1 ∧ Option.bind (f_X5_takeOneOf F 43 45 45 (tpa x (nI t) 0)) (fun q1 => (if q1.1 = (-1) then (some (1, q1.2, rus y (nI len1) (nI u) st1)) else lp (b_X5_readSum_7 F) g (q1.1, -1, nI (cnt + 1), q1.2, rus y (nI len1) (nI u) st1))) = some (1, tpa x (nI t2) 0, rus y (nI len2) (nI u2) st2) ∧ lp (b_X9_sum_4 F) (b + 1) (ps m (nI i) 0 (nI len1) d (nI u) o so1 nu1 op) = some (ps m (nI i2) 0 (nI len2) d (nI u2) o so2 nu2 op))) := by
      intro len1 st1 so1 nu1 g1 g2 g3 g4 g5 g6 g7
      rw [a_go hr hi, c_add hx ha]
      cases hm2 : addOp (cb (m.2.1 28) L i) with
      | none =>
        try dsimp only
        rw [bd_some, if_pos rfl]
        exact Or.inr ⟨i, t, u, len1, st1, so1, nu1, ha, Nat.le_refl _, Nat.le_refl _, hu, by omega, g1, g3, g4, g5, g6, g7, rfl, rfl⟩
      | some k =>
        obtain ⟨hl, hE⟩ := op_at (m := m) (Or.inr hm2)
        have ho := isOp_add (cb (m.2.1 28) L i) k hm2
        have hA := (ha.at hx).2.2.2 hl
        rw [hE] at hA
        have hsk := sk_ge (B := m.2.1 28) (L := L) (p := i + 1) (by omega)
        try dsimp only
        rw [bd_some, if_neg ho.2.2]
        have hq := ih (sk (m.2.1 28) L (i + 1)) (t + 1) (i + 1) u len1 (cnt + 1) g F b st1 so1 nu1 (some k) none (by omega) hA (by omega) rfl hu g3 (fun k2 e2 => by cases e2; exact ho) (fun k2 e2 => by cases e2) (by show 3 * (len1 + 1 + 0) ≤ _; omega) (by omega) (by omega) (by omega) (by omega) g7
        rcases hq with hq | hq
        · exact Or.inl (hq.mono g4 g5)
        · obtain ⟨i2, t2, u2, len2, st2, so2, nu2, a1, a2, a3, a4, a5, a6, a7, a8, a9, a10, a11, a12, a13⟩ := hq
          have a5 : len2 + 1 ≤ len1 + 1 + 0 + 2 * (u2 - u) := a5
          exact Or.inr ⟨i2, t2, u2, len2, st2, so2, nu2, a1, by omega, by omega, a4, by omega, by omega, a7, g4.tr a8, g5.tr a9, fun j hj => (a10 j (by omega)).trans (g6 j hj), a11, a12, a13⟩
    cases ra with
    | none =>
      rw [show cop none = -1 from rfl, if_pos rfl]
      exact fin len st so nu (Nat.le_refl _) (by omega) hc FrS.rf FrS.rf (fun _ _ => rfl) hseg
    | some k =>
      have ho := hra k rfl
      have hb : 3 * (len + 1) ≤ 14 * u + 28 := hb
      rw [show cop (some k) = tr k 0 from rfl, if_neg ho.2.2, s_add (by omega), bd_some]
      show _ ∨ _
      rw [show eo F (some k) (ps m (nI i) 0 (nI len) d (nI u) o so nu op) = f_X9_entry F k 0 (ps m (nI i) 0 (nI len) d (nI u) o so nu op) from rfl, s_entry hr (by omega), bd_some]
      exact fin (len + 1) (upd st len (tr k 0)) (upd so (300 * s + len) k) (upd nu (300 * s + len) 0) (by omega) (Nat.le_refl _) (hc.app ho.1 rfl) (FrS.rf.up (by omega)) (FrS.rf.up (by omega)) (fun j hj => pk_un (by omega)) (Seg.b (j := 0) hseg ho.2.1)
theorem sum_sim (hr : RB m L s) (hF : 600 ≤ F) (hx : TX (m.2.1 28) L x n) : ∀ N, SumAt F m x y L s n l0 d o op N
  | 0 => fun i t p u len cnt fc ft fs st so nu ra rm h => absurd h (by omega)
  | N + 1 => by
    intro i t p u len cnt fc ft fs st so nu ra rm hN ha hp hk hu hc hra hrm hb hcnt hfc hft hfs hseg
    have h4 := hr.2.1
    have hi := ha.2.1
    obtain ⟨g, rfl⟩ : ∃ g, fc = g + 1 := ⟨fc - 1, by omega⟩
    rw [lp_S, b_X5_readSum_7]
    try dsimp only
    rw [if_neg (show ¬ (400 : Int32) ≤ nI cnt from by
      rw [sp_le, nI_toInt (by omega), show (400 : Int32).toInt = 400 from by decide]
      omega)]
    rcases v_sim (y := y) (d := d) (o := o) (st := st) (so := so) (nu := nu) (op := op) hr hF hx ha hp hk hu (show len < 300 by omega) with ⟨φ, p2, c2, b1, b2, b3, b4, b5⟩ | ⟨k, a, b, b1, b2, b3, b4, b5, b6, b7⟩
    · rw [b4, bd_some, if_pos rfl]
      refine Or.inl ⟨φ, sk (m.2.1 28) L p2, nI len, c2, nI t, so, nu, rus y (nI len) (nI u) st, b1, b2, sk_le b3, FrS.rf, FrS.rf, rfl, ?_⟩
      exact RefV_bad hr hF (nI_ne0 b1 (by omega)) b3 b5 (by omega) (by omega)
    · have hA := (ha.at hx).2.2.2 b2
      have hE := lexE_gt (B := m.2.1 28) b2
      have hsk := sk_ge (B := m.2.1 28) hE.2
      rw [b6, bd_some]
      try dsimp only
      rw [if_neg (show ¬ (1 : Int32) = 0 from by decide)]
      unfold RefV
      rw [b7, bd_some]
      have hs1 : Seg true (upd st len k) l0 (len + 1) (pn ra + pn rm + 1) := (hseg.cg (fun j _ hj => pk_un (by omega))).tr (Seg.v b5)
      have hc1 : CE s (len + 1) (upd st len k) (upd so (300 * s + len) a) (upd nu (300 * s + len) b) := hc.app b3 b4
      have conv : ∀ (len1 : Nat) (st1 so1 nu1 : Nat → Int32) (rc : Option (Int32 × OB × OB)) (rr : Option OB), len1 ≤ len + 1 + pn rm → len < len1 → (∀ j, j < len → st1 j = st j) → FrS s so so1 → FrS s nu nu1 → (Bad m x L s d o op so1 nu1 rc rr ∨ (∃ (i2 t2 u2 len2 : Nat) (st2 so2 nu2 : Nat → Int32), At L x n t2 i2 ∧ sk (m.2.1 28) L (lexE (m.2.1 28) L i) ≤ i2 ∧ u + 1 ≤ u2 ∧ u2 ≤ 60 ∧ len2 ≤ len1 + pn ra + 2 * (u2 - (u + 1)) ∧ len1 ≤ len2 ∧ CE s len2 st2 so2 nu2 ∧ FrS s so1 so2 ∧ FrS s nu1 nu2 ∧ (∀ j, j < len1 → st2 j = st1 j) ∧ Seg true st2 l0 len2 1 ∧ rc = some (1, tpa x (nI t2) 0, rus y (nI len2) (nI u2) st2) ∧ rr = some (ps m (nI i2) 0 (nI len2) d (nI u2) o so2 nu2 op))) → Bad m x L s d o op so nu rc rr ∨ Good m x y L s n l0 i u len (len + pn ra + pn rm) d o op st so nu rc rr := by
        intro len1 st1 so1 nu1 rc rr q1 q2 q3 q4 q5 hq
        rcases hq with hq | ⟨i2, t2, u2, len2, st2, so2, nu2, a1, a2, a3, a4, a5, a6, a7, a8, a9, a10, a11, a12, a13⟩
        · exact Or.inl (hq.mono q4 q5)
        · exact Or.inr ⟨i2, t2, u2, len2, st2, so2, nu2, a1, by omega, by omega, a4, by omega, by omega, a7, q4.tr a8, q5.tr a9, fun j hj => (a10 j (by omega)).trans (q3 j hj), a11, a12, a13⟩
      cases rm with
      | none =>
        rw [show cop none = -1 from rfl, if_pos rfl]
        have hb : 3 * (len + pn ra + 0) ≤ 14 * u + 36 := hb
        exact conv (len + 1) (upd st len k) _ _ _ _ (Nat.le_refl _) (by omega) (fun j hj => pk_un (by omega)) (FrS.rf.up (by omega)) (FrS.rf.up (by omega)) (sum_tail hr hF hx (sum_sim hr hF hx N) (by omega) hA hE.2 rfl (by omega) hc1 hra (by omega) (by omega) (by omega) (by omega) (by omega) hs1)
      | some k2 =>
        have ho := hrm k2 rfl
        have hb : 3 * (len + pn ra + 1) ≤ 14 * u + 36 := hb
        rw [show cop (some k2) = tr k2 0 from rfl, if_neg ho.2.2, s_add (by omega), bd_some]
        rw [show eo F (some k2) (ps m (nI (lexE (m.2.1 28) L i)) 0 (nI (len + 1)) d (nI (u + 1)) o (upd so (300 * s + len) a) (upd nu (300 * s + len) b) op) = f_X9_entry F k2 0 (ps m (nI (lexE (m.2.1 28) L i)) 0 (nI (len + 1)) d (nI (u + 1)) o (upd so (300 * s + len) a) (upd nu (300 * s + len) b) op) from rfl, s_entry hr (by omega), bd_some]
        exact conv (len + 1 + 1) (upd (upd st len k) (len + 1) (tr k2 0)) _ _ _ _ (Nat.le_refl _) (by omega) (fun j hj => by rw [pk_un (by omega), pk_un (by omega)]) ((FrS.rf.up (by omega)).up (by omega)) ((FrS.rf.up (by omega)).up (by omega)) (sum_tail hr hF hx (sum_sim hr hF hx N) (by omega) hA hE.2 rfl (by omega) (hc1.app ho.1 rfl) hra (by omega) (by omega) (by omega) (by omega) (by omega) (Seg.b (j := pn ra) hs1 ho.2.1))
/-- a whole sum -/
theorem sum_all {i t p u len : Nat} {st so nu : Nat → Int32} (hr : RB m L s) (hF : 600 ≤ F) (hx : TX (m.2.1 28) L x n) (ha : At L x n t i) (hp : p ≤ L) (hk : sk (m.2.1 28) L p = i) (hu : u ≤ 60) (hc : CE s len st so nu) (hb : 3 * len ≤ 14 * u + 36) : Bad m x L s d o op so nu (f_X5_readSum F (tpa x (nI t) 0) (rus y (nI len) (nI u) st)) (f_X9_sum F (ps m (nI p) 0 (nI len) d (nI u) o so nu op)) ∨ Good m x y L s n len i u len len d o op st so nu (f_X5_readSum F (tpa x (nI t) 0) (rus y (nI len) (nI u) st)) (f_X9_sum F (ps m (nI p) 0 (nI len) d (nI u) o so nu op)) := by
  have h4 := hr.2.1
  have hi := ha.2.1
  have := sum_sim (y := y) (l0 := len) (d := d) (o := o) (op := op) hr hF hx (L - i + 1) i t p u len 0 F F F st so nu none none (by omega) ha hp hk hu hc (fun k2 e2 => by cases e2) (fun k2 e2 => by cases e2) (by show 3 * (len + 0 + 0) ≤ _; omega) (by omega) (by omega) (by omega) (by omega) Seg.z
  unfold f_X5_readSum
  rw [sum_RefV]
  exact this
theorem g_sum {p : Nat} {f e c : Int32} {so nu : Nat → Int32} (hr : RB m L s) (hF : 600 ≤ F) (hf : ¬ f = 0) (hp : p ≤ L) : ∃ (p2 : Nat) (c2 : Int32), p2 ≤ L ∧ f_X9_sum F (ps m (nI p) f e d c o so nu op) = some (ps m (nI p2) f e d c2 o so nu op) := by
  obtain ⟨p2, c2, h1, h2⟩ := g_val (e := e) (d := d) (c := c) (o := o) (so := so) (nu := nu) (op := op) hr hF hf hp
  exact ⟨_, c2, sk_le h1, by rw [sum_RefV]; exact RefV_bad hr hF hf h1 h2 (by omega) (by omega)⟩
end SM
end
section
/-! a comparison, pure: both readers -/
noncomputable def kc (B : Nat → Int32) (L i : Nat) : Int32 := if cb B L i = 61 then 6 else if cb B L i = 60 then (if cb B L (i + 1) = 61 then 5 else 4) else (if cb B L (i + 1) = 61 then 7 else 8)
abbrev sg (B : Nat → Int32) (L i : Nat) : Prop := cb B L i = 60 ∨ cb B L i = 61 ∨ cb B L i = 62
theorem sg_K {B : Nat → Int32} {L i : Nat} (h : sg B L i) : i < L ∧ lexK B L i = tr (kc B L i) 0 ∧ VE (kc B L i) 0 ∧ cmK (tr (kc B L i) 0) ∧ (lexK B L i = 60 ∨ lexK B L i = 256 ∨ lexK B L i = 61 ∨ lexK B L i = 257 ∨ lexK B L i = 62) ∧ lexE B L i = if cb B L i = 61 then i + 1 else if cb B L (i + 1) = 61 then i + 2 else i + 1 := by
  have hl : i < L := by
    by_cases z : i < L
    · exact z
    · rw [sg, cb_out (by omega)] at h
      exact absurd h (by decide)
  have nl : ∀ c : Int32, ¬ isL c → ¬ isD c → cb B L i = c → lB B L i ≠ true ∧ dB B L i ≠ true := fun c h1 h2 e => ⟨fun q => h1 (e ▸ of_decide_eq_true q), fun q => h2 (e ▸ of_decide_eq_true q)⟩
  refine ⟨hl, ?_⟩
  unfold kc lexK lexE
  rcases h with h | h | h
  · obtain ⟨a, b⟩ := nl 60 (by decide) (by decide) h
    rw [if_neg a, if_neg b, if_neg a, if_neg b, h, if_neg (show ¬ (60 : Int32) = 61 by decide), if_pos rfl, if_neg (show ¬ (60 : Int32) = 61 by decide), if_pos rfl]
    by_cases q : cb B L (i + 1) = 61
    · rw [if_pos q, if_pos ⟨Or.inl rfl, q⟩, if_pos ⟨Or.inl rfl, q⟩, if_pos q]
      exact ⟨by decide, VE_lit (q := 5) (by decide) rfl, by decide, Or.inr (Or.inl rfl), rfl⟩
    · rw [if_neg q, if_neg (fun z => q z.2), if_neg (fun z => q z.2), if_neg q]
      exact ⟨by decide, VE_lit (q := 4) (by decide) rfl, by decide, Or.inl rfl, rfl⟩
  · obtain ⟨a, b⟩ := nl 61 (by decide) (by decide) h
    rw [if_neg a, if_neg b, if_neg a, if_neg b, h, if_pos rfl, if_pos rfl, if_neg (fun z => absurd z.1 (by decide)), if_neg (fun z => absurd z.1 (by decide))]
    exact ⟨by decide, VE_lit (q := 6) (by decide) rfl, by decide, Or.inr (Or.inr (Or.inl rfl)), rfl⟩
  · obtain ⟨a, b⟩ := nl 62 (by decide) (by decide) h
    rw [if_neg a, if_neg b, if_neg a, if_neg b, h, if_neg (show ¬ (62 : Int32) = 61 by decide), if_neg (show ¬ (62 : Int32) = 60 by decide), if_neg (show ¬ (62 : Int32) = 61 by decide), if_neg (show ¬ (62 : Int32) = 60 by decide)]
    by_cases q : cb B L (i + 1) = 61
    · rw [if_pos q, if_pos ⟨Or.inr rfl, q⟩, if_pos ⟨Or.inr rfl, q⟩, if_pos q]
      exact ⟨by decide, VE_lit (q := 7) (by decide) rfl, by decide, Or.inr (Or.inr (Or.inr (Or.inl rfl))), rfl⟩
    · rw [if_neg q, if_neg (fun z => q z.2), if_neg (fun z => q z.2), if_neg q]
      exact ⟨by decide, VE_lit (q := 8) (by decide) rfl, by decide, Or.inr (Or.inr (Or.inr (Or.inr rfl))), rfl⟩
theorem sg_no {B : Nat → Int32} {L i : Nat} (h : ¬ sg B L i) : ¬ lexK B L i = 60 ∧ ¬ lexK B L i = 256 ∧ ¬ lexK B L i = 61 ∧ ¬ lexK B L i = 257 ∧ ¬ lexK B L i = 62 := by
  have n60 : ¬ cb B L i = 60 := fun q => h (Or.inl q)
  have n61 : ¬ cb B L i = 61 := fun q => h (Or.inr (Or.inl q))
  have n62 : ¬ cb B L i = 62 := fun q => h (Or.inr (Or.inr q))
  unfold lexK
  by_cases h1 : lB B L i = true
  · rw [if_pos h1]
    rcases kw_r (B := B) (L := L) (i := i) (j := re (lB B L) L i) 18 (Nat.le_refl _) with q | ⟨w, hw, _, q⟩
    · rw [q]
      decide
    · rw [q]
      exact (show ∀ w, w < 18 → ¬ nI (260 + w) = (60 : Int32) ∧ ¬ nI (260 + w) = (256 : Int32) ∧ ¬ nI (260 + w) = (61 : Int32) ∧ ¬ nI (260 + w) = (257 : Int32) ∧ ¬ nI (260 + w) = (62 : Int32) from by decide) w hw
  · rw [if_neg h1]
    by_cases h2 : dB B L i = true
    · rw [if_pos h2]
      decide
    · rw [if_neg h2, if_neg (fun z => z.1.elim n60 n62)]
      have hr := cb_r B L i
      refine ⟨n60, fun q => ?_, n61, fun q => ?_, n62⟩
      · rw [q] at hr
        exact absurd hr (by decide)
      · rw [q] at hr
        exact absurd hr (by decide)
section CM
variable {F : Nat} {m x y : OB} {L s n : Nat} {d o : Int32} {op : Nat → Int32}
theorem r_cmp {i : Nat} {f e c : Int32} {so nu : Nat → Int32} (hr : RB m L s) (h : sg (m.2.1 28) L i) : b_X9_compared_37 F (cb (m.2.1 28) L i) (ps m (nI i) f e d c o so nu op) = (f_X9_sum F (ps m (nI (lexE (m.2.1 28) L i)) (if c = 60 ∧ f = 0 then 1 + 8 * nI i + 3 else f) e d (c + 1) o so nu op)).bind fun q => (f_X9_entry F (kc (m.2.1 28) L i) 0 q).bind fun q => some q := by
  have h4 := hr.2.1
  obtain ⟨hl, _, _, _, _, hE⟩ := sg_K h
  rw [hE]
  unfold b_X9_compared_37 b_X9_compared_74 b_X9_compared_75 b_X9_compared_90 b_X9_compared_139 kc
  rw [show (ps m (nI i) f e d c o so nu op).1 19 = nI i from rfl, s_counted, bd_some]
  have e19 : ∀ (pp f c : Int32), (ps m pp f e d c o so nu op).1 19 = pp := fun _ _ _ => rfl
  rw [e19, nI_1, ps_p, s_sign hr (by omega), e19, nI_1]
  have z0 : nI (i + 1) + 0 = nI (i + 1) := nI_add _ 0
  have n61 : ¬ (60 : Int32) = 61 := by decide
  have n62 : ¬ (62 : Int32) = 61 := by decide
  have n60 : ¬ (62 : Int32) = 60 := by decide
  have n1 : ¬ (1 : Int32) = 0 := by decide
  rcases h with h | h | h
  · rw [h, if_neg n61, if_neg n61, if_neg n61, bd_some, if_pos (rfl : (60 : Int32) = 60)]
    by_cases q : cb (m.2.1 28) L (i + 1) = 61
    · rw [if_pos q, if_pos q, if_pos q, if_neg n1, ps_p]
      refine congrArg (Option.bind _) (funext fun q2 => ?_)
      rw [if_neg n61, if_pos (rfl : (60 : Int32) = 60), if_neg n1]
    · rw [if_neg q, if_neg q, if_neg q, if_pos (rfl : (0 : Int32) = 0), z0, ps_p]
      refine congrArg (Option.bind _) (funext fun q2 => ?_)
      rw [if_neg n61, if_pos (rfl : (60 : Int32) = 60), if_pos (rfl : (0 : Int32) = 0)]
  · rw [h, if_pos (rfl : (61 : Int32) = 61), if_pos (rfl : (61 : Int32) = 61), if_pos (rfl : (61 : Int32) = 61), if_pos (rfl : (0 : Int32) = 0), z0, ps_p]
    refine congrArg (Option.bind _) (funext fun q2 => ?_)
    rw [if_pos (rfl : (61 : Int32) = 61)]
  · rw [h, if_neg n62, if_neg n62, if_neg n62, bd_some, if_neg n60]
    by_cases q : cb (m.2.1 28) L (i + 1) = 61
    · rw [if_pos q, if_pos q, if_pos q, if_neg n1, ps_p]
      refine congrArg (Option.bind _) (funext fun q2 => ?_)
      rw [if_neg n62, if_neg n60, if_neg n1]
    · rw [if_neg q, if_neg q, if_neg q, if_pos (rfl : (0 : Int32) = 0), z0, ps_p]
      refine congrArg (Option.bind _) (funext fun q2 => ?_)
      rw [if_neg n62, if_neg n60, if_pos (rfl : (0 : Int32) = 0)]
theorem r_comp {mo : OB} {i : Nat} {f e c : Int32} {so nu : Nat → Int32} (hr : RB m L s) (hi : i ≤ L) (h : f_X9_sum F mo = some (ps m (nI i) f e d c o so nu op)) : f_X9_compared F mo = if sg (m.2.1 28) L i then ((f_X9_sum F (ps m (nI (lexE (m.2.1 28) L i)) (if c = 60 ∧ f = 0 then 1 + 8 * nI i + 3 else f) e d (c + 1) o so nu op)).bind fun q => (f_X9_entry F (kc (m.2.1 28) L i) 0 q).bind fun q => some q) else some (ps m (nI i) (if f = 0 then 1 + 8 * nI i + 0 else f) e d c o so nu op) := by
  have h4 := hr.2.1
  unfold f_X9_compared
  rw [h, bd_some, s_sign hr (by omega), bd_some]
  by_cases h1 : cb (m.2.1 28) L i = 60
  · rw [if_pos h1, if_pos (Or.inl h1), r_cmp hr (Or.inl h1)]
  · rw [if_neg h1]
    by_cases h2 : cb (m.2.1 28) L i = 61
    · rw [if_pos h2, if_pos (Or.inr (Or.inl h2)), r_cmp hr (Or.inr (Or.inl h2))]
    · rw [if_neg h2]
      by_cases h3 : cb (m.2.1 28) L i = 62
      · rw [if_pos h3, if_pos (Or.inr (Or.inr h3)), r_cmp hr (Or.inr (Or.inr h3))]
      · rw [if_neg h3, if_neg (fun z => z.elim h1 (fun z => z.elim h2 h3)), show (ps m (nI i) f e d c o so nu op).1 19 = nI i from rfl, s_fails, bd_some]
/-- a comparison that is read by both -/
noncomputable def GoodC (m x y : OB) (L s n i u len : Nat) (d o : Int32) (op st so nu : Nat → Int32) (rc : Option (Int32 × OB × OB)) (rr : Option OB) : Prop := ∃ (i2 t2 u2 len2 : Nat) (st2 so2 nu2 : Nat → Int32), At L x n t2 i2 ∧ i < i2 ∧ u + 3 ≤ u2 ∧ u2 ≤ 60 ∧ len2 + 3 ≤ len + 2 * (u2 - u) ∧ len < len2 ∧ CE s len2 st2 so2 nu2 ∧ FrS s so so2 ∧ FrS s nu nu2 ∧ (∀ j, j < len → st2 j = st j) ∧ Seg false st2 len len2 1 ∧ rc = some (1, tpa x (nI t2) 0, rus y (nI len2) (nI u2) st2) ∧ rr = some (ps m (nI i2) 0 (nI len2) d (nI u2) o so2 nu2 op)
theorem cmp_all {i t p u len : Nat} {st so nu : Nat → Int32} (hr : RB m L s) (hF : 600 ≤ F) (hx : TX (m.2.1 28) L x n) (ha : At L x n t i) (hp : p ≤ L) (hk : sk (m.2.1 28) L p = i) (hu : u ≤ 60) (hc : CE s len st so nu) (hb : 3 * len ≤ 14 * u + 36) : Bad m x L s d o op so nu (f_X5_readComparison F (tpa x (nI t) 0) (rus y (nI len) (nI u) st)) (f_X9_compared F (ps m (nI p) 0 (nI len) d (nI u) o so nu op)) ∨ GoodC m x y L s n i u len d o op st so nu (f_X5_readComparison F (tpa x (nI t) 0) (rus y (nI len) (nI u) st)) (f_X9_compared F (ps m (nI p) 0 (nI len) d (nI u) o so nu op)) := by
  have h4 := hr.2.1
  unfold f_X5_readComparison
  rcases sum_all (y := y) (d := d) (o := o) (op := op) hr hF hx ha hp hk hu hc hb with hq | hq
  · obtain ⟨φ, p2, e2, c2, t2, so2, nu2, ru2, a1, a2, a3, a4, a5, a6, a7⟩ := hq
    have hφ : ¬ nI φ = 0 := nI_ne0 a1 (by omega)
    have hz : ¬ (c2 = 60 ∧ nI φ = 0) := fun z => hφ z.2
    rw [a6, bd_some, if_pos rfl, r_comp hr a3 a7, if_neg hz, if_neg hφ]
    by_cases hs : sg (m.2.1 28) L p2
    · rw [if_pos hs]
      have hl := (sg_K hs).1
      obtain ⟨p3, c3, g1, g2⟩ := g_sum (d := d) (o := o) (op := op) (e := e2) (c := c2 + 1) (so := so2) (nu := nu2) hr hF hφ (lexE_gt (B := m.2.1 28) hl).2
      rw [g2, bd_some, g_entry hφ, bd_some]
      exact Or.inl ⟨φ, p3, e2, c3, t2, so2, nu2, ru2, a1, a2, g1, a4, a5, rfl, rfl⟩
    · rw [if_neg hs]
      exact Or.inl ⟨φ, p2, e2, c2, t2, so2, nu2, ru2, a1, a2, a3, a4, a5, rfl, rfl⟩
  · obtain ⟨i1, t1, u1, len1, st1, so1, nu1, a1, a2, a3, a4, a5, a6, a7, a8, a9, a10, a11, a12, a13⟩ := hq
    have hi1 := a1.2.1
    rw [a12, bd_some, r_comp hr hi1 a13]
    try dsimp only
    rw [if_neg (show ¬ (1 : Int32) = 0 by decide), s_kind hx a1, bd_some]
    by_cases hs : sg (m.2.1 28) L i1
    · obtain ⟨hl, hK, hV, hB, hS, hE⟩ := sg_K hs
      have hE2 := lexE_gt (B := m.2.1 28) hl
      have hA := (a1.at hx).2.2.2 hl
      have hsk := sk_ge (B := m.2.1 28) hE2.2
      rw [if_pos hs]
      have cl : (if lexK (m.2.1 28) L i1 = 60 then b_X5_readComparison_53 F (lexK (m.2.1 28) L i1) (tpa x (nI t1) 0) (rus y (nI len1) (nI u1) st1) else if lexK (m.2.1 28) L i1 = 256 then b_X5_readComparison_53 F (lexK (m.2.1 28) L i1) (tpa x (nI t1) 0) (rus y (nI len1) (nI u1) st1) else if lexK (m.2.1 28) L i1 = 61 then b_X5_readComparison_53 F (lexK (m.2.1 28) L i1) (tpa x (nI t1) 0) (rus y (nI len1) (nI u1) st1) else if lexK (m.2.1 28) L i1 = 257 then b_X5_readComparison_53 F (lexK (m.2.1 28) L i1) (tpa x (nI t1) 0) (rus y (nI len1) (nI u1) st1) else if lexK (m.2.1 28) L i1 = 62 then b_X5_readComparison_53 F (lexK (m.2.1 28) L i1) (tpa x (nI t1) 0) (rus y (nI len1) (nI u1) st1) else (Option.bind (f_X7_fail F 0 (tpa x (nI t1) 0)) (fun q16 => (if bo q16.1 then (some (q16.1, q16.2, rus y (nI len1) (nI u1) st1)) else none)))) = b_X5_readComparison_53 F (lexK (m.2.1 28) L i1) (tpa x (nI t1) 0) (rus y (nI len1) (nI u1) st1) := by
        by_cases k1 : lexK (m.2.1 28) L i1 = 60
        · rw [if_pos k1]
        · rw [if_neg k1]
          by_cases k2 : lexK (m.2.1 28) L i1 = 256
          · rw [if_pos k2]
          · rw [if_neg k2]
            by_cases k3 : lexK (m.2.1 28) L i1 = 61
            · rw [if_pos k3]
            · rw [if_neg k3]
              by_cases k4 : lexK (m.2.1 28) L i1 = 257
              · rw [if_pos k4]
              · rw [if_neg k4]
                by_cases k5 : lexK (m.2.1 28) L i1 = 62
                · rw [if_pos k5]
                · exact absurd hS (fun z => z.elim k1 (fun z => z.elim k2 (fun z => z.elim k3 (fun z => z.elim k4 k5))))
      rw [cl]
      unfold b_X5_readComparison_53
      rw [show (rus y (nI len1) (nI u1) st1).1 7 = nI u1 from rfl, nI_1, rus_u]
      by_cases h6 : u1 < 60
      · rw [if_pos ((l60 (by omega)).mpr h6), s_skip hx a1 hl, bd_some, if_neg (show ¬ (nI u1 = 60 ∧ (0 : Int32) = 0) from fun z => by have := (c60 (by omega)).mp z.1; omega)]
        rcases sum_all (y := y) (d := d) (o := o) (op := op) hr hF hx hA hE2.2 rfl (show u1 + 1 ≤ 60 by omega) a7 (show 3 * len1 ≤ 14 * (u1 + 1) + 36 by omega) with hq | hq
        · obtain ⟨φ, p2, e2, c2, t2, so2, nu2, ru2, b1, b2, b3, b4, b5, b6, b7⟩ := hq
          rw [b6, bd_some, if_pos rfl, b7, bd_some, g_entry (nI_ne0 b1 (by omega)), bd_some]
          exact Or.inl ⟨φ, p2, e2, c2, t2, so2, nu2, ru2, b1, b2, b3, a8.tr b4, a9.tr b5, rfl, rfl⟩
        · obtain ⟨i2, t2, u2, len2, st2, so2, nu2, b1, b2, b3, b4, b5, b6, b7, b8, b9, b10, b11, b12, b13⟩ := hq
          rw [b12, bd_some, b13, bd_some]
          try dsimp only
          rw [if_neg (show ¬ (1 : Int32) = 0 by decide), s_add (by omega), bd_some, s_entry hr (by omega), bd_some, hK]
          have hseg : Seg true st2 len len2 2 := (a11.cg (fun j _ hj => b10 j hj)).tr b11
          exact Or.inr ⟨i2, t2, u2, len2 + 1, upd st2 len2 (tr (kc (m.2.1 28) L i1) 0), upd so2 (300 * s + len2) (kc (m.2.1 28) L i1), upd nu2 (300 * s + len2) 0, b1, by omega, by omega, b4, by omega, by omega, b7.app hV rfl, (a8.tr b8).up (by omega), (a9.tr b9).up (by omega), fun j hj => by rw [pk_un (by omega), b10 j (by omega), a10 j hj], Seg.c hseg hB, rfl, rfl⟩
      · have hu6 : u1 = 60 := by omega
        have e1 : (1 : Int32) + 8 * nI i1 + 3 = nI (1 + 8 * i1 + 3) := flt (k := 3)
        rw [if_neg (fun z => h6 ((l60 (by omega)).mp z)), if_pos ⟨(c60 (by omega)).mpr hu6, rfl⟩, e1, show Option.bind (f_X7_fail F 3 (tpa x (nI t1) 0)) (fun q6 => if bo q6.1 then some (q6.1, q6.2, rus y (nI len1) (nI u1) st1) else none) = some (0, tpa x (nI t1) (nI (1 + 8 * i1 + 3)), rus y (nI len1) (nI u1) st1) from c_bad (k := 3) hx a1]
        have hφ : ¬ nI (1 + 8 * i1 + 3) = 0 := nI_ne0 (by omega) (by omega)
        obtain ⟨p3, c3, g1, g2⟩ := g_sum (d := d) (o := o) (op := op) (e := nI len1) (c := nI (u1 + 1)) (so := so1) (nu := nu1) hr hF hφ hE2.2
        rw [g2, bd_some, g_entry hφ, bd_some]
        exact Or.inl ⟨_, p3, _, c3, nI t1, so1, nu1, _, by omega, by omega, g1, a8, a9, rfl, rfl⟩
    · obtain ⟨k1, k2, k3, k4, k5⟩ := sg_no hs
      rw [if_neg k1, if_neg k2, if_neg k3, if_neg k4, if_neg k5, if_neg hs, if_pos rfl]
      have e1 : (1 : Int32) + 8 * nI i1 + 0 = nI (1 + 8 * i1 + 0) := flt (k := 0)
      rw [e1, show Option.bind (f_X7_fail F 0 (tpa x (nI t1) 0)) (fun q16 => if bo q16.1 then some (q16.1, q16.2, rus y (nI len1) (nI u1) st1) else none) = some (0, tpa x (nI t1) (nI (1 + 8 * i1 + 0)), rus y (nI len1) (nI u1) st1) from c_bad (k := 0) hx a1]
      exact Or.inl ⟨_, i1, _, _, nI t1, so1, nu1, _, by omega, by omega, hi1, a8, a9, rfl, rfl⟩
end CM
end
section
/-! a test, pure: the reference's stack -/
section ST
variable {F : Nat} {m : OB} {L s : Nat} {f e c : Int32} {so nu op : Nat → Int32}
theorem s_top {pp d : Int32} {ol : Nat} (h : ol ≤ 402) : f_X9_top F (ps m pp f e d c (nI ol) so nu op) = some (if ol = 0 then -1 else op (ol - 1)) := by
  unfold f_X9_top b_X9_top_22
  rw [show (ps m pp f e d c (nI ol) so nu op).1 26 = nI ol from rfl, show (ps m pp f e d c (nI ol) so nu op).2.1 35 = op from rfl]
  by_cases h0 : ol = 0
  · rw [h0, if_pos nI_0, if_pos rfl]
  · rw [if_neg (nI_ne0 (by omega) (by omega)), if_neg h0, s_pred (by omega), if_pos (ib_n (by omega) (by decide)), nI_clamp (by omega)]
theorem en26 {a b : Int32} {mo q : OB} (h : f_X9_entry F a b mo = some q) : q.1 26 = mo.1 26 := by
  unfold f_X9_entry b_X9_entry_55 at h
  by_cases h1 : mo.1 20 = 0
  · rw [if_pos h1] at h
    obtain ⟨_, h⟩ := fw_g h
    cases h
    rfl
  · rw [if_neg h1] at h
    cases h
    rfl
theorem ans_fu {k : Int32} (hk : ¬ k = -1) : ∀ (ol g g2 : Nat) (mo : OB), mo.1 26 = nI ol → ol ≤ 402 → ol < g → ol < g2 → lp (b_X9_answers_0 F) g (k, mo) = lp (b_X9_answers_0 F) g2 (k, mo)
  | ol, 0, _, _, _, _, h, _ => absurd h (by omega)
  | ol, _ + 1, 0, _, _, _, _, h => absurd h (by omega)
  | 0, g + 1, g2 + 1, mo, e26, _, _, _ => by
    rw [lp_S, lp_S, b_X9_answers_0, b_X9_answers_0]
    unfold f_X9_top b_X9_top_22
    try dsimp only
    have hk' : ¬ (-1 : Int32) = k := fun q => hk q.symm
    rw [e26, if_pos nI_0, bd_some, bd_some, if_neg hk', if_neg hk']
  | ol + 1, g + 1, g2 + 1, mo, e26, h4, h1, h2 => by
    rw [lp_S, lp_S, b_X9_answers_0, b_X9_answers_0]
    unfold b_X9_answers_47
    try dsimp only
    cases ht : f_X9_top F mo with
    | none => rfl
    | some v =>
      rw [bd_some, bd_some]
      by_cases q : v = k
      · rw [if_pos q, if_pos q]
        by_cases q2 : mo.1 20 = 0
        · rw [if_pos q2, if_pos q2]
          cases hq : f_X9_entry F k 0 mo with
          | none => rfl
          | some w =>
            rw [bd_some, bd_some]
            have e2 : w.1 26 = nI (ol + 1) := (en26 hq).trans e26
            by_cases q3 : k = 9
            · rw [if_pos q3, if_pos q3]
              exact ans_fu hk ol g g2 _ (show w.1 26 - 1 = nI ol by rw [e2, nI_pred]) (by omega) (by omega) (by omega)
            · rw [if_neg q3, if_neg q3]
              exact ans_fu hk ol g g2 _ (show w.1 26 - 1 = nI ol by rw [e2, nI_pred]) (by omega) (by omega) (by omega)
        · rw [if_neg q2, if_neg q2]
      · rw [if_neg q, if_neg q]
theorem ans_no {k pp d : Int32} {ol : Nat} (hk : ¬ k = -1) (hF : 0 < F) (h : ol ≤ 402) (ht : ol = 0 ∨ ¬ op (ol - 1) = k) : f_X9_answers F k (ps m pp f e d c (nI ol) so nu op) = some (ps m pp f e d c (nI ol) so nu op) := by
  obtain ⟨g, rfl⟩ : ∃ g, F = g + 1 := ⟨F - 1, by omega⟩
  unfold f_X9_answers
  rw [lp_S, b_X9_answers_0]
  unfold b_X9_answers_54
  try dsimp only
  rw [s_top h, bd_some]
  by_cases h0 : ol = 0
  · rw [if_pos h0, if_neg (fun q => hk q.symm)]
  · rw [if_neg h0, if_neg (ht.resolve_left h0)]
theorem ans_st {k pp : Int32} {ol len dp g : Nat} (hr : RB m L s) (hl : len < 300) (h : ol < 402) (hd : k = 9 → 0 < dp) (ht : op ol = k) : lp (b_X9_answers_0 F) (g + 1) (k, ps m pp 0 (nI len) (nI dp) c (nI (ol + 1)) so nu op) = lp (b_X9_answers_0 F) g (k, ps m pp 0 (nI (len + 1)) (nI (if k = 9 then dp - 1 else dp)) c (nI ol) (upd so (300 * s + len) k) (upd nu (300 * s + len) 0) op) := by
  rw [lp_S, b_X9_answers_0]
  unfold b_X9_answers_47
  try dsimp only
  rw [s_top (by omega), bd_some, if_neg (show ¬ ol + 1 = 0 by omega), show ol + 1 - 1 = ol from rfl, if_pos ht, show (ps m pp 0 (nI len) (nI dp) c (nI (ol + 1)) so nu op).1 20 = 0 from rfl, if_pos rfl, s_entry hr hl, bd_some]
  rw [show ∀ so nu, (ps m pp 0 (nI (len + 1)) (nI dp) c (nI (ol + 1)) so nu op).1 26 = nI (ol + 1) from fun _ _ => rfl, nI_pred, show ∀ so nu, (ps m pp 0 (nI (len + 1)) (nI dp) c (nI (ol + 1)) so nu op).1 24 = nI dp from fun _ _ => rfl]
  by_cases q : k = 9
  · rw [if_pos q, if_pos q, s_pred (hd q), ps_od]
  · rw [if_neg q, if_neg q, show nI dp - 0 = nI dp from by rw [show (0 : Int32) = nI 0 from nI_0.symm, pk_sub (Nat.zero_le _), Nat.sub_zero], ps_od]
theorem ans_not {pp : Int32} {ol len dp : Nat} (hr : RB m L s) (hF : 600 ≤ F) (hl : len < 300) (h : ol < 402) (hd : 0 < dp) (ht : op ol = 9) : f_X9_answers F 9 (ps m pp 0 (nI len) (nI dp) c (nI (ol + 1)) so nu op) = f_X9_answers F 9 (ps m pp 0 (nI (len + 1)) (nI (dp - 1)) c (nI ol) (upd so (300 * s + len) 9) (upd nu (300 * s + len) 0) op) := by
  obtain ⟨g, rfl⟩ : ∃ g, F = g + 1 := ⟨F - 1, by omega⟩
  unfold f_X9_answers
  rw [ans_st hr hl h (fun _ => hd) ht, if_pos rfl]
  exact ans_fu (by decide) ol g (g + 1) _ rfl (by omega) (by omega) (by omega)
/-- one on top, or none, of and / of or -/
theorem ans_one {k pp : Int32} {ol len dp : Nat} {b : Bool} (hr : RB m L s) (hF : 600 ≤ F) (hk : ¬ k = -1) (hk9 : ¬ k = 9) (hl : len < 300) (h : ol < 402) (ht : b = true → op ol = k) (hn : ol = 0 ∨ ¬ op (ol - 1) = k) : f_X9_answers F k (ps m pp 0 (nI len) (nI dp) c (nI (ol + b.toNat)) so nu op) = some (ps m pp 0 (nI (len + b.toNat)) (nI dp) c (nI ol) (if b = true then upd so (300 * s + len) k else so) (if b = true then upd nu (300 * s + len) 0 else nu) op) := by
  cases b with
  | false =>
    show f_X9_answers F k (ps m pp 0 (nI len) (nI dp) c (nI ol) so nu op) = some (ps m pp 0 (nI len) (nI dp) c (nI ol) so nu op)
    exact ans_no hk (by omega) (by omega) hn
  | true =>
    have e := ans_no (F := F) (m := m) (f := 0) (e := nI (len + 1)) (c := c) (pp := pp) (d := nI dp) (so := upd so (300 * s + len) k) (nu := upd nu (300 * s + len) 0) (op := op) (ol := ol) hk (by omega) (by omega) hn
    rw [if_pos rfl, if_pos rfl]
    show f_X9_answers F k (ps m pp 0 (nI len) (nI dp) c (nI (ol + 1)) so nu op) = some (ps m pp 0 (nI (len + 1)) (nI dp) c (nI ol) (upd so (300 * s + len) k) (upd nu (300 * s + len) 0) op)
    rw [← e]
    obtain ⟨g, rfl⟩ : ∃ g, F = g + 1 := ⟨F - 1, by omega⟩
    unfold f_X9_answers
    rw [ans_st hr hl h (fun q => absurd q hk9) (ht rfl), if_neg hk9]
    exact ans_fu hk ol g (g + 1) _ rfl (by omega) (by omega) (by omega)
theorem s_op2 {k pp d : Int32} {ol : Nat} (h1 : ¬ k = 9) (h2 : ¬ k = 12) (h : ol < 402) : f_X9_opens F k (ps m pp f e d c (nI ol) so nu op) = some (ps m pp f e d c (nI (ol + 1)) so nu (upd op ol k)) := by
  unfold f_X9_opens b_X9_opens_40
  rw [if_neg h1, if_neg h2, show (ps m pp f e d c (nI ol) so nu op).1 26 = nI ol from rfl, if_pos (ib_n h (by decide)), nI_clamp (by omega), nI_1, show (ps m pp f e d c (nI ol) so nu op).2.1 35 = op from rfl, ps_op]
theorem s_op1 {k pp : Int32} {ol dp : Nat} (h1 : k = 9 ∨ k = 12) (h : ol < 402) (hd : dp ≤ 10) : f_X9_opens F k (ps m pp 0 e (nI dp) c (nI ol) so nu op) = some (ps m pp (if dp = 10 then 1 + 8 * pp + 2 else 0) e (nI (dp + 1)) c (nI (ol + 1)) so nu (upd op ol k)) := by
  have go : f_X9_opens F k (ps m pp 0 e (nI dp) c (nI ol) so nu op) = b_X9_opens_12 F k (ps m pp 0 e (nI dp) c (nI ol) so nu op) := by
    unfold f_X9_opens
    rcases h1 with h1 | h1
    · rw [if_pos h1]
    · rw [if_neg (by rw [h1]; decide), if_pos h1]
  have tail : ∀ f : Int32, b_X9_opens_30 F k (ps m pp f e (nI dp) c (nI ol) so nu op) = some (ps m pp f e (nI (dp + 1)) c (nI (ol + 1)) so nu (upd op ol k)) := fun f => by
    unfold b_X9_opens_30 b_X9_opens_40
    rw [show (ps m pp f e (nI dp) c (nI ol) so nu op).1 24 = nI dp from rfl, nI_1, ps_d, show (ps m pp f e (nI (dp + 1)) c (nI ol) so nu op).1 26 = nI ol from rfl, if_pos (ib_n h (by decide)), nI_clamp (by omega), nI_1, show (ps m pp f e (nI (dp + 1)) c (nI ol) so nu op).2.1 35 = op from rfl, ps_op]
  rw [go]
  unfold b_X9_opens_12
  rw [show (ps m pp 0 e (nI dp) c (nI ol) so nu op).1 24 = nI dp from rfl, show (ps m pp 0 e (nI dp) c (nI ol) so nu op).1 19 = pp from rfl]
  by_cases q : dp = 10
  · rw [if_pos (by rw [q]; rfl), if_pos q, s_fails, bd_some, if_pos rfl, tail]
  · rw [if_neg (fun z => q (by
      rw [show (10 : Int32) = nI 10 from rfl, nI_eq (by omega) (by decide)] at z
      exact z)), if_neg q, tail]
theorem lt_f {g : Nat} {w pp d o : Int32} (hf : ¬ f = 0) : lp (b_X9_test_9 F) (g + 1) (w, 1, ps m pp f e d c o so nu op) = some (ps m pp f e d c o so nu op) := by
  rw [lp_S, b_X9_test_9]
  unfold b_X9_test_201
  try dsimp only
  rw [if_neg (show ¬ (1 : Int32) = 0 by decide), show (ps m pp f e d c o so nu op).1 20 = f from rfl, if_neg hf]
theorem lt_w {g : Nat} {pp d o : Int32} : lp (b_X9_test_9 F) (g + 1) (1, 1, ps m pp 0 e d c o so nu op) = (f_X9_fact F (ps m pp 0 e d c o so nu op)).bind fun q => if q.1 = 0 then lp (b_X9_test_9 F) g (1, 1, q.2) else lp (b_X9_test_9 F) g (0, 1, q.2) := by
  rw [lp_S, b_X9_test_9]
  unfold b_X9_test_36
  try dsimp only
  rw [if_neg (show ¬ (1 : Int32) = 0 by decide), show (ps m pp 0 e d c o so nu op).1 20 = 0 from rfl, if_pos rfl, if_neg (show ¬ (1 : Int32) = 0 by decide)]
/-- behind a fact: what the reference does -/
noncomputable def NW (F g : Nat) (mo : OB) : Option OB := Option.bind (f_X9_blanks F mo) (fun q10 => (Option.bind (f_X9_stood F 16 q10) (fun q11 => (Option.bind (f_X9_stood F 15 q10) (fun q12 => (Option.bind (f_X9_answers F 10 q10) (fun q13 => (if q11 = 0 then (if q12 = 0 then (Option.bind (f_X9_answers F 11 q13) (fun q16 => (Option.bind (f_X9_top F q16) (fun q17 => (if q17 = 12 then (Option.bind (f_X9_sign F q16) (fun q19 => (if q19 = 93 then (b_X9_test_163 F (lp (b_X9_test_9 F) g) 0 1 q16) else (Option.bind (f_X9_fails F 0 (q16.1 19) q16) (fun q21 => (b_X9_test_163 F (lp (b_X9_test_9 F) g) 0 1 q21)))))) else (b_X9_test_198 F (lp (b_X9_test_9 F) g) 0 0 q16)))))) else (b_X9_test_81 F (lp (b_X9_test_9 F) g) 1 q11 q12 q13)) else (b_X9_test_81 F (lp (b_X9_test_9 F) g) 1 q11 q12 q13)))))))))
theorem lt_n {g : Nat} {pp d o : Int32} : lp (b_X9_test_9 F) (g + 1) (0, 1, ps m pp 0 e d c o so nu op) = (f_X9_answers F 9 (ps m pp 0 e d c o so nu op)).bind (NW F g) := by
  rw [lp_S, b_X9_test_9]
  unfold NW
  try dsimp only
  rw [if_neg (show ¬ (1 : Int32) = 0 by decide), show (ps m pp 0 e d c o so nu op).1 20 = 0 from rfl, if_pos rfl, if_pos rfl]
end ST
section TS
variable {F : Nat} {m x y : OB} {L s n : Nat}
theorem sk_sk {B : Nat → Int32} {L p : Nat} : sk B L (sk B L p) = sk B L p := re_f (re_out sB_out _ p rfl)
theorem s_st {p w : Nat} {f e d c o : Int32} {so nu op : Nat → Int32} {k : Int32} (hr : RB m L s) (hF : 600 ≤ F) (hp : p ≤ L) (hw : w < 18) (hk : nI (260 + w) = k) : f_X9_stood F w (ps m (nI p) f e d c o so nu op) = some (if lexK (m.2.1 28) L p = k then 1 else 0) := by
  rw [s_stood hr hF hp hw (xl_pos hw), ← hk]
  by_cases q : isW (m.2.1 28) L p (re (lB (m.2.1 28) L) L p) w = true
  · rw [if_pos q, if_pos ((lexK_w hw).mpr q)]
  · rw [if_neg q, if_neg (fun z => q ((lexK_w hw).mp z))]
theorem s_fact {p : Nat} {e d c o : Int32} {so nu op : Nat → Int32} (hr : RB m L s) (hF : 600 ≤ F) (hp : p ≤ L) : f_X9_fact F (ps m (nI p) 0 e d c o so nu op) = if lexK (m.2.1 28) L (sk (m.2.1 28) L p) = 277 then (f_X9_opens F 9 (ps m (nI (sk (m.2.1 28) L p)) 0 e d c o so nu op)).bind (fun q8 => some (0, ((uF q8.1 19 ((q8.1 19) + 3)), q8.2.1, q8.2.2))) else if lexK (m.2.1 28) L (sk (m.2.1 28) L p) = 91 then (f_X9_opens F 12 (ps m (nI (sk (m.2.1 28) L p)) 0 e d c o so nu op)).bind (fun q7 => some (0, ((uF q7.1 19 ((q7.1 19) + 1)), q7.2.1, q7.2.2))) else (f_X9_compared F (ps m (nI (sk (m.2.1 28) L p)) 0 e d c o so nu op)).bind (fun q6 => some (1, q6)) := by
  have h4 := hr.2.1
  have hi := sk_le (B := m.2.1 28) hp
  unfold f_X9_fact
  rw [s_blanks hr hF hp, bd_some, s_st (k := 277) hr hF hi (by decide) rfl, bd_some, s_sign hr (by omega), bd_some]
  by_cases h1 : lexK (m.2.1 28) L (sk (m.2.1 28) L p) = 277
  · rw [if_pos h1, if_neg (show ¬ (1 : Int32) = 0 by decide), if_pos h1]
  · rw [if_neg h1, if_pos rfl, if_neg h1]
    by_cases h2 : cb (m.2.1 28) L (sk (m.2.1 28) L p) = 91
    · rw [if_pos h2, if_pos ((lexK_s (by decide)).mpr h2)]
    · rw [if_neg h2, if_neg (fun z => h2 ((lexK_s (by decide)).mp z))]
/-- what the reference's stack has on top of the test's own bottom -/
noncomputable def Stk (op : Nat → Int32) (ol : Nat) (e b : Bool) : Prop := (ol = 0 ∨ op (ol - 1) = 12) ∧ (e = true → op ol = 11) ∧ (b = true → op (ol + e.toNat) = 10)
theorem Stk.a {op : Nat → Int32} {ol : Nat} {e b : Bool} (h : Stk op ol e b) : ol + e.toNat = 0 ∨ ¬ op (ol + e.toNat - 1) = 10 := by
  cases e with
  | true =>
    refine Or.inr ?_
    show ¬ op (ol + 1 - 1) = 10
    rw [show ol + 1 - 1 = ol from rfl, h.2.1 rfl]
    decide
  | false =>
    rcases h.1 with q | q
    · exact Or.inl q
    · refine Or.inr ?_
      show ¬ op (ol + 0 - 1) = 10
      rw [Nat.add_zero, q]
      decide
theorem Stk.o {op : Nat → Int32} {ol : Nat} {e b : Bool} (h : Stk op ol e b) : ol = 0 ∨ ¬ op (ol - 1) = 11 := h.1.imp id (fun q => by rw [q]; decide)
theorem Stk.no {op : Nat → Int32} {ol : Nat} {e b : Bool} (h : Stk op ol e b) : ol + e.toNat + b.toNat = 0 ∨ ¬ op (ol + e.toNat + b.toNat - 1) = 9 := by
  cases b with
  | true =>
    refine Or.inr ?_
    show ¬ op (ol + e.toNat + 1 - 1) = 9
    rw [show ol + e.toNat + 1 - 1 = ol + e.toNat from rfl, h.2.2 rfl]
    decide
  | false =>
    cases e with
    | true =>
      refine Or.inr ?_
      show ¬ op (ol + 1 + 0 - 1) = 9
      rw [show ol + 1 + 0 - 1 = ol from rfl, h.2.1 rfl]
      decide
    | false =>
      rcases h.1 with q | q
      · exact Or.inl q
      · refine Or.inr ?_
        show ¬ op (ol + 0 + 0 - 1) = 9
        rw [show ol + 0 + 0 - 1 = ol - 1 from rfl, q]
        decide
noncomputable abbrev uB (b : Bool) (f : Nat → Int32) (i : Nat) (v : Int32) : Nat → Int32 := if b = true then upd f i v else f
theorem nw_st {g p len dp ol : Nat} {c : Int32} {e b : Bool} {so nu op : Nat → Int32} (hr : RB m L s) (hF : 600 ≤ F) (hp : p ≤ L) (hl : len + 2 ≤ 300) (ho : ol + 2 ≤ 402) (hS : Stk op ol e b) : NW F g (ps m (nI p) 0 (nI len) (nI dp) c (nI (ol + e.toNat + b.toNat)) so nu op) =
    if lexK (m.2.1 28) L (sk (m.2.1 28) L p) = 276 then lp (b_X9_test_9 F) g (1, 1, ps m (nI (sk (m.2.1 28) L p + 3)) 0 (nI (len + b.toNat)) (nI dp) c (nI (ol + e.toNat + 1)) (uB b so (300 * s + len) 10) (uB b nu (300 * s + len) 0) (upd op (ol + e.toNat) 10))
    else if lexK (m.2.1 28) L (sk (m.2.1 28) L p) = 275 then lp (b_X9_test_9 F) g (1, 1, ps m (nI (sk (m.2.1 28) L p + 2)) 0 (nI (len + b.toNat + e.toNat)) (nI dp) c (nI (ol + 1)) (uB e (uB b so (300 * s + len) 10) (300 * s + (len + b.toNat)) 11) (uB e (uB b nu (300 * s + len) 0) (300 * s + (len + b.toNat)) 0) (upd op ol 11))
    else if ol = 0 then lp (b_X9_test_9 F) g (0, 0, ps m (nI (sk (m.2.1 28) L p)) 0 (nI (len + b.toNat + e.toNat)) (nI dp) c (nI ol) (uB e (uB b so (300 * s + len) 10) (300 * s + (len + b.toNat)) 11) (uB e (uB b nu (300 * s + len) 0) (300 * s + (len + b.toNat)) 0) op)
    else lp (b_X9_test_9 F) g (0, 1, ps m (nI (sk (m.2.1 28) L p + 1)) (if cb (m.2.1 28) L (sk (m.2.1 28) L p) = 93 then 0 else 1 + 8 * nI (sk (m.2.1 28) L p) + 0) (nI (len + b.toNat + e.toNat)) (nI dp - 1) c (nI ol - 1) (uB e (uB b so (300 * s + len) 10) (300 * s + (len + b.toNat)) 11) (uB e (uB b nu (300 * s + len) 0) (300 * s + (len + b.toNat)) 0) op) := by
  have h4 := hr.2.1
  have hi := sk_le (B := m.2.1 28) hp
  have be : b.toNat ≤ 1 := Bool.toNat_le b
  have ee : e.toNat ≤ 1 := Bool.toNat_le e
  unfold NW
  rw [s_blanks hr hF hp, bd_some, s_st (k := 276) hr hF hi (by decide) rfl, bd_some, s_st (k := 275) hr hF hi (by decide) rfl, bd_some, ans_one (b := b) hr hF (by decide) (by decide) (by omega) (by omega) hS.2.2 hS.a, bd_some]
  by_cases h1 : lexK (m.2.1 28) L (sk (m.2.1 28) L p) = 276
  · have h2 : ¬ lexK (m.2.1 28) L (sk (m.2.1 28) L p) = 275 := by
      rw [h1]
      decide
    rw [if_pos h1, if_neg (show ¬ (1 : Int32) = 0 by decide), if_neg h2, if_pos h1]
    unfold b_X9_test_81 b_X9_test_92 b_X9_test_104 b_X9_test_121 b_X9_test_198
    rw [if_pos rfl, if_neg (show ¬ (1 : Int32) = 0 by decide), s_op2 (by decide) (by decide) (by omega), bd_some, if_neg (show ¬ (1 : Int32) = 0 by decide)]
    rw [show ∀ (e c o : Int32) (so nu op : Nat → Int32), (ps m (nI (sk (m.2.1 28) L p)) 0 e (nI dp) c o so nu op).1 19 = nI (sk (m.2.1 28) L p) from fun _ _ _ _ _ _ => rfl, show (3 : Int32) = nI 3 from rfl, nI_add, ps_p]
  · rw [if_neg h1, if_pos rfl, if_neg h1]
    by_cases h2 : lexK (m.2.1 28) L (sk (m.2.1 28) L p) = 275
    · rw [if_pos h2, if_neg (show ¬ (1 : Int32) = 0 by decide), if_pos h2]
      unfold b_X9_test_81 b_X9_test_92 b_X9_test_104 b_X9_test_121 b_X9_test_198
      rw [if_neg (show ¬ (1 : Int32) = 0 by decide), ans_one (b := e) hr hF (by decide) (by decide) (by omega) (by omega) hS.2.1 hS.o, bd_some, if_pos rfl, s_op2 (by decide) (by decide) (by omega), bd_some, if_pos rfl]
      rw [show ∀ (e c o : Int32) (so nu op : Nat → Int32), (ps m (nI (sk (m.2.1 28) L p)) 0 e (nI dp) c o so nu op).1 19 = nI (sk (m.2.1 28) L p) from fun _ _ _ _ _ _ => rfl, show (2 : Int32) = nI 2 from rfl, nI_add, ps_p]
    · rw [if_neg h2, if_pos rfl, if_neg h2, ans_one (b := e) hr hF (by decide) (by decide) (by omega) (by omega) hS.2.1 hS.o, bd_some, s_top (by omega), bd_some]
      by_cases h0 : ol = 0
      · rw [if_pos h0, if_neg (show ¬ (-1 : Int32) = 12 by decide), if_pos h0]
        rfl
      · rw [if_neg h0, if_neg h0, if_pos (hS.1.resolve_left h0), s_sign hr (by omega), bd_some]
        unfold b_X9_test_163 b_X9_test_198
        by_cases h3 : cb (m.2.1 28) L (sk (m.2.1 28) L p) = 93
        · rw [if_pos h3, if_pos h3, ps_pdo]
          rw [show ∀ (e c o : Int32) (so nu op : Nat → Int32), (ps m (nI (sk (m.2.1 28) L p)) 0 e (nI dp) c o so nu op).1 19 = nI (sk (m.2.1 28) L p) from fun _ _ _ _ _ _ => rfl, nI_1]
          rfl
        · rw [if_neg h3, if_neg h3, s_fails, bd_some, if_pos rfl, ps_pdo]
          rw [show ∀ (f e c o : Int32) (so nu op : Nat → Int32), (ps m (nI (sk (m.2.1 28) L p)) f e (nI dp) c o so nu op).1 19 = nI (sk (m.2.1 28) L p) from fun _ _ _ _ _ _ _ => rfl, nI_1]
          rfl
/-- a fact, or a test, is read by both -/
noncomputable def GoodF (F : Nat) (m x y : OB) (L s n i u len q l0 dp ol : Nat) (op st so nu : Nat → Int32) (E : Nat → Prop) (rc : Option (Int32 × OB × OB)) (rr : Nat → Option OB) : Prop := ∃ (i2 t2 p2 u2 len2 k : Nat) (st2 so2 nu2 op2 : Nat → Int32), At L x n t2 i2 ∧ i < i2 ∧ p2 ≤ L ∧ sk (m.2.1 28) L p2 = i2 ∧ u < u2 ∧ u2 ≤ 60 ∧ 3 * (len2 + q) ≤ 14 * u2 ∧ len < len2 ∧ CE s len2 st2 so2 nu2 ∧ FrS s so so2 ∧ FrS s nu nu2 ∧ (∀ j, j < len → st2 j = st j) ∧ Seg false st2 l0 len2 1 ∧ (∀ j, j < ol → op2 j = op j) ∧ k ≤ 2 * (i2 - i) ∧ E i2 ∧ rc = some (1, tpa x (nI t2) 0, rus y (nI len2) (nI u2) st2) ∧ ∀ g, rr (g + 1 + k) = lp (b_X9_test_9 F) (g + 1) (0, 1, ps m (nI p2) 0 (nI len2) (nI dp) (nI u2) (nI ol) so2 nu2 op2)
noncomputable def BadF (m x : OB) (L s i : Nat) (so nu : Nat → Int32) (rc : Option (Int32 × OB × OB)) (rr : Nat → Option OB) : Prop := ∃ (φ p2 k : Nat) (e2 d2 c2 o2 t2 : Int32) (so2 nu2 op2 : Nat → Int32) (ru2 : OB), 0 < φ ∧ φ < 4000 ∧ p2 ≤ L + 1 ∧ FrS s so so2 ∧ FrS s nu nu2 ∧ k ≤ 2 * (L - i) + 4 ∧ rc = some (0, tpa x t2 (nI φ), ru2) ∧ ∀ g, rr (g + k) = some (ps m (nI p2) (nI φ) e2 d2 c2 o2 so2 nu2 op2)
noncomputable def FactP (F : Nat) (m x y : OB) (L s n N dp : Nat) : Prop := ∀ (i t p u len q ol : Nat) (st so nu op : Nat → Int32), At L x n t i → p ≤ L → sk (m.2.1 28) L p = i → u ≤ 60 → CE s len st so nu → 3 * (len + q) ≤ 14 * u + 3 * dp + 3 → ol ≤ q + dp → BadF m x L s i so nu (f_RF N F (nI dp) (tpa x (nI t) 0) (rus y (nI len) (nI u) st)) (fun g => lp (b_X9_test_9 F) g (1, 1, ps m (nI p) 0 (nI len) (nI dp) (nI u) (nI ol) so nu op)) ∨ GoodF F m x y L s n i u len q len dp ol op st so nu (fun _ => True) (f_RF N F (nI dp) (tpa x (nI t) 0) (rus y (nI len) (nI u) st)) (fun g => lp (b_X9_test_9 F) g (1, 1, ps m (nI p) 0 (nI len) (nI dp) (nI u) (nI ol) so nu op))
noncomputable abbrev bi (b : Bool) : Int32 := if b = true then 1 else 0
noncomputable def TestP (F : Nat) (m x y : OB) (L s n N dp : Nat) : Prop := ∀ (l0 : Nat) (M i t p u len q ol cnt fc : Nat) (e b : Bool) (st so nu op : Nat → Int32), L - i < M → At L x n t i → p ≤ L → sk (m.2.1 28) L p = i → u ≤ 60 → CE s len st so nu → 3 * (len + q + e.toNat + b.toNat) ≤ 14 * u + 3 * dp + 3 → ol ≤ q + dp → Stk op ol e b → 2 * cnt ≤ i → L - i < fc → Seg false st l0 len (e.toNat + b.toNat) → BadF m x L s i so nu (lp (b_X5_readTest_o_8 F (f_RF N)) fc (nI dp, bi e, bi b, nI cnt, tpa x (nI t) 0, rus y (nI len) (nI u) st)) (fun g => lp (b_X9_test_9 F) g (1, 1, ps m (nI p) 0 (nI len) (nI dp) (nI u) (nI (ol + e.toNat + b.toNat)) so nu op)) ∨ GoodF F m x y L s n i u len q l0 dp ol op st so nu (fun i2 => ¬ lexK (m.2.1 28) L i2 = 276 ∧ ¬ lexK (m.2.1 28) L i2 = 275) (lp (b_X5_readTest_o_8 F (f_RF N)) fc (nI dp, bi e, bi b, nI cnt, tpa x (nI t) 0, rus y (nI len) (nI u) st)) (fun g => lp (b_X9_test_9 F) g (1, 1, ps m (nI p) 0 (nI len) (nI dp) (nI u) (nI (ol + e.toNat + b.toNat)) so nu op))
theorem ceB {len : Nat} {st so nu : Nat → Int32} {b : Bool} {a k : Int32} (h : CE s len st so nu) (hv : VE a 0) (hk : k = tr a 0) : CE s (len + b.toNat) (uB b st len k) (uB b so (300 * s + len) a) (uB b nu (300 * s + len) 0) := by
  cases b with
  | false => exact h
  | true => exact h.app hv hk
theorem frB {so so1 : Nat → Int32} {len : Nat} {b : Bool} {v : Int32} (h : FrS s so so1) (hl : len < 300) : FrS s so (uB b so1 (300 * s + len) v) := by
  cases b with
  | false => exact h
  | true => exact h.up hl
theorem uB_lt {f : Nat → Int32} {i j : Nat} {b : Bool} {v : Int32} (h : j < i) : uB b f i v j = f j := by
  cases b with
  | false => rfl
  | true => exact pk_un (by omega)
theorem sgB {st : Nat → Int32} {a len j : Nat} {b : Bool} {k : Int32} (h : Seg false st a len (j + b.toNat + 1)) (hk : loK k) : Seg false (uB b st len k) a (len + b.toNat) (j + 1) := by
  cases b with
  | false => exact h
  | true => exact Seg.b h hk
theorem c_addB {len : Nat} {u k : Int32} {st : Nat → Int32} {b : Bool} (h : len < 400) {α : Type} {G : OB → Option α} : (if bi b = 0 then G (rus y (nI len) u st) else Option.bind (f_X4_add F k (rus y (nI len) u st)) G) = G (rus y (nI (len + b.toNat)) u (uB b st len k)) := by
  cases b with
  | false => exact if_pos rfl
  | true =>
    rw [if_neg (by decide), s_add h, bd_some]
    rfl
theorem at_sk {B : Nat → Int32} {t i : Nat} (h : TX B L x n) (a : At L x n t i) : sk B L i = i := by
  obtain ⟨h1, h2, h4, hn, h5, h6, h3⟩ := h
  obtain ⟨a1, a2, a3⟩ := a
  cases t with
  | zero =>
    rw [h6] at a3
    have e := (nI_eq (show sk B L 0 < 2 ^ 31 by have := sk_le (B := B) (L := L) (p := 0) (Nat.zero_le _); omega) (by omega)).mp a3
    rw [← e]
    exact sk_sk
  | succ t =>
    obtain ⟨q, q1, q2, q3, q4, q5, q6⟩ := h3 t (Nat.zero_le _) (by omega)
    have hq : q < L := by
      by_cases z : q = L
      · exact absurd (q5 z) (by omega)
      · omega
    rw [(q6 hq).2] at a3
    have hE := (lexE_gt (B := B) hq).2
    have e := (nI_eq (show sk B L (lexE B L q) < 2 ^ 31 by have := sk_le (B := B) hE; omega) (by omega)).mp a3
    rw [← e]
    exact sk_sk
theorem stk_of {op op2 : Nat → Int32} {ol : Nat} {e b : Bool} (h : Stk op ol e b) (q : ∀ j, j < ol + e.toNat + b.toNat → op2 j = op j) : Stk op2 ol e b := by
  refine ⟨?_, fun he => ?_, fun hb => ?_⟩
  · rcases h.1 with z | z
    · exact Or.inl z
    · by_cases h0 : ol = 0
      · exact Or.inl h0
      · exact Or.inr (by rw [q _ (by omega)]; exact z)
  · rw [q ol (by rw [he]; show ol < ol + 1 + _; omega)]
    exact h.2.1 he
  · rw [q _ (by rw [hb]; show ol + e.toNat < ol + e.toNat + 1; omega)]
    exact h.2.2 hb
theorem test_sim {N dp : Nat} (hr : RB m L s) (hF : 1000 ≤ F) (hx : TX (m.2.1 28) L x n) (hfact : FactP F m x y L s n N dp) (hdp : dp ≤ 10) : TestP F m x y L s n N dp := by
  intro l0 M
  induction M with
  | zero => intro i t p u len q ol cnt fc e b st so nu op h; exact absurd h (by omega)
  | succ M ih =>
    intro i t p u len q ol cnt fc e b st so nu op hM ha hp hk hu hc hb ho hS hcnt hfc hseg
    have h4 := hr.2.1
    have hi := ha.2.1
    have be : b.toNat ≤ 1 := Bool.toNat_le b
    have ee : e.toNat ≤ 1 := Bool.toNat_le e
    obtain ⟨g, rfl⟩ : ∃ g, fc = g + 1 := ⟨fc - 1, by omega⟩
    rw [lp_S, b_X5_readTest_o_8]
    try dsimp only
    rw [if_neg (show ¬ (400 : Int32) ≤ nI cnt from by
      rw [sp_le, nI_toInt (by omega), show (400 : Int32).toInt = 400 from by decide]
      omega)]
    rcases hfact i t p u len (q + e.toNat + b.toNat) (ol + e.toNat + b.toNat) st so nu op ha hp hk hu hc (by omega) (by omega) with hq | hq
    · obtain ⟨φ, p2, k, e2, d2, c2, o2, t2, so2, nu2, op2, ru2, a1, a2, a3, a4, a5, a6, a7, a8⟩ := hq
      rw [a7, bd_some, if_pos rfl]
      exact Or.inl ⟨φ, p2, k, e2, d2, c2, o2, t2, so2, nu2, op2, ru2, a1, a2, a3, a4, a5, a6, rfl, a8⟩
    · obtain ⟨i2, t2, p2, u2, len2, k, st2, so2, nu2, op2, a1, a2, a3, a4, a5, a6, a7, a8, a9, a10, a11, a12, a13, a14, a15, _, a16, a17⟩ := hq
      have hi2 := a1.2.1
      have hS2 : Stk op2 ol e b := stk_of hS a14
      rw [a16, bd_some]
      try dsimp only
      rw [if_neg (show ¬ (1 : Int32) = 0 by decide)]
      have e9 := c_addB (F := F) (y := y) (len := len2) (u := nI u2) (k := 276) (st := st2) (b := b) (by omega) (G := fun ru => b_X5_readTest_o_39 F (f_RF N) (lp (b_X5_readTest_o_8 F (f_RF N)) g) (nI dp) (bi e) (nI cnt) (tpa x (nI t2) 0) ru)
      try dsimp only at e9
      rw [e9]
      have c3 : CE s (len2 + b.toNat) (uB b st2 len2 276) (uB b so2 (300 * s + len2) 10) (uB b nu2 (300 * s + len2) 0) := ceB a9 (VE_lit (q := 10) (by decide) rfl) (by decide)
      have s2 : Seg false st2 l0 len2 (e.toNat + b.toNat + 1) := (hseg.cg (fun j _ hj => a12 j hj)).tr a13
      have s3 : Seg false (uB b st2 len2 276) l0 (len2 + b.toNat) (e.toNat + 1) := sgB s2 (show loK 276 by decide)
      have f3 : FrS s so (uB b so2 (300 * s + len2) 10) := frB a10 (by omega)
      have g3 : FrS s nu (uB b nu2 (300 * s + len2) 0) := frB a11 (by omega)
      have c4 : CE s (len2 + b.toNat + e.toNat) (uB e (uB b st2 len2 276) (len2 + b.toNat) 275) (uB e (uB b so2 (300 * s + len2) 10) (300 * s + (len2 + b.toNat)) 11) (uB e (uB b nu2 (300 * s + len2) 0) (300 * s + (len2 + b.toNat)) 0) := ceB c3 (VE_lit (q := 11) (by decide) rfl) (by decide)
      have s4 : Seg false (uB e (uB b st2 len2 276) (len2 + b.toNat) 275) l0 (len2 + b.toNat + e.toNat) 1 := sgB (j := 0) (by rw [Nat.zero_add]; exact s3) (show loK 275 by decide)
      have f4 : FrS s so (uB e (uB b so2 (300 * s + len2) 10) (300 * s + (len2 + b.toNat)) 11) := frB f3 (by omega)
      have g4 : FrS s nu (uB e (uB b nu2 (300 * s + len2) 0) (300 * s + (len2 + b.toNat)) 0) := frB g3 (by omega)
      have t3 : ∀ j, j < len → (uB b st2 len2 276) j = st j := fun j hj => (uB_lt (by omega)).trans (a12 j hj)
      have t4 : ∀ j, j < len → (uB e (uB b st2 len2 276) (len2 + b.toNat) 275) j = st j := fun j hj => (uB_lt (by omega)).trans (t3 j hj)
      have nw : ∀ g', lp (b_X9_test_9 F) (g' + 1 + k) (1, 1, ps m (nI p) 0 (nI len) (nI dp) (nI u) (nI (ol + e.toNat + b.toNat)) so nu op) = _ := fun g' => by
        refine (a17 g').trans ?_
        rw [lt_n, ans_no (by decide) (by omega) (by omega) hS2.no, bd_some, nw_st hr (by omega) a3 (by omega) (by omega) hS2, a4]
      unfold b_X5_readTest_o_39 b_X5_readTest_o_64 b_X5_readTest_o_78
      rw [s_take hx a1 (by decide), nI_1]
      by_cases hA : lexK (m.2.1 28) L i2 = 276
      · have hW := (lexK_w (B := m.2.1 28) (L := L) (i := i2) (w := 16) (by decide)).mp hA
        obtain ⟨hE, hlet⟩ := isW_end (by decide) hW
        have hE : lexE (m.2.1 28) L i2 = i2 + 3 := hE
        have hl2 : i2 < L := by
          by_cases z : i2 < L
          · exact z
          · rw [lB_out i2 (by omega)] at hlet
            cases hlet
        have hE2 := lexE_gt (B := m.2.1 28) hl2
        have hAt := (a1.at hx).2.2.2 hl2
        rw [hE] at hAt hE2
        have hsk := sk_ge (B := m.2.1 28) (L := L) (p := i2 + 3) (by omega)
        rw [if_pos hA, bd_some]
        try dsimp only
        rw [if_neg (show ¬ (1 : Int32) = 0 by decide)]
        have hS3 : Stk (upd op2 (ol + e.toNat) 10) ol e true := by
          refine ⟨?_, fun he => ?_, fun _ => pk_us⟩
          · rcases hS2.1 with z | z
            · exact Or.inl z
            · by_cases h0 : ol = 0
              · exact Or.inl h0
              · exact Or.inr (by rw [pk_un (by omega)]; exact z)
          · rw [pk_un (by rw [he]; show ol ≠ ol + 1; omega)]
            exact hS2.2.1 he
        have hq := ih (sk (m.2.1 28) L (i2 + 3)) (t2 + 1) (i2 + 3) u2 (len2 + b.toNat) q ol (cnt + 1) g e true (uB b st2 len2 276) (uB b so2 (300 * s + len2) 10) (uB b nu2 (300 * s + len2) 0) (upd op2 (ol + e.toNat) 10) (by omega) hAt (by omega) rfl a6 c3 (by show 3 * (_ + _ + _ + 1) ≤ _; omega) ho hS3 (by omega) (by omega) s3
        have nw2 : ∀ g', lp (b_X9_test_9 F) (g' + 1 + k) (1, 1, ps m (nI p) 0 (nI len) (nI dp) (nI u) (nI (ol + e.toNat + b.toNat)) so nu op) = lp (b_X9_test_9 F) g' (1, 1, ps m (nI (i2 + 3)) 0 (nI (len2 + b.toNat)) (nI dp) (nI u2) (nI (ol + e.toNat + 1)) (uB b so2 (300 * s + len2) 10) (uB b nu2 (300 * s + len2) 0) (upd op2 (ol + e.toNat) 10)) := fun g' => by
          rw [nw g', if_pos hA]
        rcases hq with hq | hq
        · obtain ⟨φ, p5, k5, e5, d5, c5, o5, t5, so5, nu5, op5, ru5, b1, b2, b3, b4, b5, b6, b7, b8⟩ := hq
          refine Or.inl ⟨φ, p5, k5 + 1 + k, e5, d5, c5, o5, t5, so5, nu5, op5, ru5, b1, b2, b3, f3.tr b4, g3.tr b5, by omega, b7, fun g' => ?_⟩
          rw [show g' + (k5 + 1 + k) = (g' + k5) + 1 + k from by omega]
          exact (nw2 (g' + k5)).trans (b8 g')
        · obtain ⟨i5, t5, p5, u5, len5, k5, st5, so5, nu5, op5, b1, b2, b3, b4, b5, b6, b7, b8, b9, b10, b11, b12, b13, b14, b15, b16, b17, b18⟩ := hq
          refine Or.inr ⟨i5, t5, p5, u5, len5, k5 + 1 + k, st5, so5, nu5, op5, b1, by omega, b3, b4, by omega, b6, b7, by omega, b9, f3.tr b10, g3.tr b11, fun j hj => (b12 j (by omega)).trans (t3 j hj), b13, fun j hj => ?_, by omega, b16, b17, fun g' => ?_⟩
          · rw [b14 j hj, pk_un (by omega), a14 j (by omega)]
          · rw [show g' + 1 + (k5 + 1 + k) = (g' + 1 + k5) + 1 + k from by omega]
            exact (nw2 (g' + 1 + k5)).trans (b18 g')
      · rw [if_neg hA, bd_some]
        try dsimp only
        rw [if_pos rfl]
        have e8 := c_addB (F := F) (y := y) (len := len2 + b.toNat) (u := nI u2) (k := 275) (st := uB b st2 len2 276) (b := e) (by omega) (G := fun ru => Option.bind (f_X7_take F 275 (tpa x (nI t2) 0)) (fun q1 => (if q1.1 = 0 then (some (1, q1.2, ru)) else (lp (b_X5_readTest_o_8 F (f_RF N)) g (nI dp, q1.1, 0, nI (cnt + 1), q1.2, ru)))))
        try dsimp only at e8
        rw [e8, s_take hx a1 (by decide)]
        by_cases hO : lexK (m.2.1 28) L i2 = 275
        · have hW := (lexK_w (B := m.2.1 28) (L := L) (i := i2) (w := 15) (by decide)).mp hO
          obtain ⟨hE, hlet⟩ := isW_end (by decide) hW
          have hE : lexE (m.2.1 28) L i2 = i2 + 2 := hE
          have hl2 : i2 < L := by
            by_cases z : i2 < L
            · exact z
            · rw [lB_out i2 (by omega)] at hlet
              cases hlet
          have hE2 := lexE_gt (B := m.2.1 28) hl2
          have hAt := (a1.at hx).2.2.2 hl2
          rw [hE] at hAt hE2
          have hsk := sk_ge (B := m.2.1 28) (L := L) (p := i2 + 2) (by omega)
          rw [if_pos hO, bd_some]
          try dsimp only
          rw [if_neg (show ¬ (1 : Int32) = 0 by decide)]
          have hS3 : Stk (upd op2 ol 11) ol true false := by
            refine ⟨?_, fun _ => pk_us, fun h => by cases h⟩
            rcases hS2.1 with z | z
            · exact Or.inl z
            · by_cases h0 : ol = 0
              · exact Or.inl h0
              · exact Or.inr (by rw [pk_un (by omega)]; exact z)
          have hq := ih (sk (m.2.1 28) L (i2 + 2)) (t2 + 1) (i2 + 2) u2 (len2 + b.toNat + e.toNat) q ol (cnt + 1) g true false (uB e (uB b st2 len2 276) (len2 + b.toNat) 275) (uB e (uB b so2 (300 * s + len2) 10) (300 * s + (len2 + b.toNat)) 11) (uB e (uB b nu2 (300 * s + len2) 0) (300 * s + (len2 + b.toNat)) 0) (upd op2 ol 11) (by omega) hAt (by omega) rfl a6 c4 (by show 3 * (_ + _ + 1 + 0) ≤ _; omega) ho hS3 (by omega) (by omega) s4
          have nw2 : ∀ g', lp (b_X9_test_9 F) (g' + 1 + k) (1, 1, ps m (nI p) 0 (nI len) (nI dp) (nI u) (nI (ol + e.toNat + b.toNat)) so nu op) = lp (b_X9_test_9 F) g' (1, 1, ps m (nI (i2 + 2)) 0 (nI (len2 + b.toNat + e.toNat)) (nI dp) (nI u2) (nI (ol + 1)) (uB e (uB b so2 (300 * s + len2) 10) (300 * s + (len2 + b.toNat)) 11) (uB e (uB b nu2 (300 * s + len2) 0) (300 * s + (len2 + b.toNat)) 0) (upd op2 ol 11)) := fun g' => by
            rw [nw g', if_neg hA, if_pos hO]
          rcases hq with hq | hq
          · obtain ⟨φ, p5, k5, e5, d5, c5, o5, t5, so5, nu5, op5, ru5, b1, b2, b3, b4, b5, b6, b7, b8⟩ := hq
            refine Or.inl ⟨φ, p5, k5 + 1 + k, e5, d5, c5, o5, t5, so5, nu5, op5, ru5, b1, b2, b3, f4.tr b4, g4.tr b5, by omega, b7, fun g' => ?_⟩
            rw [show g' + (k5 + 1 + k) = (g' + k5) + 1 + k from by omega]
            exact (nw2 (g' + k5)).trans (b8 g')
          · obtain ⟨i5, t5, p5, u5, len5, k5, st5, so5, nu5, op5, b1, b2, b3, b4, b5, b6, b7, b8, b9, b10, b11, b12, b13, b14, b15, b16, b17, b18⟩ := hq
            refine Or.inr ⟨i5, t5, p5, u5, len5, k5 + 1 + k, st5, so5, nu5, op5, b1, by omega, b3, b4, by omega, b6, b7, by omega, b9, f4.tr b10, g4.tr b11, fun j hj => (b12 j (by omega)).trans (t4 j hj), b13, fun j hj => ?_, by omega, b16, b17, fun g' => ?_⟩
            · rw [b14 j hj, pk_un (by omega), a14 j (by omega)]
            · rw [show g' + 1 + (k5 + 1 + k) = (g' + 1 + k5) + 1 + k from by omega]
              exact (nw2 (g' + 1 + k5)).trans (b18 g')
        · rw [if_neg hO, bd_some]
          try dsimp only
          rw [if_pos rfl]
          refine Or.inr ⟨i2, t2, p2, u2, len2 + b.toNat + e.toNat, k, _, _, _, op2, a1, by omega, a3, a4, by omega, a6, by omega, by omega, c4, f4, g4, t4, s4, fun j hj => a14 j (by omega), a15, ⟨hA, hO⟩, rfl, fun g' => ?_⟩
          have hS0 : Stk op2 ol false false := ⟨hS2.1, (fun h => by cases h), (fun h => by cases h)⟩
          refine (nw g').trans ?_
          rw [if_neg hA, if_neg hO]
          have z0 := nw_st (F := F) (g := g') (p := p2) (len := len2 + b.toNat + e.toNat) (dp := dp) (ol := ol) (c := nI u2) (e := false) (b := false) (so := uB e (uB b so2 (300 * s + len2) 10) (300 * s + (len2 + b.toNat)) 11) (nu := uB e (uB b nu2 (300 * s + len2) 0) (300 * s + (len2 + b.toNat)) 0) (op := op2) hr (by omega) a3 (by omega) (by omega) hS0
          rw [a4, if_neg hA, if_neg hO] at z0
          rw [lt_n, ans_no (ol := ol) (by decide) (by omega) (by omega) (show ol = 0 ∨ ¬ op2 (ol - 1) = 9 from hS0.no), bd_some]
          exact z0.symm
end TS
end
section
/-! a fact, pure: both readers, by depth -/
section FS
variable {F : Nat} {m x y : OB} {L s n : Nat}
theorem l10 {u : Nat} (h : u < 2 ^ 31) : nI u < 10 ↔ u < 10 := by
  rw [show (10 : Int32) = nI 10 from rfl, nI_ltI h (by decide)]
theorem fact_step {N dp : Nat} (hr : RB m L s) (hF : 1000 ≤ F) (hx : TX (m.2.1 28) L x n) (ihF : dp < 10 → FactP F m x y L s n N (dp + 1)) (ihT : dp < 10 → TestP F m x y L s n N (dp + 1)) (hdp : dp ≤ 10) : FactP F m x y L s n (N + 1) dp := by
  intro i t p u len q ol st so nu op ha hp hk hu hc hb ho
  have h4 := hr.2.1
  have hi := ha.2.1
  have ski : sk (m.2.1 28) L i = i := at_sk hx ha
  have cl : f_RF (N + 1) F (nI dp) (tpa x (nI t) 0) (rus y (nI len) (nI u) st) = f_X5_readFact_o F (f_X5_readTest_o_ (f_RF N)) (f_RF N) (nI dp) (tpa x (nI t) 0) (rus y (nI len) (nI u) st) := rfl
  rw [cl]
  unfold f_X5_readFact_o
  rw [s_kind hx ha, bd_some]
  have rf : ∀ g, lp (b_X9_test_9 F) (g + 1) (1, 1, ps m (nI p) 0 (nI len) (nI dp) (nI u) (nI ol) so nu op) = _ := fun g => by
    rw [lt_w, s_fact hr (by omega) hp, hk]
  have deep : ∀ k : Int32, dp = 10 → (k = 9 ∨ k = 12) → ∀ (w : Nat), (∀ g, lp (b_X9_test_9 F) (g + 1) (1, 1, ps m (nI p) 0 (nI len) (nI dp) (nI u) (nI ol) so nu op) = (Option.bind (Option.bind (f_X9_opens F k (ps m (nI i) 0 (nI len) (nI dp) (nI u) (nI ol) so nu op)) (fun q8 => some ((0 : Int32), (((uF q8.1 19 ((q8.1 19) + nI w)), q8.2.1, q8.2.2) : OB)))) (fun q => if q.1 = 0 then lp (b_X9_test_9 F) g (1, 1, q.2) else lp (b_X9_test_9 F) g (0, 1, q.2)))) → i + w ≤ L + 1 → ∀ g, lp (b_X9_test_9 F) (g + 2) (1, 1, ps m (nI p) 0 (nI len) (nI dp) (nI u) (nI ol) so nu op) = some (ps m (nI (i + w)) (nI (1 + 8 * i + 2)) (nI len) (nI (dp + 1)) (nI u) (nI (ol + 1)) so nu (upd op ol k)) := by
    intro k hd hk9 w hw hiw g
    have e1 : (1 : Int32) + 8 * nI i + 2 = nI (1 + 8 * i + 2) := flt (k := 2)
    rw [hw (g + 1), s_op1 hk9 (by omega) hdp, if_pos hd, e1, bd_some, bd_some]
    try dsimp only
    rw [if_pos rfl, show (ps m (nI i) (nI (1 + 8 * i + 2)) (nI len) (nI (dp + 1)) (nI u) (nI (ol + 1)) so nu (upd op ol k)).1 19 = nI i from rfl, nI_add, ps_p, lt_f (nI_ne0 (by omega) (by omega))]
  by_cases h1 : lexK (m.2.1 28) L i = 91
  · have hcb := (lexK_s (B := m.2.1 28) (L := L) (i := i) (x := 91) (by decide)).mp h1
    obtain ⟨hE, hl⟩ := lexE_s (by decide) hcb
    rw [if_pos h1]
    unfold b_X5_readFact_o_24
    have h77 : ¬ lexK (m.2.1 28) L i = 277 := by
      rw [h1]
      decide
    by_cases hd : dp < 10
    · rw [if_pos ((l10 (by omega)).mpr hd), s_skip hx ha hl, bd_some, if_pos h1, nI_1]
      have hAt := (ha.at hx).2.2.2 hl
      rw [hE] at hAt
      have hsk := sk_ge (B := m.2.1 28) (L := L) (p := i + 1) (by omega)
      have hS0 : Stk (upd op ol 12) (ol + 1) false false := ⟨Or.inr (by show upd op ol 12 (ol + 1 - 1) = 12; rw [show ol + 1 - 1 = ol from rfl, pk_us]), (fun h => by cases h), (fun h => by cases h)⟩
      have rf2 : ∀ g, lp (b_X9_test_9 F) (g + 1) (1, 1, ps m (nI p) 0 (nI len) (nI dp) (nI u) (nI ol) so nu op) = lp (b_X9_test_9 F) g (1, 1, ps m (nI (i + 1)) 0 (nI len) (nI (dp + 1)) (nI u) (nI (ol + 1)) so nu (upd op ol 12)) := fun g => by
        rw [rf g, if_neg h77, if_pos h1, s_op1 (Or.inr rfl) (by omega) hdp, if_neg (by omega), bd_some, bd_some]
        try dsimp only
        rw [if_pos rfl, show (ps m (nI i) 0 (nI len) (nI (dp + 1)) (nI u) (nI (ol + 1)) so nu (upd op ol 12)).1 19 = nI i from rfl, nI_1, ps_p]
      have hq := ihT hd len (L - (sk (m.2.1 28) L (i + 1)) + 1) (sk (m.2.1 28) L (i + 1)) (t + 1) (i + 1) u len q (ol + 1) 0 F false false st so nu (upd op ol 12) (by omega) hAt (by omega) rfl hu hc (by show 3 * (len + q + 0 + 0) ≤ _; omega) (by omega) hS0 (by omega) (by omega) Seg.z
      have cT : f_X5_readTest_o_ (f_RF N) F (nI (dp + 1)) (tpa x (nI (t + 1)) 0) (rus y (nI len) (nI u) st) = lp (b_X5_readTest_o_8 F (f_RF N)) F (nI (dp + 1), bi false, bi false, nI 0, tpa x (nI (t + 1)) 0, rus y (nI len) (nI u) st) := rfl
      rw [cT]
      rcases hq with hq | hq
      · obtain ⟨φ, p5, k5, e5, d5, c5, o5, t5, so5, nu5, op5, ru5, b1, b2, b3, b4, b5, b6, b7, b8⟩ := hq
        rw [b7, bd_some, if_pos rfl]
        refine Or.inl ⟨φ, p5, k5 + 1, e5, d5, c5, o5, t5, so5, nu5, op5, ru5, b1, b2, b3, b4, b5, by omega, rfl, fun g => ?_⟩
        rw [show g + (k5 + 1) = (g + k5) + 1 from by omega]
        exact (rf2 (g + k5)).trans (b8 g)
      · obtain ⟨i5, t5, p5, u5, len5, k5, st5, so5, nu5, op5, b1, b2, b3, b4, b5, b6, b7, b8, b9, b10, b11, b12, b13, b14, b15, b16, b17, b18⟩ := hq
        have hi5 := b1.2.1
        rw [b17, bd_some]
        try dsimp only
        rw [if_neg (show ¬ (1 : Int32) = 0 by decide), s_take hx b1 (by decide)]
        have hS5 : Stk op5 (ol + 1) false false := stk_of hS0 (fun j hj => b14 j hj)
        have nw : ∀ g, lp (b_X9_test_9 F) (g + 1 + k5 + 1) (1, 1, ps m (nI p) 0 (nI len) (nI dp) (nI u) (nI ol) so nu op) = lp (b_X9_test_9 F) g (0, 1, ps m (nI (i5 + 1)) (if cb (m.2.1 28) L i5 = 93 then 0 else 1 + 8 * nI i5 + 0) (nI len5) (nI dp) (nI u5) (nI ol) so5 nu5 op5) := fun g => by
          have z := nw_st (F := F) (g := g) (p := p5) (len := len5) (dp := dp + 1) (ol := ol + 1) (c := nI u5) (e := false) (b := false) (so := so5) (nu := nu5) (op := op5) hr (by omega) b3 (by omega) (by omega) hS5
          rw [b4, if_neg b16.1, if_neg b16.2, if_neg (show ¬ ol + 1 = 0 by omega), nI_pred, nI_pred] at z
          refine (rf2 (g + 1 + k5)).trans ((b18 g).trans ?_)
          rw [lt_n, ans_no (ol := ol + 1) (by decide) (by omega) (by omega) (show ol + 1 = 0 ∨ ¬ op5 (ol + 1 - 1) = 9 from hS5.no), bd_some]
          exact z
        have hs93 := lexK_s (B := m.2.1 28) (L := L) (i := i5) (x := 93) (by decide)
        by_cases h93 : lexK (m.2.1 28) L i5 = 93
        · obtain ⟨hE5, hl5⟩ := lexE_s (by decide) (hs93.mp h93)
          have hAt5 := (b1.at hx).2.2.2 hl5
          rw [hE5] at hAt5
          have hsk5 := sk_ge (B := m.2.1 28) (L := L) (p := i5 + 1) (by omega)
          rw [if_pos h93, bd_some]
          try dsimp only
          rw [if_neg (show ¬ (1 : Int32) = 0 by decide)]
          unfold b_X5_readFact_o_74 b_X5_readFact_o_79
          rw [if_pos (Or.inr rfl)]
          refine Or.inr ⟨sk (m.2.1 28) L (i5 + 1), t5 + 1, i5 + 1, u5, len5, k5 + 2, st5, so5, nu5, op5, hAt5, by omega, by omega, rfl, b5, b6, b7, b8, b9, b10, b11, b12, b13, fun j hj => ?_, by omega, trivial, rfl, fun g => ?_⟩
          · rw [b14 j (by omega), pk_un (by omega)]
          · rw [show g + 1 + (k5 + 2) = (g + 1) + 1 + k5 + 1 from by omega]
            refine (nw (g + 1)).trans ?_
            rw [if_pos (hs93.mp h93)]
        · have e1 : (1 : Int32) + 8 * nI i5 + 0 = nI (1 + 8 * i5 + 0) := flt (k := 0)
          rw [if_neg h93, bd_some]
          try dsimp only
          rw [if_pos rfl, s_fail hx b1, bd_some]
          try dsimp only
          rw [if_pos rfl]
          unfold b_X5_readFact_o_78 b_X5_readFact_o_79
          rw [if_pos (Or.inl rfl), e1]
          refine Or.inl ⟨1 + 8 * i5 + 0, i5 + 1, k5 + 3, nI len5, nI dp, nI u5, nI ol, _, so5, nu5, op5, _, by omega, by omega, by omega, b10, b11, by omega, rfl, fun g => ?_⟩
          rw [show g + (k5 + 3) = (g + 1) + 1 + k5 + 1 from by omega]
          refine (nw (g + 1)).trans ?_
          rw [if_neg (fun z => h93 (hs93.mpr z)), e1, lt_f (nI_ne0 (by omega) (by omega))]
    · have hd10 : dp = 10 := by omega
      rw [if_neg (fun z => hd ((l10 (by omega)).mp z)), show Option.bind (f_X7_fail F 2 (tpa x (nI t) 0)) (fun q14 => if bo q14.1 then some (q14.1, q14.2, rus y (nI len) (nI u) st) else none) = some (0, tpa x (nI t) (nI (1 + 8 * i + 2)), rus y (nI len) (nI u) st) from c_bad (k := 2) hx ha]
      refine Or.inl ⟨1 + 8 * i + 2, i + 1, 2, nI len, nI (dp + 1), nI u, nI (ol + 1), _, so, nu, upd op ol 12, _, by omega, by omega, by omega, FrS.rf, FrS.rf, by omega, rfl, deep 12 hd10 (Or.inr rfl) 1 (fun g => ?_) (by omega)⟩
      rw [rf g, if_neg h77, if_pos h1]
      rfl
  · rw [if_neg h1]
    by_cases h2 : lexK (m.2.1 28) L i = 277
    · have hW := (lexK_w (B := m.2.1 28) (L := L) (i := i) (w := 17) (by decide)).mp h2
      obtain ⟨hE, hlet⟩ := isW_end (by decide) hW
      have hE : lexE (m.2.1 28) L i = i + 3 := hE
      have hl : i < L := by
        by_cases z : i < L
        · exact z
        · rw [lB_out i (by omega)] at hlet
          cases hlet
      have hE2 := lexE_gt (B := m.2.1 28) hl
      rw [if_pos h2]
      unfold b_X5_readFact_o_24
      by_cases hd : dp < 10
      · rw [if_pos ((l10 (by omega)).mpr hd), s_skip hx ha hl, bd_some, if_neg h1, nI_1]
        have hAt := (ha.at hx).2.2.2 hl
        rw [hE] at hAt hE2
        have hsk := sk_ge (B := m.2.1 28) (L := L) (p := i + 3) (by omega)
        have rf2 : ∀ g, lp (b_X9_test_9 F) (g + 1) (1, 1, ps m (nI p) 0 (nI len) (nI dp) (nI u) (nI ol) so nu op) = lp (b_X9_test_9 F) g (1, 1, ps m (nI (i + 3)) 0 (nI len) (nI (dp + 1)) (nI u) (nI (ol + 1)) so nu (upd op ol 9)) := fun g => by
          rw [rf g, if_pos h2, s_op1 (Or.inl rfl) (by omega) hdp, if_neg (by omega), bd_some, bd_some]
          try dsimp only
          rw [if_pos rfl, show (ps m (nI i) 0 (nI len) (nI (dp + 1)) (nI u) (nI (ol + 1)) so nu (upd op ol 9)).1 19 = nI i from rfl, show (3 : Int32) = nI 3 from rfl, nI_add, ps_p]
        rcases ihF hd (sk (m.2.1 28) L (i + 3)) (t + 1) (i + 3) u len (q + 1) (ol + 1) st so nu (upd op ol 9) hAt (by omega) rfl hu hc (by omega) (by omega) with hq | hq
        · obtain ⟨φ, p5, k5, e5, d5, c5, o5, t5, so5, nu5, op5, ru5, b1, b2, b3, b4, b5, b6, b7, b8⟩ := hq
          rw [b7, bd_some, if_pos rfl]
          refine Or.inl ⟨φ, p5, k5 + 1, e5, d5, c5, o5, t5, so5, nu5, op5, ru5, b1, b2, b3, b4, b5, by omega, rfl, fun g => ?_⟩
          rw [show g + (k5 + 1) = (g + k5) + 1 from by omega]
          exact (rf2 (g + k5)).trans (b8 g)
        · obtain ⟨i5, t5, p5, u5, len5, k5, st5, so5, nu5, op5, b1, b2, b3, b4, b5, b6, b7, b8, b9, b10, b11, b12, b13, b14, b15, _, b17, b18⟩ := hq
          have ht : op5 ol = 9 := by
            rw [b14 ol (by omega), pk_us]
          rw [b17, bd_some]
          try dsimp only
          rw [if_neg (show ¬ (1 : Int32) = 0 by decide), s_add (by omega), bd_some]
          refine Or.inr ⟨i5, t5, p5, u5, len5 + 1, k5 + 1, upd st5 len5 277, upd so5 (300 * s + len5) 9, upd nu5 (300 * s + len5) 0, op5, b1, by omega, b3, b4, b5, b6, by omega, by omega, b9.app (VE_lit (q := 9) (by decide) rfl) (by decide), b10.up (by omega), b11.up (by omega), fun j hj => by rw [pk_un (by omega), b12 j hj], Seg.n (j := 0) b13, fun j hj => ?_, by omega, trivial, rfl, fun g => ?_⟩
          · rw [b14 j (by omega), pk_un (by omega)]
          · rw [show g + 1 + (k5 + 1) = (g + 1 + k5) + 1 from by omega]
            refine (rf2 (g + 1 + k5)).trans ((b18 g).trans ?_)
            rw [lt_n, ans_not hr (by omega) (by omega) (by omega) (by omega) ht, lt_n]
            rfl
      · have hd10 : dp = 10 := by omega
        rw [if_neg (fun z => hd ((l10 (by omega)).mp z)), show Option.bind (f_X7_fail F 2 (tpa x (nI t) 0)) (fun q14 => if bo q14.1 then some (q14.1, q14.2, rus y (nI len) (nI u) st) else none) = some (0, tpa x (nI t) (nI (1 + 8 * i + 2)), rus y (nI len) (nI u) st) from c_bad (k := 2) hx ha]
        refine Or.inl ⟨1 + 8 * i + 2, i + 3, 2, nI len, nI (dp + 1), nI u, nI (ol + 1), _, so, nu, upd op ol 9, _, by omega, by omega, by omega, FrS.rf, FrS.rf, by omega, rfl, deep 9 hd10 (Or.inl rfl) 3 (fun g => ?_) (by omega)⟩
        rw [rf g, if_pos h2]
        rfl
    · rw [if_neg h2]
      rcases cmp_all (F := F) (y := y) (d := nI dp) (o := nI ol) (op := op) hr (by omega) hx ha hi ski hu hc (show 3 * len ≤ 14 * u + 36 by omega) with hq | hq
      · obtain ⟨φ, p2, e2, c2, t2, so2, nu2, ru2, a1, a2, a3, a4, a5, a6, a7⟩ := hq
        rw [a6, bd_some, if_pos (Or.inl rfl)]
        refine Or.inl ⟨φ, p2, 2, e2, nI dp, c2, nI ol, t2, so2, nu2, op, ru2, a1, a2, by omega, a4, a5, by omega, rfl, fun g => ?_⟩
        refine (rf (g + 1)).trans ?_
        rw [if_neg h2, if_neg h1, a7, bd_some, bd_some]
        try dsimp only
        rw [if_neg (show ¬ (1 : Int32) = 0 by decide), lt_f (nI_ne0 a1 (by omega))]
      · obtain ⟨i2, t2, u2, len2, st2, so2, nu2, a1, a2, a3, a4, a5, a6, a7, a8, a9, a10, a11, a12, a13⟩ := hq
        rw [a12, bd_some, if_pos (Or.inr rfl)]
        refine Or.inr ⟨i2, t2, i2, u2, len2, 1, st2, so2, nu2, op, a1, a2, a1.2.1, at_sk hx a1, by omega, a4, by omega, a6, a7, a8, a9, a10, a11, fun _ _ => rfl, by omega, trivial, rfl, fun g => ?_⟩
        refine (rf (g + 1)).trans ?_
        rw [if_neg h2, if_neg h1, a13, bd_some, bd_some]
        rfl
theorem fact_sim (hr : RB m L s) (hF : 1000 ≤ F) (hx : TX (m.2.1 28) L x n) : ∀ N dp, N + dp = 10 → FactP F m x y L s n (N + 1) dp := by
  intro N
  induction N with
  | zero =>
    intro dp hN i t p u len q ol st so nu op ha hp hk hu hc hb ho
    exact fact_step hr hF hx (fun h => absurd h (by omega)) (fun h => absurd h (by omega)) (by omega) i t p u len q ol st so nu op ha hp hk hu hc hb ho
  | succ N ih =>
    intro dp hN i t p u len q ol st so nu op ha hp hk hu hc hb ho
    have hf := ih (dp + 1) (by omega)
    exact fact_step hr hF hx (fun _ => hf) (fun _ => test_sim hr hF hx hf (by omega)) (by omega) i t p u len q ol st so nu op ha hp hk hu hc hb ho
end FS
end
section
/-! a rule, pure: both readers, clause by clause -/
noncomputable def ycl (y : OB) (c : Int32) (sf su te : Nat → Int32) : OB := (uF y.1 6 c, uF (uF (uF y.2.1 1 sf) 2 su) 3 te, y.2.2)
noncomputable def mcl (m : OB) (sa ta ea : Nat → Int32) : OB := (m.1, uF (uF (uF m.2.1 32 sa) 33 ta) 34 ea, m.2.2)
theorem tpa_id {x : OB} {t f : Int32} (h6 : x.1 6 = t) (h7 : x.1 7 = f) : tpa x t f = x := by
  unfold tpa
  rw [← h6, ← h7, uF_id, uF_id]
section RU1
variable {F : Nat} {m y : OB} {L s : Nat} {p f e d c o : Int32} {so nu op sa ta ea sf su te st : Nat → Int32}
theorem RB.cl (h : RB m L s) : RB (mcl m sa ta ea) L s := h
theorem s_clear {ru : OB} : f_X4_clear F ru = some (rus (ycl ru (nI 0) (ru.2.1 1) (ru.2.1 2) (ru.2.1 3)) (nI 0) (nI 0) (ru.2.1 0)) := by
  unfold f_X4_clear rus ycl
  try dsimp only
  rw [uF_id (f := ru.2.1) (i := 1), uF_id (f := ru.2.1) (i := 2), uF_id (f := ru.2.1) (i := 3), uF_id (f := ru.2.1) (i := 0), nI_0, uF_cm (f := ru.1) (i := 5) (j := 6) (by decide)]
theorem s_close {c len : Nat} {a b u : Int32} (hc : c < 12) : f_X4_closeClause F a b (rus (ycl y (nI c) sf su te) (nI len) u st) = some (rus (ycl y (nI (c + 1)) (upd sf c a) (upd su c b) (upd te c (nI len))) (nI len) u st) := by
  unfold f_X4_closeClause b_X4_closeClause_52
  rw [show (rus (ycl y (nI c) sf su te) (nI len) u st).1 6 = nI c from rfl, if_neg (show ¬ (12 : Int32) ≤ nI c from by
    rw [sp_le, nI_toInt (by omega), show (12 : Int32).toInt = 12 from by decide]
    omega), if_pos (ib_n hc (by decide)), nI_clamp (by omega), nI_1, show (rus (ycl y (nI c) sf su te) (nI len) u st).2.1 1 = sf from rfl, show (rus (ycl y (nI c) sf su te) (nI len) u st).2.1 2 = su from rfl, show (rus (ycl y (nI c) sf su te) (nI len) u st).2.1 3 = te from rfl, show (rus (ycl y (nI c) sf su te) (nI len) u st).1 5 = nI len from rfl]
  unfold rus ycl
  try dsimp only
  rw [uF_cm (i := 7) (j := 6) (by decide), uF_cm (i := 5) (j := 6) (by decide), uF_uF]
  rw [uF_cm (i := 0) (j := 1) (by decide), uF_cm (i := 3) (j := 1) (by decide), uF_cm (i := 2) (j := 1) (by decide), uF_uF]
  rw [uF_cm (i := 0) (j := 2) (by decide), uF_cm (i := 3) (j := 2) (by decide), uF_uF]
  rw [uF_cm (i := 0) (j := 3) (by decide), uF_uF]
theorem ps_32 {v : Int32} {r : Nat → Int32} : ((uF (ps (mcl m sa ta ea) p f e d c o so nu op).1 19 v, uF (ps (mcl m sa ta ea) p f e d c o so nu op).2.1 32 r, (ps (mcl m sa ta ea) p f e d c o so nu op).2.2) : OB) = ps (mcl m r ta ea) v f e d c o so nu op := by
  rw [show ps (mcl m r ta ea) v f e d c o so nu op = (uF (ps (mcl m r ta ea) p f e d c o so nu op).1 19 v, (ps (mcl m r ta ea) p f e d c o so nu op).2.1, (ps (mcl m r ta ea) p f e d c o so nu op).2.2) from ps_p.symm]
  unfold ps mcl
  try dsimp only
  rw [uF_cm (i := 35) (j := 32) (by decide), uF_cm (i := 30) (j := 32) (by decide), uF_cm (i := 29) (j := 32) (by decide), uF_cm (i := 34) (j := 32) (by decide), uF_cm (i := 33) (j := 32) (by decide), uF_uF]
theorem ps_33 {r : Nat → Int32} : (((ps (mcl m sa ta ea) p f e d c o so nu op).1, uF (ps (mcl m sa ta ea) p f e d c o so nu op).2.1 33 r, (ps (mcl m sa ta ea) p f e d c o so nu op).2.2) : OB) = ps (mcl m sa r ea) p f e d c o so nu op := by
  unfold ps mcl
  try dsimp only
  rw [uF_cm (i := 35) (j := 33) (by decide), uF_cm (i := 30) (j := 33) (by decide), uF_cm (i := 29) (j := 33) (by decide), uF_cm (i := 34) (j := 33) (by decide), uF_uF]
theorem ps_34 {r : Nat → Int32} : (((ps (mcl m sa ta ea) p f e d c o so nu op).1, uF (ps (mcl m sa ta ea) p f e d c o so nu op).2.1 34 r, (ps (mcl m sa ta ea) p f e d c o so nu op).2.2) : OB) = ps (mcl m sa ta r) p f e d c o so nu op := by
  unfold ps mcl
  try dsimp only
  rw [uF_cm (i := 35) (j := 34) (by decide), uF_cm (i := 30) (j := 34) (by decide), uF_cm (i := 29) (j := 34) (by decide), uF_uF]
theorem lp_off {g : Nat} {w : Int32} {mo : OB} : lp (b_X9_test_9 F) (g + 1) (w, 0, mo) = some mo := by
  rw [lp_S, b_X9_test_9]
  unfold b_X9_test_201
  try dsimp only
  rw [if_pos rfl]
end RU1
section RU2
variable {F : Nat} {m x y : OB} {L s n : Nat}
/-- a whole test -/
theorem test_all {i t p u len : Nat} {o : Int32} {st so nu op : Nat → Int32} (hr : RB m L s) (hF : 1000 ≤ F) (hx : TX (m.2.1 28) L x n) (ha : At L x n t i) (hp : p ≤ L) (hk : sk (m.2.1 28) L p = i) (hu : u ≤ 60) (hc : CE s len st so nu) (hb : 3 * len ≤ 14 * u + 3) :
    (∃ (φ p2 : Nat) (e2 d2 c2 o2 t2 : Int32) (so2 nu2 op2 : Nat → Int32) (ru2 : OB), 0 < φ ∧ φ < 4000 ∧ p2 ≤ L + 1 ∧ FrS s so so2 ∧ FrS s nu nu2 ∧ f_X5_readTest F 0 (tpa x (nI t) 0) (rus y (nI len) (nI u) st) = some (0, tpa x t2 (nI φ), ru2) ∧ f_X9_test F (ps m (nI p) 0 (nI len) (nI 0) (nI u) o so nu op) = some (ps m (nI p2) (nI φ) e2 d2 c2 o2 so2 nu2 op2))
    ∨ (∃ (i2 t2 u2 len2 : Nat) (st2 so2 nu2 op2 : Nat → Int32), At L x n t2 i2 ∧ i < i2 ∧ u < u2 ∧ u2 ≤ 60 ∧ 3 * len2 ≤ 14 * u2 ∧ len < len2 ∧ CE s len2 st2 so2 nu2 ∧ FrS s so so2 ∧ FrS s nu nu2 ∧ (∀ j, j < len → st2 j = st j) ∧ Seg false st2 len len2 1 ∧ f_X5_readTest F 0 (tpa x (nI t) 0) (rus y (nI len) (nI u) st) = some (1, tpa x (nI t2) 0, rus y (nI len2) (nI u2) st2) ∧ f_X9_test F (ps m (nI p) 0 (nI len) (nI 0) (nI u) o so nu op) = some (ps m (nI i2) 0 (nI len2) (nI 0) (nI u2) (nI 0) so2 nu2 op2)) := by
  have h4 := hr.2.1
  have hi := ha.2.1
  have hf : FactP F m x y L s n 11 0 := fact_sim hr hF hx 10 0 rfl
  have hS0 : Stk op 0 false false := ⟨Or.inl rfl, (fun h => by cases h), (fun h => by cases h)⟩
  have cT : f_X5_readTest F 0 (tpa x (nI t) 0) (rus y (nI len) (nI u) st) = lp (b_X5_readTest_o_8 F (f_RF 11)) F (nI 0, bi false, bi false, nI 0, tpa x (nI t) 0, rus y (nI len) (nI u) st) := rfl
  have rT : f_X9_test F (ps m (nI p) 0 (nI len) (nI 0) (nI u) o so nu op) = lp (b_X9_test_9 F) F (1, 1, ps m (nI p) 0 (nI len) (nI 0) (nI u) (nI 0) so nu op) := by
    unfold f_X9_test
    rw [ps_o]
    rfl
  rw [cT, rT]
  rcases test_sim hr hF hx hf (by omega) len (L - i + 1) i t p u len 0 0 0 F false false st so nu op (by omega) ha hp hk hu hc (by show 3 * (len + 0 + 0 + 0) ≤ _; omega) (by omega) hS0 (by omega) (by omega) Seg.z with hq | hq
  · obtain ⟨φ, p2, k, e2, d2, c2, o2, t2, so2, nu2, op2, ru2, a1, a2, a3, a4, a5, a6, a7, a8⟩ := hq
    refine Or.inl ⟨φ, p2, e2, d2, c2, o2, t2, so2, nu2, op2, ru2, a1, a2, a3, a4, a5, a7, ?_⟩
    have z := a8 (F - k)
    rw [show F - k + k = F from by omega] at z
    exact z
  · obtain ⟨i2, t2, p2, u2, len2, k, st2, so2, nu2, op2, a1, a2, a3, a4, a5, a6, a7, a8, a9, a10, a11, a12, a13, a14, a15, a16, a17, a18⟩ := hq
    have hi2 := a1.2.1
    refine Or.inr ⟨i2, t2, u2, len2, st2, so2, nu2, op2, a1, a2, a5, a6, by omega, a8, a9, a10, a11, a12, a13, a17, ?_⟩
    have z := a18 (F - k - 1)
    rw [show F - k - 1 + 1 + k = F from by omega] at z
    refine z.trans ?_
    have hS2 : Stk op2 0 false false := ⟨Or.inl rfl, (fun h => by cases h), (fun h => by cases h)⟩
    have w := nw_st (F := F) (g := F - k - 1) (p := p2) (len := len2) (dp := 0) (ol := 0) (c := nI u2) (e := false) (b := false) (so := so2) (nu := nu2) (op := op2) hr (by omega) a3 (by omega) (by omega) hS2
    rw [a4, if_neg a16.1, if_neg a16.2, if_pos rfl] at w
    rw [lt_n, ans_no (ol := 0) (by decide) (by omega) (by omega) (Or.inl rfl), bd_some]
    refine w.trans ?_
    rw [show F - k - 1 = (F - k - 2) + 1 from by omega]
    exact lp_off
end RU2
end
section
/-! a rule, pure: the clauses, the end -/
noncomputable def ClT (s c len : Nat) (st sf su te sa ta ea : Nat → Int32) : Prop := ∀ j, j < c → ∃ a b d : Nat, sf j = nI a ∧ su j = nI b ∧ te j = nI d ∧ sa (12 * s + j) = nI a ∧ ta (12 * s + j) = nI b ∧ ea (12 * s + j) = nI d ∧ a < b ∧ b ≤ d ∧ d ≤ len ∧ Seg true st a b 1 ∧ (b < d → Seg false st b d 1)
noncomputable def Fr12 (s : Nat) (f g : Nat → Int32) : Prop := ∀ j, j < 12 * s ∨ 12 * s + 12 ≤ j → g j = f j
theorem Fr12.rf {s : Nat} {f : Nat → Int32} : Fr12 s f f := fun _ _ => rfl
theorem Fr12.tr {s : Nat} {f g h : Nat → Int32} (a : Fr12 s f g) (b : Fr12 s g h) : Fr12 s f h := fun j q => (b j q).trans (a j q)
theorem Fr12.up {s n : Nat} {f g : Nat → Int32} {v : Int32} (a : Fr12 s f g) (hn : n < 12) : Fr12 s f (upd g (12 * s + n) v) := fun j q => by
  rw [pk_un (by omega)]
  exact a j q
theorem ClT.app {s c len len2 la lb : Nat} {st st2 sf su te sa ta ea : Nat → Int32} (h : ClT s c len st sf su te sa ta ea) (hst : ∀ j, j < len → st2 j = st j) (h1 : la < lb) (h2 : lb ≤ len2) (hl : len ≤ la) (hs : Seg true st2 la lb 1) (ht : lb < len2 → Seg false st2 lb len2 1) : ClT s (c + 1) len2 st2 (upd sf c (nI la)) (upd su c (nI lb)) (upd te c (nI len2)) (upd sa (12 * s + c) (nI la)) (upd ta (12 * s + c) (nI lb)) (upd ea (12 * s + c) (nI len2)) := by
  intro j hj
  by_cases e : j = c
  · subst e
    exact ⟨la, lb, len2, pk_us, pk_us, pk_us, pk_us, pk_us, pk_us, h1, h2, Nat.le_refl _, hs, ht⟩
  · obtain ⟨a, b, d, q1, q2, q3, q4, q5, q6, q7, q8, q9, q10, q11⟩ := h j (by omega)
    refine ⟨a, b, d, ?_, ?_, ?_, ?_, ?_, ?_, q7, q8, by omega, q10.cg (fun k _ hk => hst k (by omega)), fun z => (q11 z).cg (fun k _ hk => hst k (by omega))⟩
    · rw [pk_un e]; exact q1
    · rw [pk_un e]; exact q2
    · rw [pk_un e]; exact q3
    · rw [pk_un (by omega)]; exact q4
    · rw [pk_un (by omega)]; exact q5
    · rw [pk_un (by omega)]; exact q6
noncomputable def finR (M : OB) (s : Nat) (n r : Int32) : OB := (uF (uF M.1 18 0) 22 r, uF M.2.1 31 (upd (M.2.1 31) s n), M.2.2)
section RL
variable {F : Nat} {m x y : OB} {L s n : Nat}
theorem r_end0 {g : Nat} {k : Int32} {M : OB} (h21 : M.1 21 = nI s) (hs : s < 6) (h22 : M.1 22 = nI s) (hf : M.1 20 = 0) : lp (b_X9_rule_27 F) (g + 1) (k, 0, M) = some (nI s, finR M s k (nI (s + 1))) := by
  rw [lp_S, b_X9_rule_27]
  unfold b_X9_rule_79 b_X9_rule_106
  try dsimp only
  rw [if_pos rfl, h21, if_pos (ib_n hs (by decide)), hf, if_pos rfl, if_pos (show (uF M.1 18 0) 20 ≤ 0 from by
    show M.1 20 ≤ 0
    rw [hf]
    decide), h22, nI_1, nI_pred, nI_clamp (by omega)]
  rfl
theorem r_endφ {g φ : Nat} {k : Int32} {M : OB} (h21 : M.1 21 = nI s) (hs : s < 6) (h22 : M.1 22 = nI s) (hf : M.1 20 = nI φ) (h0 : 0 < φ) (h4 : φ < 4000) : lp (b_X9_rule_27 F) (g + 1) (k, 0, M) = some (-2 - nI φ, finR M s k (nI s)) := by
  rw [lp_S, b_X9_rule_27]
  unfold b_X9_rule_79 b_X9_rule_106
  try dsimp only
  rw [if_pos rfl, h21, if_pos (ib_n hs (by decide)), hf, if_neg (nI_ne0 h0 (by omega)), if_neg (show ¬ (uF M.1 18 0) 20 ≤ 0 from by
    show ¬ M.1 20 ≤ 0
    rw [hf]
    exact nI_nle h0 (by omega)), show (uF M.1 18 0) 20 = M.1 20 from rfl, hf, h22, show nI s + 0 = nI s from nI_add _ 0, nI_clamp (by omega)]
  rfl
theorem s_blanksO {p : Nat} {f e d c o : Int32} {so nu op : Nat → Int32} (hr : RB m L s) (hF : 600 ≤ F) (hp : p = L + 1) : f_X9_blanks F (ps m (nI p) f e d c o so nu op) = some (ps m (nI p) f e d c o so nu op) := by
  have h4 := hr.2.1
  obtain ⟨g, rfl⟩ : ∃ g, F = g + 1 := ⟨F - 1, by omega⟩
  unfold f_X9_blanks
  rw [lp_S, b_X9_blanks_0, s_sign hr (by omega), bd_some, cb_out (by omega), if_neg (by decide)]
theorem g_goes {p : Nat} {f e d c o : Int32} {so nu op : Nat → Int32} (hr : RB m L s) (hF : 600 ≤ F) (hf : ¬ f = 0) (hp : p ≤ L + 1) : ∃ p2 : Int32, f_X9_goesOn F (ps m (nI p) f e d c o so nu op) = some (0, ps m p2 f e d c o so nu op) := by
  have tail : ∀ pp : Int32, (if (ps m pp f e d c o so nu op).1 20 = 0 then (if (ps m pp f e d c o so nu op).1 18 ≤ (ps m pp f e d c o so nu op).1 19 then (b_X9_goesOn_40 F (ps m pp f e d c o so nu op)) else (Option.bind (f_X9_sign F (ps m pp f e d c o so nu op)) (fun q7 => (if q7 = 59 then (b_X9_goesOn_40 F (ps m pp f e d c o so nu op)) else (Option.bind (f_X9_fails F 0 ((ps m pp f e d c o so nu op).1 19) (ps m pp f e d c o so nu op)) (fun q9 => (b_X9_goesOn_40 F q9))))))) else (b_X9_goesOn_40 F (ps m pp f e d c o so nu op))) = some (0, ps m (pp + 1) f e d c o so nu op) := fun pp => by
    rw [show (ps m pp f e d c o so nu op).1 20 = f from rfl, if_neg hf]
    unfold b_X9_goesOn_40 b_X9_goesOn_62 b_X9_goesOn_63
    rw [show (ps m pp f e d c o so nu op).1 20 = f from rfl, if_neg hf, if_pos (Or.inl rfl), show (ps m pp f e d c o so nu op).1 19 = pp from rfl, ps_p]
  unfold f_X9_goesOn
  by_cases h : p ≤ L
  · rw [s_blanks hr hF h, bd_some]
    exact ⟨_, tail _⟩
  · rw [s_blanksO hr hF (by omega), bd_some]
    exact ⟨_, tail _⟩
theorem s_goes {p i : Nat} {e d c o : Int32} {so nu op : Nat → Int32} (hr : RB m L s) (hF : 600 ≤ F) (hp : p ≤ L) (hk : sk (m.2.1 28) L p = i) : f_X9_goesOn F (ps m (nI p) 0 e d c o so nu op) = if i = L then some (0, ps m (nI (i + 1)) 0 e d c o so nu op) else if cb (m.2.1 28) L i = 59 then some (1, ps m (nI (i + 1)) 0 e d c o so nu op) else some (0, ps m (nI (i + 1)) (1 + 8 * nI i + 0) e d c o so nu op) := by
  have h4 := hr.2.1
  have hi : i ≤ L := hk ▸ sk_le (B := m.2.1 28) hp
  have e18 : ∀ f : Int32, (ps m (nI i) f e d c o so nu op).1 18 = nI L := fun _ => hr.1
  have e19 : ∀ f : Int32, (ps m (nI i) f e d c o so nu op).1 19 = nI i := fun _ => rfl
  have e20 : ∀ f : Int32, (ps m (nI i) f e d c o so nu op).1 20 = f := fun _ => rfl
  unfold f_X9_goesOn
  rw [s_blanks hr hF hp, bd_some, hk, e20, if_pos rfl, e18, e19]
  by_cases h1 : i = L
  · rw [if_pos (nI_le (by omega) (by omega)), if_pos h1]
    unfold b_X9_goesOn_40 b_X9_goesOn_62 b_X9_goesOn_63
    rw [e20, if_pos rfl, e18, e19, if_pos (nI_le (by omega) (by omega)), if_pos (Or.inl rfl), nI_1, ps_p]
  · rw [if_neg (nI_ge (by omega) (by omega)), if_neg h1, s_sign hr (by omega), bd_some]
    by_cases h2 : cb (m.2.1 28) L i = 59
    · rw [if_pos h2, if_pos h2]
      unfold b_X9_goesOn_40 b_X9_goesOn_62 b_X9_goesOn_63
      rw [e20, if_pos rfl, e18, e19, if_neg (nI_ge (by omega) (by omega)), if_pos (Or.inr rfl), nI_1, ps_p]
    · rw [if_neg h2, if_neg h2, s_fails, bd_some, if_pos rfl]
      have e1 : (1 : Int32) + 8 * nI i + 0 = nI (1 + 8 * i + 0) := flt (k := 0)
      unfold b_X9_goesOn_40 b_X9_goesOn_62 b_X9_goesOn_63
      rw [e20, e1, if_neg (nI_ne0 (by omega) (by omega)), if_pos (Or.inl rfl), e19, nI_1, ps_p]
end RL
end
section
/-! a rule, pure: one clause by both -/
section CLA
variable {F : Nat} {m x y : OB} {L s n : Nat}
theorem s_takes {p i w : Nat} {f e d c o k : Int32} {so nu op : Nat → Int32} (hr : RB m L s) (hF : 600 ≤ F) (hp : p ≤ L) (hk : sk (m.2.1 28) L p = i) (hw : w < 18) (hkk : nI (260 + w) = k) : f_X9_takes F w (ps m (nI p) f e d c o so nu op) = if lexK (m.2.1 28) L i = k then some (1, ps m (nI (i + xl w)) f e d c o so nu op) else some (0, ps m (nI i) f e d c o so nu op) := by
  have hi : i ≤ L := hk ▸ sk_le (B := m.2.1 28) hp
  unfold f_X9_takes b_X9_takes_27
  rw [s_blanks hr hF hp, bd_some, hk, s_st hr hF hi hw hkk, bd_some, show (ps m (nI i) f e d c o so nu op).1 19 = nI i from rfl]
  by_cases h : lexK (m.2.1 28) L i = k
  · rw [if_pos h, if_pos h, if_neg (show ¬ (1 : Int32) = 0 by decide), if_pos hw, if_pos (Or.inr rfl), nI_add, ps_p]
  · rw [if_neg h, if_neg h, if_pos rfl, if_pos (Or.inl rfl), show nI i + 0 = nI i from nI_add _ 0, ps_p]
noncomputable def BadL (m x : OB) (L s : Nat) (so nu sa ta ea : Nat → Int32) (rc : ((Int32 × OB × OB) → Option (Int32 × OB × OB)) → Option (Int32 × OB × OB)) (rr : Option OB) : Prop := ∃ (φ p2 : Nat) (e2 d2 c2 o2 t2 : Int32) (so2 nu2 op2 sa2 ta2 ea2 : Nat → Int32) (ru2 : OB), 0 < φ ∧ φ < 4000 ∧ p2 ≤ L + 1 ∧ FrS s so so2 ∧ FrS s nu nu2 ∧ Fr12 s sa sa2 ∧ Fr12 s ta ta2 ∧ Fr12 s ea ea2 ∧ (∀ k, rc k = some (0, tpa x t2 (nI φ), ru2)) ∧ rr = some (ps (mcl m sa2 ta2 ea2) (nI p2) (nI φ) e2 d2 c2 o2 so2 nu2 op2)
noncomputable def GoodL (F : Nat) (m x y : OB) (L s n c i u len : Nat) (st so nu sf su te sa ta ea : Nat → Int32) (rc : ((Int32 × OB × OB) → Option (Int32 × OB × OB)) → Option (Int32 × OB × OB)) (rr : Option OB) : Prop := ∃ (lb i2 t2 u2 len2 : Nat) (o2 : Int32) (st2 so2 nu2 op2 : Nat → Int32), At L x n t2 i2 ∧ i < i2 ∧ u < u2 ∧ u2 ≤ 60 ∧ 3 * len2 ≤ 14 * u2 ∧ len < lb ∧ lb ≤ len2 ∧ CE s len2 st2 so2 nu2 ∧ FrS s so so2 ∧ FrS s nu nu2 ∧ (∀ j, j < len → st2 j = st j) ∧ Seg true st2 len lb 1 ∧ (lb < len2 → Seg false st2 lb len2 1) ∧ c < 12 ∧ (∀ k, rc k = b_X5_read_66 F k (nI c) (nI len) (nI lb) (tpa x (nI t2) 0) (rus (ycl y (nI c) sf su te) (nI len2) (nI u2) st2)) ∧ rr = some (ps (mcl m (upd sa (12 * s + c) (nI len)) (upd ta (12 * s + c) (nI lb)) (upd ea (12 * s + c) (nI len2))) (nI i2) 0 (nI len2) (nI 0) (nI u2) o2 so2 nu2 op2)
theorem n12 {s c : Nat} : (12 : Int32) * nI s + nI c = nI (12 * s + c) := by
  rw [show (12 : Int32) = nI 12 from rfl, pk_mul, nI_add]
theorem e_104 {j : Nat} {p f e d c o : Int32} {so nu op sa ta ea : Nat → Int32} (hj : j < 72) : b_X9_ruleClause_104 F (nI j) (ps (mcl m sa ta ea) p f e d c o so nu op) = some (ps (mcl m sa ta (upd ea j e)) p f e d c o so nu op) := by
  unfold b_X9_ruleClause_104
  rw [if_pos (ib_n hj (by decide)), nI_clamp (by omega), show (ps (mcl m sa ta ea) p f e d c o so nu op).2.1 34 = ea from rfl, show (ps (mcl m sa ta ea) p f e d c o so nu op).1 23 = e from rfl, ps_34]
theorem cl_all {c i t p u len : Nat} {o : Int32} {st so nu op sf su te sa ta ea : Nat → Int32} (hr : RB m L s) (hF : 1000 ≤ F) (hx : TX (m.2.1 28) L x n) (ha : At L x n t i) (hp : p ≤ L) (hk : sk (m.2.1 28) L p = i) (hc12 : c ≤ 12) (hu : u ≤ 60) (hc : CE s len st so nu) (hb : 3 * len ≤ 14 * u) :
    BadL m x L s so nu sa ta ea (fun k => b_X5_read_10 F k (nI c, tpa x (nI t) 0, rus (ycl y (nI c) sf su te) (nI len) (nI u) st)) (f_X9_ruleClause F (nI c) (ps (mcl m sa ta ea) (nI p) 0 (nI len) (nI 0) (nI u) o so nu op))
    ∨ GoodL F m x y L s n c i u len st so nu sf su te sa ta ea (fun k => b_X5_read_10 F k (nI c, tpa x (nI t) 0, rus (ycl y (nI c) sf su te) (nI len) (nI u) st)) (f_X9_ruleClause F (nI c) (ps (mcl m sa ta ea) (nI p) 0 (nI len) (nI 0) (nI u) o so nu op)) := by
  have h4 := hr.2.1
  have hs6 := hr.2.2.2.2.1
  have hi := ha.2.1
  have hF6 : 600 ≤ F := by omega
  have hc1 : ¬ (12 : Int32) < nI c := by
    rw [Int32.lt_iff_toInt_lt, nI_toInt (by omega), show (12 : Int32).toInt = 12 from by decide]
    omega
  have cS : ∀ k, b_X5_read_10 F k (nI c, tpa x (nI t) 0, rus (ycl y (nI c) sf su te) (nI len) (nI u) st) = Option.bind (f_X5_openClause F (nI c) (tpa x (nI t) 0)) (fun q9 => (if q9.1 = 0 then (b_X5_read_37 F q9.2 (rus (ycl y (nI c) sf su te) (nI len) (nI u) st)) else (Option.bind (f_X5_readSum F q9.2 (rus (ycl y (nI c) sf su te) (nI len) (nI u) st)) (fun q11 => (if q11.1 = 0 then (b_X5_read_37 F q11.2.1 q11.2.2) else (Option.bind (f_X7_take F 274 q11.2.1) (fun q13 => (if q13.1 = 0 then (b_X5_read_66 F k (nI c) (nI len) (q11.2.2.1 5) q13.2 q11.2.2) else (Option.bind (f_X5_readTest F 0 q13.2 q11.2.2) (fun q15 => (if q15.1 = 0 then (some (0, q15.2.1, q15.2.2)) else (b_X5_read_66 F k (nI c) (nI len) (q11.2.2.1 5) q15.2.1 q15.2.2)))))))))))) := fun k => by
    unfold b_X5_read_10
    try dsimp only
    rw [if_neg hc1]
    rfl
  have hRs : ∀ (p2 f2 e2 d2 c2 o2 : Int32) (so2 nu2 op2 sa2 ta2 ea2 : Nat → Int32), (ps (mcl m sa2 ta2 ea2) p2 f2 e2 d2 c2 o2 so2 nu2 op2).1 21 = nI s := fun _ _ _ _ _ _ _ _ _ _ _ _ => hr.2.2.2.1
  have hrr := hr.cl (sa := sa) (ta := ta) (ea := ea)
  unfold f_X9_ruleClause
  rw [s_blanks hrr hF6 hp, bd_some, show sk ((mcl m sa ta ea).2.1 28) L p = i from hk, s_st hrr hF6 hi (w := 13) (k := 273) (by decide) rfl, bd_some, show (ps (mcl m sa ta ea) (nI i) 0 (nI len) (nI 0) (nI u) o so nu op).1 19 = nI i from rfl, hRs, n12]
  have hB : (mcl m sa ta ea).2.1 28 = m.2.1 28 := rfl
  rw [hB]
  by_cases h1 : lexK (m.2.1 28) L i = 273
  · have hW := (lexK_w (B := m.2.1 28) (L := L) (i := i) (w := 13) (by decide)).mp h1
    obtain ⟨hE, hlet⟩ := isW_end (by decide) hW
    have hE : lexE (m.2.1 28) L i = i + 3 := hE
    have hl : i < L := by
      by_cases z : i < L
      · exact z
      · rw [lB_out i (by omega)] at hlet
        cases hlet
    have hE2 := lexE_gt (B := m.2.1 28) hl
    rw [if_pos h1, if_neg (show ¬ (1 : Int32) = 0 by decide)]
    by_cases h12 : c = 12
    · subst h12
      have cO : f_X5_openClause F (nI 12) (tpa x (nI t) 0) = some (0, tpa x (nI t) (nI (1 + 8 * i + 4))) := by
        unfold f_X5_openClause
        rw [s_kind hx ha, bd_some, if_pos h1, if_neg (by decide), s_fail hx ha, bd_some, if_pos (Or.inl rfl), show (1 : Int32) + 8 * nI i + 4 = nI (1 + 8 * i + 4) from flt (k := 4)]
      rw [if_pos (show nI 12 = 12 from rfl), s_fails, bd_some, if_pos rfl, show (1 : Int32) + 8 * nI i + 4 = nI (1 + 8 * i + 4) from flt (k := 4)]
      refine Or.inl ⟨1 + 8 * i + 4, i, _, _, _, _, nI t, so, nu, op, sa, ta, ea, rus (ycl y (nI 12) sf su te) (nI len) (nI u) st, by omega, by omega, by omega, FrS.rf, FrS.rf, Fr12.rf, Fr12.rf, Fr12.rf, fun k => ?_, rfl⟩
      show b_X5_read_10 F k _ = _
      rw [cS k, cO, bd_some, if_pos rfl]
      rfl
    · have hcl : c < 12 := by omega
      have hne : ¬ nI c = 12 := fun z => h12 (by
        have := congrArg Int32.toInt z
        rw [nI_toInt (by omega), show (12 : Int32).toInt = 12 from by decide] at this
        omega)
      have cO : f_X5_openClause F (nI c) (tpa x (nI t) 0) = some (1, tpa x (nI (t + 1)) 0) := by
        unfold f_X5_openClause
        rw [s_kind hx ha, bd_some, if_pos h1, if_pos (show nI c < 12 from by
          rw [Int32.lt_iff_toInt_lt, nI_toInt (by omega), show (12 : Int32).toInt = 12 from by decide]
          omega), s_skip hx ha hl, bd_some]
      have hAt := (ha.at hx).2.2.2 hl
      rw [hE] at hAt hE2
      have hsk := sk_ge (B := m.2.1 28) (L := L) (p := i + 3) (by omega)
      rw [if_neg hne, if_pos (ib_n (show 12 * s + c < 72 by omega) (by decide)), nI_clamp (by omega), show (3 : Int32) = nI 3 from rfl, nI_add, show (ps (mcl m sa ta ea) (nI i) 0 (nI len) (nI 0) (nI u) o so nu op).2.1 32 = sa from rfl, show (ps (mcl m sa ta ea) (nI i) 0 (nI len) (nI 0) (nI u) o so nu op).1 23 = nI len from rfl, ps_32]
      rcases sum_all (y := ycl y (nI c) sf su te) (d := nI 0) (o := o) (op := op) (hr.cl (sa := upd sa (12 * s + c) (nI len)) (ta := ta) (ea := ea)) hF6 hx hAt (by omega) rfl hu hc (by omega) with hq | hq
      · obtain ⟨φ, p2, e2, c2, t2, so2, nu2, ru2, a1, a2, a3, a4, a5, a6, a7⟩ := hq
        have hφ : ¬ nI φ = 0 := nI_ne0 a1 (by omega)
        rw [a7, bd_some, show ∀ (M : OB), (ps M (nI p2) (nI φ) e2 (nI 0) c2 o so2 nu2 op).1 20 = nI φ from fun _ => rfl, if_neg hφ, ps_33, e_104 (by omega)]
        refine Or.inl ⟨φ, p2, e2, _, c2, o, t2, so2, nu2, op, _, _, _, ru2, a1, a2, by omega, a4, a5, Fr12.rf.up hcl, Fr12.rf.up hcl, Fr12.rf.up hcl, fun k => ?_, rfl⟩
        show b_X5_read_10 F k _ = _
        rw [cS k, cO, bd_some, if_neg (show ¬ (1 : Int32) = 0 by decide), a6, bd_some, if_pos rfl]
        rfl
      · obtain ⟨i2, t2, u2, len2, st2, so2, nu2, a1, a2, a3, a4, a5, a6, a7, a8, a9, a10, a11, a12, a13⟩ := hq
        have hi2 := a1.2.1
        have hs2 := at_sk hx a1
        rw [a13, bd_some, show ∀ (M : OB), (ps M (nI i2) 0 (nI len2) (nI 0) (nI u2) o so2 nu2 op).1 20 = 0 from fun _ => rfl, if_pos rfl, show ∀ (M : OB), (ps M (nI i2) 0 (nI len2) (nI 0) (nI u2) o so2 nu2 op).1 23 = nI len2 from fun _ => rfl, show ∀ (A : Nat → Int32), (ps (mcl m A ta ea) (nI i2) 0 (nI len2) (nI 0) (nI u2) o so2 nu2 op).2.1 33 = ta from fun _ => rfl, ps_33, s_takes (hr.cl) hF6 hi2 hs2 (w := 14) (k := 274) (by decide) rfl]
        have hB2 : ∀ A B C : Nat → Int32, (mcl m A B C).2.1 28 = m.2.1 28 := fun _ _ _ => rfl
        rw [hB2]
        by_cases h2 : lexK (m.2.1 28) L i2 = 274
        · have hW2 := (lexK_w (B := m.2.1 28) (L := L) (i := i2) (w := 14) (by decide)).mp h2
          obtain ⟨hG, hlet2⟩ := isW_end (by decide) hW2
          have hG : lexE (m.2.1 28) L i2 = i2 + 2 := hG
          have hl2 : i2 < L := by
            by_cases z : i2 < L
            · exact z
            · rw [lB_out i2 (by omega)] at hlet2
              cases hlet2
          have hG2 := lexE_gt (B := m.2.1 28) hl2
          have hAt2 := (a1.at hx).2.2.2 hl2
          rw [hG] at hAt2 hG2
          have hsk2 := sk_ge (B := m.2.1 28) (L := L) (p := i2 + 2) (by omega)
          rw [if_pos h2, bd_some, if_neg (show ¬ (1 : Int32) = 0 by decide), show xl 14 = 2 from rfl]
          rcases test_all (y := ycl y (nI c) sf su te) (o := o) (op := op) (hr.cl (sa := upd sa (12 * s + c) (nI len)) (ta := upd ta (12 * s + c) (nI len2)) (ea := ea)) hF hx hAt2 (by omega) rfl a4 a7 (by omega) with hv | hv
          · obtain ⟨φ, p3, e3, d3, c3, o3, t3, so3, nu3, op3, ru3, b1, b2, b3, b4, b5, b6, b7⟩ := hv
            rw [b7, bd_some, e_104 (by omega)]
            refine Or.inl ⟨φ, p3, e3, d3, c3, o3, t3, so3, nu3, op3, _, _, _, ru3, b1, b2, b3, a8.tr b4, a9.tr b5, Fr12.rf.up hcl, Fr12.rf.up hcl, Fr12.rf.up hcl, fun k => ?_, rfl⟩
            show b_X5_read_10 F k _ = _
            rw [cS k, cO, bd_some, if_neg (show ¬ (1 : Int32) = 0 by decide), a12, bd_some, if_neg (show ¬ (1 : Int32) = 0 by decide), s_take hx a1 (by decide), if_pos h2, bd_some, if_neg (show ¬ (1 : Int32) = 0 by decide), b6, bd_some, if_pos rfl]
          · obtain ⟨i3, t3, u3, len3, st3, so3, nu3, op3, b1, b2, b3, b4, b5, b6, b7, b8, b9, b10, b11, b12, b13⟩ := hv
            rw [b13, bd_some, e_104 (by omega)]
            refine Or.inr ⟨len2, i3, t3, u3, len3, nI 0, st3, so3, nu3, op3, b1, by omega, by omega, b4, b5, a6, by omega, b7, a8.tr b8, a9.tr b9, fun j hj => (b10 j (by omega)).trans (a10 j hj), a11.cg (fun j _ hj => b10 j hj), fun _ => b11, hcl, fun k => ?_, rfl⟩
            show b_X5_read_10 F k _ = _
            rw [cS k, cO, bd_some, if_neg (show ¬ (1 : Int32) = 0 by decide), a12, bd_some, if_neg (show ¬ (1 : Int32) = 0 by decide), s_take hx a1 (by decide), if_pos h2, bd_some, if_neg (show ¬ (1 : Int32) = 0 by decide), b12, bd_some, if_neg (show ¬ (1 : Int32) = 0 by decide)]
            rfl
        · rw [if_neg h2, bd_some, if_pos rfl, e_104 (by omega)]
          refine Or.inr ⟨len2, i2, t2, u2, len2, o, st2, so2, nu2, op, a1, by omega, a3, a4, by omega, a6, Nat.le_refl _, a7, a8, a9, a10, a11, fun z => absurd z (Nat.lt_irrefl _), hcl, fun k => ?_, rfl⟩
          show b_X5_read_10 F k _ = _
          rw [cS k, cO, bd_some, if_neg (show ¬ (1 : Int32) = 0 by decide), a12, bd_some, if_neg (show ¬ (1 : Int32) = 0 by decide), s_take hx a1 (by decide), if_neg h2, bd_some, if_pos rfl]
          rfl
  · have cO : f_X5_openClause F (nI c) (tpa x (nI t) 0) = some (0, tpa x (nI t) (nI (1 + 8 * i + 0))) := by
      unfold f_X5_openClause
      rw [s_kind hx ha, bd_some, if_neg h1, s_fail hx ha, bd_some, if_pos (Or.inl rfl), show (1 : Int32) + 8 * nI i + 0 = nI (1 + 8 * i + 0) from flt (k := 0)]
    rw [if_neg h1, if_pos rfl, s_fails, bd_some, if_pos rfl, show (1 : Int32) + 8 * nI i + 0 = nI (1 + 8 * i + 0) from flt (k := 0)]
    refine Or.inl ⟨1 + 8 * i + 0, i, _, _, _, _, nI t, so, nu, op, sa, ta, ea, rus (ycl y (nI c) sf su te) (nI len) (nI u) st, by omega, by omega, by omega, FrS.rf, FrS.rf, Fr12.rf, Fr12.rf, Fr12.rf, fun k => ?_, rfl⟩
    show b_X5_read_10 F k _ = _
    rw [cS k, cO, bd_some, if_pos rfl]
    rfl
end CLA
end
section
/-! a rule, pure: all clauses by both -/
section RLO
variable {F : Nat} {m x y : OB} {L s n : Nat}
/-- both refuse the rule with the same fault -/
noncomputable def BadR (m x : OB) (s : Nat) (so nu sa ta ea : Nat → Int32) (rc : Option (Int32 × OB × OB)) (rr : Option (Int32 × OB)) : Prop := ∃ (φ : Nat) (p2 k2 e2 d2 c2 o2 t2 : Int32) (so2 nu2 op2 sa2 ta2 ea2 : Nat → Int32) (ru2 : OB), 0 < φ ∧ φ < 4000 ∧ FrS s so so2 ∧ FrS s nu nu2 ∧ Fr12 s sa sa2 ∧ Fr12 s ta ta2 ∧ Fr12 s ea ea2 ∧ rc = some (0, tpa x t2 (nI φ), ru2) ∧ rr = some (-2 - nI φ, finR (ps (mcl m sa2 ta2 ea2) p2 (nI φ) e2 d2 c2 o2 so2 nu2 op2) s k2 (nI s))
/-- both take the rule with the same clauses -/
noncomputable def GoodR (m x y : OB) (s : Nat) (so nu sa ta ea : Nat → Int32) (rc : Option (Int32 × OB × OB)) (rr : Option (Int32 × OB)) : Prop := ∃ (c2 len2 : Nat) (p2 o2 u2 t2 : Int32) (st2 so2 nu2 op2 sf2 su2 te2 sa2 ta2 ea2 : Nat → Int32), 0 < c2 ∧ c2 ≤ 12 ∧ len2 ≤ 280 ∧ ClT s c2 len2 st2 sf2 su2 te2 sa2 ta2 ea2 ∧ CE s len2 st2 so2 nu2 ∧ FrS s so so2 ∧ FrS s nu nu2 ∧ Fr12 s sa sa2 ∧ Fr12 s ta ta2 ∧ Fr12 s ea ea2 ∧ rc = some (1, tpa x t2 0, rus (ycl y (nI c2) sf2 su2 te2) (nI len2) u2 st2) ∧ rr = some (nI s, finR (ps (mcl m sa2 ta2 ea2) p2 0 (nI len2) (nI 0) u2 o2 so2 nu2 op2) s (nI c2) (nI (s + 1)))
theorem rule_loop (hr : RB m L s) (hF : 1000 ≤ F) (hx : TX (m.2.1 28) L x n) (h22 : m.1 22 = nI s) : ∀ (N c i t p u len fc g : Nat) (o : Int32) (st so nu op sf su te sa ta ea : Nat → Int32), c + N = 13 → c ≤ 12 → At L x n t i → p ≤ L → sk (m.2.1 28) L p = i → u ≤ 60 → CE s len st so nu → 3 * len ≤ 14 * u → ClT s c len st sf su te sa ta ea → N ≤ fc → N + 1 ≤ g →
    BadR m x s so nu sa ta ea (lp (b_X5_read_10 F) fc (nI c, tpa x (nI t) 0, rus (ycl y (nI c) sf su te) (nI len) (nI u) st)) (lp (b_X9_rule_27 F) g (nI c, 1, ps (mcl m sa ta ea) (nI p) 0 (nI len) (nI 0) (nI u) o so nu op))
    ∨ GoodR m x y s so nu sa ta ea (lp (b_X5_read_10 F) fc (nI c, tpa x (nI t) 0, rus (ycl y (nI c) sf su te) (nI len) (nI u) st)) (lp (b_X9_rule_27 F) g (nI c, 1, ps (mcl m sa ta ea) (nI p) 0 (nI len) (nI 0) (nI u) o so nu op)) := by
  have h4 := hr.2.1
  have hs6 := hr.2.2.2.2.1
  have hF6 : 600 ≤ F := by omega
  intro N
  induction N with
  | zero =>
    intros
    omega
  | succ N ih =>
    intro c i t p u len fc g o st so nu op sf su te sa ta ea hcN hc12 ha hp hk hu hc hb hT hfc hg
    obtain ⟨f1, rfl⟩ : ∃ f1, fc = f1 + 1 := ⟨fc - 1, by omega⟩
    obtain ⟨g1, rfl⟩ : ∃ g1, g = g1 + 1 + 1 := ⟨g - 2, by omega⟩
    have rS : ∀ M : OB, lp (b_X9_rule_27 F) (g1 + 1 + 1) (nI c, 1, M) = Option.bind (f_X9_ruleClause F (nI c) M) (fun q5 => Option.bind (f_X9_goesOn F q5) (fun q6 => lp (b_X9_rule_27 F) (g1 + 1) (nI c + 1, q6.1, q6.2))) := fun M => by
      rw [lp_S, b_X9_rule_27]
      try dsimp only
      rw [if_neg (show ¬ (1 : Int32) = 0 by decide)]
    have cS : ∀ A, lp (b_X5_read_10 F) (f1 + 1) A = b_X5_read_10 F (lp (b_X5_read_10 F) f1) A := fun A => lp_S _ _ A
    rcases cl_all (y := y) (o := o) (op := op) (sf := sf) (su := su) (te := te) (sa := sa) (ta := ta) (ea := ea) hr hF hx ha hp hk hc12 hu hc hb with hq | hq
    · obtain ⟨φ, p2, e2, d2, c2, o2, t2, so2, nu2, op2, sa2, ta2, ea2, ru2, a1, a2, a3, a4, a5, a6, a7, a8, a9, a10⟩ := hq
      obtain ⟨p3, hg3⟩ := g_goes (F := F) (m := mcl m sa2 ta2 ea2) (p := p2) (f := nI φ) (e := e2) (d := d2) (c := c2) (o := o2) (so := so2) (nu := nu2) (op := op2) hr.cl hF6 (nI_ne0 a1 (by omega)) a3
      have z := a9 (lp (b_X5_read_10 F) f1)
      refine Or.inl ⟨φ, p3, nI c + 1, e2, d2, c2, o2, t2, so2, nu2, op2, sa2, ta2, ea2, ru2, a1, a2, a4, a5, a6, a7, a8, (cS _).trans z, ?_⟩
      rw [rS, a10, bd_some, hg3, bd_some]
      exact r_endφ hr.2.2.2.1 hs6 h22 rfl a1 a2
    · obtain ⟨lb, i2, t2, u2, len2, o2, st2, so2, nu2, op2, a1, a2, a3, a4, a5, a6, a7, a8, a9, a10, a11, a12, a13, a14, a15, a16⟩ := hq
      have hi2 := a1.2.1
      have hs2 := at_sk hx a1
      have z := (cS _).trans (a15 (lp (b_X5_read_10 F) f1))
      unfold b_X5_read_66 at z
      rw [s_close a14, bd_some, s_kind hx a1, bd_some, s_take hx a1 (by decide)] at z
      have w := s_goes (F := F) (m := mcl m (upd sa (12 * s + c) (nI len)) (upd ta (12 * s + c) (nI lb)) (upd ea (12 * s + c) (nI len2))) (p := i2) (i := i2) (e := nI len2) (d := nI 0) (c := nI u2) (o := o2) (so := so2) (nu := nu2) (op := op2) hr.cl hF6 hi2 hs2
      rw [show ∀ A B C : Nat → Int32, (mcl m A B C).2.1 28 = m.2.1 28 from fun _ _ _ => rfl] at w
      have hT2 := hT.app a11 a6 a7 (Nat.le_refl _) a12 a13
      have hs59 := lexK_s (B := m.2.1 28) (L := L) (i := i2) (x := 59) (by decide)
      by_cases h1 : i2 = L
      · rw [if_pos ((lexK_E hi2).mpr h1)] at z
        rw [if_pos h1] at w
        refine Or.inr ⟨c + 1, len2, nI (i2 + 1), o2, nI u2, nI t2, st2, so2, nu2, op2, _, _, _, _, _, _, by omega, by omega, by omega, hT2, a8, a9, a10, Fr12.rf.up a14, Fr12.rf.up a14, Fr12.rf.up a14, z, ?_⟩
        rw [rS, a16, bd_some, w, bd_some, nI_1]
        exact r_end0 hr.2.2.2.1 hs6 h22 rfl
      · rw [if_neg (fun q => h1 ((lexK_E hi2).mp q))] at z
        rw [if_neg h1] at w
        by_cases h59 : cb (m.2.1 28) L i2 = 59
        · obtain ⟨hE, hl⟩ := lexE_s (by decide) h59
          have hAt := (a1.at hx).2.2.2 hl
          rw [hE] at hAt
          have hsk := sk_ge (B := m.2.1 28) (L := L) (p := i2 + 1) (by omega)
          rw [if_pos (hs59.mpr h59), bd_some] at z
          try dsimp only at z
          rw [if_neg (show ¬ (1 : Int32) = 0 by decide), nI_1] at z
          rw [if_pos h59] at w
          rw [z, rS, a16, bd_some, w, bd_some, nI_1]
          rcases ih (c + 1) (sk (m.2.1 28) L (i2 + 1)) (t2 + 1) (i2 + 1) u2 len2 f1 (g1 + 1) o2 st2 so2 nu2 op2 _ _ _ _ _ _ (by omega) (by omega) hAt (by omega) rfl a4 a8 a5 hT2 (by omega) (by omega) with hv | hv
          · obtain ⟨φ, p5, k5, e5, d5, c5, o5, t5, so5, nu5, op5, sa5, ta5, ea5, ru5, b1, b2, b3, b4, b5, b6, b7, b8, b9⟩ := hv
            exact Or.inl ⟨φ, p5, k5, e5, d5, c5, o5, t5, so5, nu5, op5, sa5, ta5, ea5, ru5, b1, b2, a9.tr b3, a10.tr b4, (Fr12.rf.up a14).tr b5, (Fr12.rf.up a14).tr b6, (Fr12.rf.up a14).tr b7, b8, b9⟩
          · obtain ⟨c5, len5, p5, o5, u5, t5, st5, so5, nu5, op5, sf5, su5, te5, sa5, ta5, ea5, b1, b2, b3, b4, b5, b6, b7, b8, b9, b10, b11, b12⟩ := hv
            exact Or.inr ⟨c5, len5, p5, o5, u5, t5, st5, so5, nu5, op5, sf5, su5, te5, sa5, ta5, ea5, b1, b2, b3, b4, b5, a9.tr b6, a10.tr b7, (Fr12.rf.up a14).tr b8, (Fr12.rf.up a14).tr b9, (Fr12.rf.up a14).tr b10, b11, b12⟩
        · have e1 : (1 : Int32) + 8 * nI i2 + 0 = nI (1 + 8 * i2 + 0) := flt (k := 0)
          rw [if_neg (fun q => h59 (hs59.mp q)), bd_some] at z
          try dsimp only at z
          rw [if_pos rfl, s_fail hx a1, bd_some, if_pos (Or.inl rfl), e1] at z
          rw [if_neg h59, e1] at w
          refine Or.inl ⟨1 + 8 * i2 + 0, nI (i2 + 1), nI c + 1, nI len2, nI 0, nI u2, o2, nI t2, so2, nu2, op2, upd sa (12 * s + c) (nI len), upd ta (12 * s + c) (nI lb), upd ea (12 * s + c) (nI len2), rus (ycl y (nI (c + 1)) (upd sf c (nI len)) (upd su c (nI lb)) (upd te c (nI len2))) (nI len2) (nI u2) st2, by omega, by omega, a9, a10, Fr12.rf.up a14, Fr12.rf.up a14, Fr12.rf.up a14, z, ?_⟩
          rw [rS, a16, bd_some, w, bd_some]
          exact r_endφ hr.2.2.2.1 hs6 h22 rfl (by omega) (by omega)
end RLO
end
section
/-! a rule, pure: the whole of both readers -/
noncomputable def mru (mo : OB) (s : Nat) : OB := (uF mo.1 21 (nI s), mo.2.1, mo.2.2)
theorem rule_all {F : Nat} {tp ru mo : OB} {L s : Nat} (hF : 1000 ≤ F) (h1 : tp.1 1 = nI L) (h18 : mo.1 18 = nI L) (h4 : L ≤ 400) (hby : ∀ i, -128 ≤ (mo.2.1 28 i).toInt ∧ (mo.2.1 28 i).toInt ≤ 127) (h22 : mo.1 22 = nI s) (hs : s < 6) (h27 : mo.1 27 = 11) (hB : tp.2.1 0 = mo.2.1 28) : ∃ (n : Nat) (K P V : Nat → Int32), BadR (mru mo s) (tcs tp n K P V) s (mo.2.1 29) (mo.2.1 30) (mo.2.1 32) (mo.2.1 33) (mo.2.1 34) (f_X5_read F tp ru) (f_X9_rule F mo) ∨ GoodR (mru mo s) (tcs tp n K P V) ru s (mo.2.1 29) (mo.2.1 30) (mo.2.1 32) (mo.2.1 33) (mo.2.1 34) (f_X5_read F tp ru) (f_X9_rule F mo) := by
  obtain ⟨n, K, P, V, e1, hn, hT⟩ := s_cutUp (F := F) (tp := tp) (by omega) h1 h4
  rw [hB] at hT
  have hr : RB (mru mo s) L s := ⟨h18, h4, hby, rfl, hs, h27⟩
  have hx : TX ((mru mo s).2.1 28) L (tcs tp n K P V) n := ⟨h1, rfl, h4, by omega, hT⟩
  have ha : At L (tcs tp n K P V) n 0 (sk ((mru mo s).2.1 28) L 0) := ⟨hT.1, sk_le (Nat.zero_le _), hT.2.1⟩
  have cR : f_X5_read F tp ru = lp (b_X5_read_10 F) F (nI 0, tpa (tcs tp n K P V) (nI 0) 0, rus (ycl ru (nI 0) (ru.2.1 1) (ru.2.1 2) (ru.2.1 3)) (nI 0) (nI 0) (ru.2.1 0)) := by
    unfold f_X5_read
    rw [e1, bd_some, s_clear, bd_some, tpa_id (x := tcs tp n K P V) (t := nI 0) (f := 0) rfl rfl]
    rfl
  have hne : ¬ nI s = 6 := fun z => by
    have := congrArg Int32.toInt z
    rw [nI_toInt (by omega), show (6 : Int32).toInt = 6 from by decide] at this
    omega
  have rR : f_X9_rule F mo = lp (b_X9_rule_27 F) F (nI 0, 1, ps (mcl (mru mo s) (mo.2.1 32) (mo.2.1 33) (mo.2.1 34)) (nI 0) 0 (nI 0) (nI 0) (nI 0) (mo.1 26) (mo.2.1 29) (mo.2.1 30) (mo.2.1 35)) := by
    unfold f_X9_rule f_X9_starts
    rw [h22, if_neg hne, bd_some]
    unfold ps mcl mru
    try dsimp only
    rw [uF_id (f := mo.2.1) (i := 32), uF_id (f := mo.2.1) (i := 33), uF_id (f := mo.2.1) (i := 34), uF_id (f := mo.2.1) (i := 29), uF_id (f := mo.2.1) (i := 30), uF_id (f := mo.2.1) (i := 35), show mo.1 26 = (uF (uF (uF (uF (uF (uF mo.1 21 (nI s)) 19 (nI 0)) 20 0) 23 (nI 0)) 24 (nI 0)) 25 (nI 0)) 26 from rfl, uF_id]
    rfl
  refine ⟨n, K, P, V, ?_⟩
  rw [cR, rR]
  exact rule_loop hr hF hx h22 13 0 _ 0 0 0 0 F F _ _ _ _ _ _ _ _ _ _ _ rfl (by omega) ha (Nat.zero_le _) rfl (by omega) (fun j hj => absurd hj (Nat.not_lt_zero _)) (by omega) (fun j hj => absurd hj (Nat.not_lt_zero _)) (by omega) (by omega)
end
section
/-! no more values than units: the class's reader -/
noncomputable def nvS (st : Nat → Int32) : Nat → Nat
  | 0 => 0
  | n + 1 => nvS st n + (if vaK (st n) then 1 else 0)
theorem nvS_cg {st st2 : Nat → Int32} : ∀ n, (∀ j, j < n → st2 j = st j) → nvS st2 n = nvS st n
  | 0, _ => rfl
  | n + 1, h => by
    show nvS st2 n + (if vaK (st2 n) then 1 else 0) = nvS st n + (if vaK (st n) then 1 else 0)
    rw [nvS_cg n (fun j hj => h j (by omega)), h n (by omega)]
theorem nvS_up {st : Nat → Int32} {n : Nat} {k : Int32} : nvS (upd st n k) (n + 1) = nvS st n + (if vaK k then 1 else 0) := by
  show nvS (upd st n k) n + (if vaK (upd st n k n) then 1 else 0) = _
  rw [nvS_cg n (fun j hj => pk_un (by omega)), pk_us]
noncomputable def UVm (m : Nat) (ru : OB) : Prop := ∃ (y : OB) (len u : Nat) (st : Nat → Int32), ru = rus y (nI len) (nI u) st ∧ len ≤ 400 ∧ u ≤ 60 ∧ nvS st len + m ≤ u
abbrev UV (ru : OB) : Prop := UVm 0 ru
theorem UV_add {F : Nat} {ru R : OB} {k : Int32} {m : Nat} (h : UVm m ru) (hm : ¬ vaK k ∨ 1 ≤ m) (e : f_X4_add F k ru = some R) : UV R := by
  obtain ⟨y, len, u, st, rfl, h1, h2, h3⟩ := h
  by_cases hl : len < 400
  · rw [s_add hl] at e
    cases e
    refine ⟨y, len + 1, u, upd st len k, rfl, by omega, h2, ?_⟩
    rw [nvS_up]
    by_cases hk : vaK k
    · rw [if_pos hk]
      have := hm.resolve_left (fun z => z hk)
      omega
    · rw [if_neg hk]
      omega
  · unfold f_X4_add b_X4_add_30 at e
    rw [show (rus y (nI len) (nI u) st).1 5 = nI len from rfl, if_pos (show (400 : Int32) ≤ nI len from nI_le (a := 400) (b := len) (by omega) (by omega))] at e
    cases e
    exact ⟨y, len, u, st, rfl, h1, h2, by omega⟩
noncomputable def Pv (o : Option (Int32 × OB × OB)) : Prop := ∀ r T R, o = some (r, T, R) → UV R
theorem Pv.bind {α : Type} {o : Option α} {g : α → Option (Int32 × OB × OB)} (h : ∀ q, o = some q → Pv (g q)) : Pv (Option.bind o g) := by
  cases o with
  | none =>
    intro r T R e
    cases e
  | some q => exact h q rfl
theorem Pv.ite {c : Prop} [Decidable c] {a b : Option (Int32 × OB × OB)} (h1 : c → Pv a) (h2 : ¬ c → Pv b) : Pv (if c then a else b) := by
  by_cases e : c
  · rw [if_pos e]
    exact h1 e
  · rw [if_neg e]
    exact h2 e
theorem Pv.so {r : Int32} {T R : OB} (h : UV R) : Pv (some (r, T, R)) := by
  intro r2 T2 R2 e
  cases e
  exact h
theorem Pv.no : Pv none := by
  intro r T R e
  cases e
section UNI
variable {F : Nat} {tp ru : OB}
theorem pv_fl {k : Int32} (h : UV ru) : Pv (Option.bind (f_X7_fail F k tp) (fun q => (if bo q.1 then (some (q.1, q.2, ru)) else none))) := Pv.bind (fun q _ => Pv.ite (fun _ => Pv.so h) (fun _ => Pv.no))
theorem UV_unit (h : UV ru) (h60 : ru.1 7 < 60) : UVm 1 (uF ru.1 7 (ru.1 7 + 1), ru.2.1, ru.2.2) := by
  obtain ⟨y, len, u, st, rfl, h1, h2, h3⟩ := h
  have h60 : nI u < 60 := h60
  have hu := (l60 (by omega)).mp h60
  refine ⟨y, len, u + 1, st, ?_, h1, by omega, by omega⟩
  rw [show (rus y (nI len) (nI u) st).1 7 = nI u from rfl, nI_1]
  exact rus_u
theorem pv_55 {v2 v3 : Int32} (h : UV ru) : Pv (b_X5_readValue_55 F v2 v3 tp ru) := by
  unfold b_X5_readValue_55 b_X5_readValue_101
  exact Pv.ite (fun c => Pv.bind (fun q _ => Pv.ite (fun _ => Pv.bind (fun q3 e => Pv.so (UV_add (UV_unit h c) (Or.inr (Nat.le_refl _)) e))) (fun _ => Pv.bind (fun q3 e => Pv.so (UV_add (UV_unit h c) (Or.inr (Nat.le_refl _)) e))))) (fun _ => pv_fl h)
theorem pv_value (h : UV ru) : Pv (f_X5_readValue F tp ru) := by
  have h37 : ∀ v2 v3, Pv (b_X5_readValue_37 F v2 v3 tp ru) := fun v2 v3 => by
    unfold b_X5_readValue_37
    exact Pv.ite (fun _ => Pv.ite (fun _ => pv_fl h) (fun _ => pv_55 h)) (fun _ => pv_55 h)
  unfold f_X5_readValue b_X5_readValue_31
  exact Pv.bind (fun q _ => Pv.bind (fun q2 _ => Pv.ite (fun _ => h37 _ _) (fun _ => Pv.ite (fun _ => pv_fl h) (fun _ => Pv.ite (fun _ => h37 _ _) (fun _ => pv_fl h)))))
theorem oneOf {a b c r : Int32} {T : OB} (e : f_X5_takeOneOf F a b c tp = some (r, T)) : r = a ∨ r = b ∨ r = c ∨ r = -1 := by
  unfold f_X5_takeOneOf b_X5_takeOneOf_26 at e
  cases h1 : f_X7_kind F tp with
  | none =>
    rw [h1] at e
    cases e
  | some k =>
    rw [h1, bd_some] at e
    have tk : ∀ {r : Int32} {T : OB}, Option.bind (f_X7_skip F tp) (fun q1 => some (k, q1)) = some (r, T) → r = k := fun {r T} z => by
      cases h2 : f_X7_skip F tp with
      | none =>
        rw [h2] at z
        cases z
      | some q =>
        rw [h2, bd_some] at z
        cases z
        rfl
    by_cases c1 : k = a
    · rw [if_pos c1] at e
      exact Or.inl ((tk e).trans c1)
    · rw [if_neg c1] at e
      by_cases c2 : k = b
      · rw [if_pos c2] at e
        exact Or.inr (Or.inl ((tk e).trans c2))
      · rw [if_neg c2] at e
        by_cases c3 : k = c
        · rw [if_pos c3] at e
          exact Or.inr (Or.inr (Or.inl ((tk e).trans c3)))
        · rw [if_neg c3] at e
          cases e
          exact Or.inr (Or.inr (Or.inr rfl))
theorem op_m {r : Int32} {T : OB} (e : f_X5_takeOneOf F 42 47 37 tp = some (r, T)) : ¬ vaK r := by
  rcases oneOf e with z | z | z | z <;> rw [z] <;> decide
theorem op_a {r : Int32} {T : OB} (e : f_X5_takeOneOf F 43 45 45 tp = some (r, T)) : ¬ vaK r := by
  rcases oneOf e with z | z | z | z <;> rw [z] <;> decide
theorem pv_sumL : ∀ (g : Nat) (v2 v3 v4 : Int32) (tp ru : OB), UV ru → ¬ vaK v2 → ¬ vaK v3 → Pv (lp (b_X5_readSum_7 F) g (v2, v3, v4, tp, ru))
  | 0, _, _, _, _, _, _, _, _ => Pv.no
  | g + 1, v2, v3, v4, tp, ru, h, h2, h3 => by
    have ih := pv_sumL g
    have h61 : ∀ {v3 v4 : Int32} {tp ru : OB}, UV ru → ¬ vaK v3 → Pv (b_X5_readSum_61 F (lp (b_X5_readSum_7 F) g) v3 v4 tp ru) := fun {v3 v4 tp ru} h h3 => by
      unfold b_X5_readSum_61 b_X5_readSum_79
      exact Pv.bind (fun q e => Pv.ite (fun _ => Pv.so h) (fun _ => ih _ _ _ _ _ h (op_a (r := q.1) (T := q.2) e) h3))
    have h35 : ∀ {v2 v4 : Int32} {tp ru : OB}, UV ru → ¬ vaK v2 → Pv (b_X5_readSum_35 F (lp (b_X5_readSum_7 F) g) v2 v4 tp ru) := fun {v2 v4 tp ru} h h2 => by
      unfold b_X5_readSum_35 b_X5_readSum_79
      exact Pv.bind (fun q e => Pv.ite (fun _ => Pv.ite (fun _ => h61 h (op_m (r := q.1) (T := q.2) e)) (fun _ => Pv.bind (fun q6 e6 => h61 (UV_add h (Or.inl h2) e6) (op_m (r := q.1) (T := q.2) e)))) (fun _ => ih _ _ _ _ _ h h2 (op_m (r := q.1) (T := q.2) e)))
    rw [lp_S, b_X5_readSum_7]
    exact Pv.ite (fun _ => Pv.so h) (fun _ => Pv.bind (fun q e => by
      have hq := pv_value h q.1 q.2.1 q.2.2 e
      exact Pv.ite (fun _ => Pv.so hq) (fun _ => Pv.ite (fun _ => h35 hq h2) (fun _ => Pv.bind (fun q11 e11 => h35 (UV_add hq (Or.inl h3) e11) h2)))))
theorem pv_sum (h : UV ru) : Pv (f_X5_readSum F tp ru) := pv_sumL F _ _ _ _ _ h (by decide) (by decide)
theorem UV_unit0 (h : UV ru) (h60 : ru.1 7 < 60) : UV (uF ru.1 7 (ru.1 7 + 1), ru.2.1, ru.2.2) := by
  obtain ⟨y, len, u, st, e, h1, h2, h3⟩ := UV_unit h h60
  exact ⟨y, len, u, st, e, h1, h2, by omega⟩
theorem pv_53 {v2 : Int32} {tp ru : OB} (h : UV ru) (hv : ¬ vaK v2) : Pv (b_X5_readComparison_53 F v2 tp ru) := by
  unfold b_X5_readComparison_53
  exact Pv.ite (fun c => Pv.bind (fun q2 _ => Pv.bind (fun q3 e3 => by
    have hq := pv_sum (UV_unit0 h c) q3.1 q3.2.1 q3.2.2 e3
    exact Pv.ite (fun _ => Pv.so hq) (fun _ => Pv.bind (fun q5 e5 => Pv.so (UV_add hq (Or.inl hv) e5)))))) (fun _ => pv_fl h)
theorem pv_cmp (h : UV ru) : Pv (f_X5_readComparison F tp ru) := by
  unfold f_X5_readComparison
  exact Pv.bind (fun q e => by
    have hq := pv_sum h q.1 q.2.1 q.2.2 e
    exact Pv.ite (fun _ => Pv.so hq) (fun _ => Pv.bind (fun q10 _ => Pv.ite (fun c => pv_53 hq (by rw [c]; decide)) (fun _ => Pv.ite (fun c => pv_53 hq (by rw [c]; decide)) (fun _ => Pv.ite (fun c => pv_53 hq (by rw [c]; decide)) (fun _ => Pv.ite (fun c => pv_53 hq (by rw [c]; decide)) (fun _ => Pv.ite (fun c => pv_53 hq (by rw [c]; decide)) (fun _ => pv_fl hq))))))))
abbrev PvF (g : Nat → Int32 → OB → OB → Option (Int32 × OB × OB)) : Prop := ∀ (F : Nat) (x : Int32) (tp ru : OB), UV ru → Pv (g F x tp ru)
theorem pv_testL {gF : Nat → Int32 → OB → OB → Option (Int32 × OB × OB)} (hg : PvF gF) : ∀ (g : Nat) (v2 v3 v4 v5 : Int32) (tp ru : OB), UV ru → Pv (lp (b_X5_readTest_o_8 F gF) g (v2, v3, v4, v5, tp, ru))
  | 0, _, _, _, _, _, _, _ => Pv.no
  | g + 1, v2, v3, v4, v5, tp, ru, h => by
    have ih := pv_testL hg g
    have h64 : ∀ {v2 v4 v5 : Int32} {tp ru : OB}, UV ru → Pv (b_X5_readTest_o_64 F gF (lp (b_X5_readTest_o_8 F gF) g) v2 v4 v5 tp ru) := fun {v2 v4 v5 tp ru} h => by
      unfold b_X5_readTest_o_64 b_X5_readTest_o_78
      exact Pv.bind (fun q _ => Pv.ite (fun _ => Pv.so h) (fun _ => ih _ _ _ _ _ _ h))
    have h39 : ∀ {v2 v3 v5 : Int32} {tp ru : OB}, UV ru → Pv (b_X5_readTest_o_39 F gF (lp (b_X5_readTest_o_8 F gF) g) v2 v3 v5 tp ru) := fun {v2 v3 v5 tp ru} h => by
      unfold b_X5_readTest_o_39 b_X5_readTest_o_78
      exact Pv.bind (fun q _ => Pv.ite (fun _ => Pv.ite (fun _ => h64 h) (fun _ => Pv.bind (fun q6 e6 => h64 (UV_add h (Or.inl (by decide)) e6)))) (fun _ => ih _ _ _ _ _ _ h))
    rw [lp_S, b_X5_readTest_o_8]
    exact Pv.ite (fun _ => Pv.so h) (fun _ => Pv.bind (fun q e => by
      have hq := hg F _ _ _ h q.1 q.2.1 q.2.2 e
      exact Pv.ite (fun _ => Pv.so hq) (fun _ => Pv.ite (fun _ => h39 hq) (fun _ => Pv.bind (fun q11 e11 => h39 (UV_add hq (Or.inl (by decide)) e11))))))
theorem pv_test_o {gF : Nat → Int32 → OB → OB → Option (Int32 × OB × OB)} (hg : PvF gF) : PvF (f_X5_readTest_o_ gF) := fun F x tp ru h => pv_testL hg F x 0 0 0 tp ru h
theorem pv_fact_o {gT gF : Nat → Int32 → OB → OB → Option (Int32 × OB × OB)} (hT : PvF gT) (hG : PvF gF) : PvF (fun F x tp ru => f_X5_readFact_o F gT gF x tp ru) := fun F x tp ru h => by
  have h78 : ∀ {tp ru : OB}, UV ru → Pv (b_X5_readFact_o_78 F gT gF tp ru) := fun h => by
    unfold b_X5_readFact_o_78 b_X5_readFact_o_79
    exact Pv.ite (fun _ => Pv.so h) (fun _ => Pv.no)
  have h74 : ∀ {tp ru : OB}, UV ru → Pv (b_X5_readFact_o_74 F gT gF tp ru) := fun h => by
    unfold b_X5_readFact_o_74 b_X5_readFact_o_79
    exact Pv.ite (fun _ => Pv.so h) (fun _ => Pv.no)
  have h24 : ∀ v2 v3, Pv (b_X5_readFact_o_24 F gT gF v2 v3 tp ru) := fun v2 v3 => by
    unfold b_X5_readFact_o_24
    exact Pv.ite (fun _ => Pv.bind (fun q3 _ => Pv.ite (fun _ => Pv.bind (fun q8 e8 => by
      have hq := hT F _ _ _ h q8.1 q8.2.1 q8.2.2 e8
      exact Pv.ite (fun _ => h78 hq) (fun _ => Pv.bind (fun q10 _ => Pv.ite (fun _ => Pv.bind (fun q12 _ => Pv.ite (fun _ => h78 hq) (fun _ => h74 hq))) (fun _ => h74 hq))))) (fun _ => Pv.bind (fun q5 e5 => by
      have hq := hG F _ _ _ h q5.1 q5.2.1 q5.2.2 e5
      exact Pv.ite (fun _ => Pv.so hq) (fun _ => Pv.bind (fun q7 e7 => Pv.so (UV_add hq (Or.inl (by decide)) e7))))))) (fun _ => pv_fl h)
  show Pv (f_X5_readFact_o F gT gF x tp ru)
  unfold f_X5_readFact_o
  exact Pv.bind (fun q _ => Pv.ite (fun _ => h24 _ _) (fun _ => Pv.ite (fun _ => h24 _ _) (fun _ => Pv.bind (fun q19 e => by
    have hq := pv_cmp h q19.1 q19.2.1 q19.2.2 e
    exact Pv.ite (fun _ => Pv.so hq) (fun _ => Pv.no)))))
end UNI
theorem rus_self (R : OB) : R = rus R (R.1 5) (R.1 7) (R.2.1 0) := by
  unfold rus
  rw [uF_id (f := R.2.1) (i := 0), uF_id (f := R.1) (i := 5), uF_id (f := R.1) (i := 7)]
theorem UV_mk {R : OB} {len u : Nat} (h5 : R.1 5 = nI len) (h7 : R.1 7 = nI u) (h1 : len ≤ 400) (h2 : u ≤ 60) (h3 : nvS (R.2.1 0) len ≤ u) : UV R := ⟨R, len, u, R.2.1 0, by rw [← h5, ← h7]; exact rus_self R, h1, h2, h3⟩
theorem UV_of {R : OB} (h : UV R) : ∃ len u : Nat, R.1 5 = nI len ∧ R.1 7 = nI u ∧ len ≤ 400 ∧ u ≤ 60 ∧ nvS (R.2.1 0) len ≤ u := by
  obtain ⟨y, len, u, st, rfl, h1, h2, h3⟩ := h
  exact ⟨len, u, rfl, rfl, h1, h2, h3⟩
theorem UV_close {F : Nat} {a b : Int32} {ru R : OB} (h : UV ru) (e : f_X4_closeClause F a b ru = some R) : UV R := by
  obtain ⟨len, u, e5, e7, h1, h2, h3⟩ := UV_of h
  unfold f_X4_closeClause b_X4_closeClause_52 at e
  by_cases c1 : 12 ≤ ru.1 6
  · rw [if_pos c1] at e
    cases e
    exact h
  · rw [if_neg c1] at e
    by_cases c2 : ib (ru.1 6) 12
    · rw [if_pos c2] at e
      cases e
      exact UV_mk (len := len) (u := u) e5 e7 h1 h2 h3
    · rw [if_neg c2] at e
      cases e
theorem pv_RF : ∀ n, PvF (f_RF n)
  | 0 => fun _ _ _ _ _ => Pv.no
  | n + 1 => pv_fact_o (pv_test_o (pv_RF n)) (pv_RF n)
theorem pv_test {F : Nat} {x : Int32} {tp ru : OB} (h : UV ru) : Pv (f_X5_readTest F x tp ru) := pv_test_o (pv_RF 11) F x tp ru h
theorem pv_readL {F : Nat} : ∀ (g : Nat) (v : Int32) (tp ru : OB), UV ru → Pv (lp (b_X5_read_10 F) g (v, tp, ru))
  | 0, _, _, _, _ => Pv.no
  | g + 1, v, tp, ru, h => by
    have ih := pv_readL (F := F) g
    have h66 : ∀ {v2 v3 v4 : Int32} {tp ru : OB}, UV ru → Pv (b_X5_read_66 F (lp (b_X5_read_10 F) g) v2 v3 v4 tp ru) := fun {v2 v3 v4 tp ru} h => by
      unfold b_X5_read_66
      exact Pv.bind (fun q1 e1 => by
        have hq := UV_close h e1
        exact Pv.bind (fun q2 _ => Pv.ite (fun _ => Pv.so hq) (fun _ => Pv.bind (fun q4 _ => Pv.ite (fun _ => pv_fl hq) (fun _ => ih _ _ _ hq)))))
    have h37 : ∀ {tp ru : OB}, UV ru → Pv (b_X5_read_37 F tp ru) := fun h => Pv.so h
    rw [lp_S, b_X5_read_10]
    exact Pv.ite (fun _ => Pv.so h) (fun _ => Pv.bind (fun q9 _ => Pv.ite (fun _ => h37 h) (fun _ => Pv.bind (fun q11 e11 => by
      have hq := pv_sum h q11.1 q11.2.1 q11.2.2 e11
      exact Pv.ite (fun _ => h37 hq) (fun _ => Pv.bind (fun q13 _ => Pv.ite (fun _ => h66 hq) (fun _ => Pv.bind (fun q15 e15 => by
        have hq2 := pv_test hq q15.1 q15.2.1 q15.2.2 e15
        exact Pv.ite (fun _ => Pv.so hq2) (fun _ => h66 hq2)))))))))
theorem pv_read {F : Nat} {tp ru T R : OB} {r : Int32} (e : f_X5_read F tp ru = some (r, T, R)) : UV R := by
  have : Pv (f_X5_read F tp ru) := by
    unfold f_X5_read f_X4_clear
    exact Pv.bind (fun q _ => Pv.bind (fun q2 e2 => pv_readL F _ _ _ (by
      cases e2
      exact UV_mk (len := 0) (u := 0) rfl rfl (by decide) (by decide) (Nat.le_refl _))))
  exact this r T R e
end
section
/-! the hall, pure: an amount by both -/
theorem s_in32 {F : Nat} {x a b : Int32} : f_X9_in F x.toInt64 a.toInt64 b.toInt64 = some (if a.toInt ≤ x.toInt ∧ x.toInt ≤ b.toInt then 1 else 0) := by
  rw [s_in]
  simp only [Int32.toInt_toInt64]
section AMT
variable {F : Nat} {m x : OB} {L s n : Nat} {e d c o : Int32} {so nu op : Nat → Int32}
/-- a number between bounds by both -/
theorem amt {i t p lo : Nat} {b : Int32} (hr : RB m L s) (hF : 600 ≤ F) (hx : TX (m.2.1 28) L x n) (ha : At L x n t i) (hp : p ≤ L) (hk : sk (m.2.1 28) L p = i) (hlo : lo ≤ 100) :
    (∃ (φ p2 : Nat) (v : Int32), 0 < φ ∧ φ < 4000 ∧ p2 ≤ L ∧ f_X7_takeNumber F (nI lo) b (tpa x (nI t) 0) = some (-1, tpa x (nI t) (nI φ)) ∧ f_X9_amount F (nI lo) b (ps m (nI p) 0 e d c o so nu op) = some (v, ps m (nI p2) (nI φ) e d c o so nu op))
    ∨ (∃ (v p2 : Nat), lo ≤ v ∧ (nI v).toInt ≤ b.toInt ∧ v < 100000 ∧ i < p2 ∧ p2 ≤ L ∧ At L x n (t + 1) (sk (m.2.1 28) L p2) ∧ f_X7_takeNumber F (nI lo) b (tpa x (nI t) 0) = some (nI v, tpa x (nI (t + 1)) 0) ∧ f_X9_amount F (nI lo) b (ps m (nI p) 0 e d c o so nu op) = some (nI v, ps m (nI p2) 0 e d c o so nu op)) := by
  have h4 := hr.2.1
  have hi := ha.2.1
  have e0 : (1 : Int32) + 8 * nI i + 0 = nI (1 + 8 * i + 0) := flt (k := 0)
  have e1 : (1 : Int32) + 8 * nI i + 1 = nI (1 + 8 * i + 1) := flt (k := 1)
  have eR : f_X9_amount F (nI lo) b (ps m (nI p) 0 e d c o so nu op) = Option.bind (f_X9_digits F 99999 (ps m (nI i) 0 e d c o so nu op)) (fun q7 => (b_X9_amount_26 F (nI lo) b (nI i) q7.1 q7.2)) := by
    unfold f_X9_amount
    rw [s_blanks hr hF hp, bd_some, hk, show (ps m (nI i) 0 e d c o so nu op).1 20 = 0 from rfl, if_pos rfl]
    rfl
  have bad1 : f_X7_takeNumber F (nI lo) b (tpa x (nI t) 0) = b_X7_takeNumber_33 F (tpa x (nI t) 0) → f_X7_takeNumber F (nI lo) b (tpa x (nI t) 0) = some (-1, tpa x (nI t) (nI (1 + 8 * i + 1))) := fun q => by
    rw [q]
    unfold b_X7_takeNumber_33
    rw [s_fail hx ha, bd_some, e1]
  rw [eR]
  by_cases hd : dB (m.2.1 28) L i = true
  · have hK := lexK_d.mpr hd
    have hiL : i < L := by
      by_cases z : i < L
      · exact z
      · rw [dB_out i (by omega)] at hd
        cases hd
    have hnl : ¬ lB (m.2.1 28) L i = true := fun q => by
      have a := (isL_i _).mp (of_decide_eq_true q)
      have b := (isD_i _).mp (of_decide_eq_true hd)
      omega
    have hE : lexE (m.2.1 28) L i = re (dB (m.2.1 28) L) L i := by
      unfold lexE
      rw [if_neg hnl, if_pos hd]
    have hV : lexV (m.2.1 28) L i = if re (dB (m.2.1 28) L) L i - i ≤ 5 then dv (m.2.1 28) L i (re (dB (m.2.1 28) L) L i - i) else -1 := by
      unfold lexV
      rw [if_neg hnl, if_pos hd]
    have hgt := lexE_gt (B := m.2.1 28) hiL
    rw [hE] at hgt
    have hin := re_in (P := dB (m.2.1 28) L) (L := L) _ i rfl
    have hAt := (ha.at hx).2.2.2 hiL
    rw [hE] at hAt
    have cl : f_X7_takeNumber F (nI lo) b (tpa x (nI t) 0) = if lexV (m.2.1 28) L i < nI lo then b_X7_takeNumber_33 F (tpa x (nI t) 0) else if lexV (m.2.1 28) L i ≤ b then some (lexV (m.2.1 28) L i, tpa x (nI (t + 1)) 0) else b_X7_takeNumber_33 F (tpa x (nI t) 0) := by
      unfold f_X7_takeNumber
      rw [s_kind hx ha, bd_some, hK, if_pos rfl, s_value hx ha, bd_some, s_skip hx ha hiL, bd_some]
    rw [s_digits hr hF hiL hd, bd_some]
    try dsimp only
    unfold b_X9_amount_26 b_X9_amount_54
    by_cases h5 : re (dB (m.2.1 28) L) L i - i ≤ 5
    · obtain ⟨v, e5, hv⟩ := dv_b (B := m.2.1 28) (L := L) (i := i) (re (dB (m.2.1 28) L) L i - i) h5 (fun k hk => hin (i + k) (by omega) (by omega))
      have h9 : 10 ^ (re (dB (m.2.1 28) L) L i - i) ≤ 10 ^ 5 := Nat.pow_le_pow_right (by decide) h5
      have hv5 : v < 100000 := by omega
      rw [show min 5 (re (dB (m.2.1 28) L) L i - i) = re (dB (m.2.1 28) L) L i - i from by omega, e5, if_neg (show ¬ ((0 : Int32) = 0 ∧ 5 < re (dB (m.2.1 28) L) L i - i) from fun z => by omega), show (ps m (nI (re (dB (m.2.1 28) L) L i)) 0 e d c o so nu op).1 20 = 0 from rfl, if_pos rfl, s_in32, bd_some]
      rw [hV, if_pos h5, e5] at cl
      have tv : (nI v).toInt = v := nI_toInt (by omega)
      have tl : (nI lo).toInt = lo := nI_toInt (by omega)
      by_cases hb : (nI lo).toInt ≤ (nI v).toInt ∧ (nI v).toInt ≤ b.toInt
      · rw [if_neg (show ¬ nI v < nI lo from fun z => by
          rw [Int32.lt_iff_toInt_lt] at z
          omega), if_pos (show nI v ≤ b from Int32.le_iff_toInt_le.mpr hb.2)] at cl
        rw [if_pos hb, if_neg (show ¬ (1 : Int32) = 0 by decide)]
        exact Or.inr ⟨v, re (dB (m.2.1 28) L) L i, by omega, hb.2, hv5, hgt.1, hgt.2, hAt, cl, rfl⟩
      · rw [if_neg hb, if_pos rfl, s_fails, bd_some, if_pos rfl, e1]
        refine Or.inl ⟨1 + 8 * i + 1, re (dB (m.2.1 28) L) L i, nI v, by omega, by omega, hgt.2, bad1 ?_, rfl⟩
        by_cases h6 : nI v < nI lo
        · rw [if_pos h6] at cl
          exact cl
        · rw [if_neg h6, if_neg (show ¬ nI v ≤ b from fun z => hb ⟨by
            rw [Int32.lt_iff_toInt_lt] at h6
            omega, Int32.le_iff_toInt_le.mp z⟩)] at cl
          exact cl
    · rw [hV, if_neg h5, if_pos (show (-1 : Int32) < nI lo from by
        rw [Int32.lt_iff_toInt_lt, nI_toInt (by omega), show (-1 : Int32).toInt = -1 from by decide]
        omega)] at cl
      rw [if_pos (show (0 : Int32) = 0 ∧ 5 < re (dB (m.2.1 28) L) L i - i from ⟨rfl, by omega⟩), e1, show (ps m (nI (re (dB (m.2.1 28) L) L i)) (nI (1 + 8 * i + 1)) e d c o so nu op).1 20 = nI (1 + 8 * i + 1) from rfl, if_neg (nI_ne0 (by omega) (by omega))]
      exact Or.inl ⟨1 + 8 * i + 1, re (dB (m.2.1 28) L) L i, _, by omega, by omega, hgt.2, bad1 cl, rfl⟩
  · have hK : ¬ lexK (m.2.1 28) L i = 259 := fun z => hd (lexK_d.mp z)
    have hD : ¬ isD (cb (m.2.1 28) L i) := fun z => hd (decide_eq_true z)
    have cl : f_X7_takeNumber F (nI lo) b (tpa x (nI t) 0) = some (-1, tpa x (nI t) (nI (1 + 8 * i + 0))) := by
      unfold f_X7_takeNumber
      rw [s_kind hx ha, bd_some, if_neg hK, s_fail hx ha, bd_some, e0]
    have dg : f_X9_digits F 99999 (ps m (nI i) 0 e d c o so nu op) = some (0, ps m (nI i) (nI (1 + 8 * i + 0)) e d c o so nu op) := by
      unfold f_X9_digits
      rw [s_isDigit9 hr (by omega), bd_some, if_neg hD, if_pos rfl, s_fails, bd_some, if_pos rfl, show (ps m (nI i) 0 e d c o so nu op).1 19 = nI i from rfl, e0]
    rw [dg, bd_some]
    unfold b_X9_amount_26 b_X9_amount_54
    try dsimp only
    rw [show (ps m (nI i) (nI (1 + 8 * i + 0)) e d c o so nu op).1 20 = nI (1 + 8 * i + 0) from rfl, if_neg (nI_ne0 (by omega) (by omega))]
    exact Or.inl ⟨1 + 8 * i + 0, i, 0, by omega, by omega, hi, cl, rfl⟩
end AMT
end
section
/-! the hall, pure: its words by both; rooms while they are read -/
section HAL
variable {F : Nat} {m x : OB} {L s n : Nat} {e d c o : Int32} {so nu op : Nat → Int32}
theorem h_word1 {g i k w : Nat} {v : Int32} {f : Int32} (hr : RB m L s) (hF : 600 ≤ F) (hi : i ≤ L) (hk : k < 4) (hw : wdH (nI k) = w) (h18 : w < 18) : lp (b_X9_hallClause_11 F) (g + 1) (v, nI i, nI k, ps m (nI i) f e d c o so nu op) = if lexK (m.2.1 28) L i = nI (260 + w) then b_X9_hallClause_33 F v (nI i) (nI k) (ps m (nI i) f e d c o so nu op) else lp (b_X9_hallClause_11 F) g (v, nI i, nI (k + 1), ps m (nI i) f e d c o so nu op) := by
  rw [lp_S, b_X9_hallClause_11]
  dsimp only
  rw [if_neg (show ¬ (4 : Int32) ≤ nI k from nI_ge (a := k) (b := 4) hk (by decide)), hw, s_stood hr hF hi h18 (xl_pos h18), bd_some]
  by_cases h : isW (m.2.1 28) L i (re (lB (m.2.1 28) L) L i) w = true
  · rw [if_pos h, if_neg (show ¬ (1 : Int32) = 0 by decide), if_pos ((lexK_w h18).mpr h)]
  · rw [if_neg h, if_pos rfl, if_neg (fun q => h ((lexK_w h18).mp q)), nI_1]
theorem h_words {g i : Nat} {v f : Int32} (hr : RB m L s) (hF : 600 ≤ F) (hi : i ≤ L) (hg : 5 ≤ g) : lp (b_X9_hallClause_11 F) g (v, nI i, nI 0, ps m (nI i) f e d c o so nu op) = if lexK (m.2.1 28) L i = 271 then b_X9_hallClause_33 F v (nI i) (nI 0) (ps m (nI i) f e d c o so nu op) else if lexK (m.2.1 28) L i = 272 then b_X9_hallClause_33 F v (nI i) (nI 1) (ps m (nI i) f e d c o so nu op) else if lexK (m.2.1 28) L i = 261 then b_X9_hallClause_33 F v (nI i) (nI 2) (ps m (nI i) f e d c o so nu op) else if lexK (m.2.1 28) L i = 260 then b_X9_hallClause_33 F v (nI i) (nI 3) (ps m (nI i) f e d c o so nu op) else b_X9_hallClause_33 F v (nI i) (nI 4) (ps m (nI i) f e d c o so nu op) := by
  obtain ⟨j, rfl⟩ : ∃ j, g = j + 1 + 1 + 1 + 1 + 1 := ⟨g - 5, by omega⟩
  have z : lp (b_X9_hallClause_11 F) (j + 1) (v, nI i, nI (3 + 1), ps m (nI i) f e d c o so nu op) = b_X9_hallClause_33 F v (nI i) (nI 4) (ps m (nI i) f e d c o so nu op) := by
    rw [lp_S, b_X9_hallClause_11]
    dsimp only
    rw [if_pos (show (4 : Int32) ≤ nI (3 + 1) from nI_le (a := 4) (b := 4) (Nat.le_refl _) (by decide))]
  rw [h_word1 (w := 11) hr hF hi (by decide) (by decide) (by decide), h_word1 (w := 12) hr hF hi (by decide) (by decide) (by decide), h_word1 (w := 1) hr hF hi (by decide) (by decide) (by decide), h_word1 (w := 0) hr hF hi (by decide) (by decide) (by decide), z]
  rfl
end HAL
noncomputable def hm (m : OB) (ns nc nh nt nr nw : Nat → Int32) : OB := (m.1, uF (uF (uF (uF (uF (uF m.2.1 12 ns) 13 nc) 14 nh) 15 nt) 16 nr) 17 nw, m.2.2)
theorem RB.hm {m : OB} {L s : Nat} {ns nc nh nt nr nw : Nat → Int32} (h : RB m L s) : RB (hm m ns nc nh nt nr nw) L s := h
/-- the class's room while it is read -/
noncomputable def rmh (y : OB) (t a b q : Nat) (tc he so co we : Nat → Int32) : OB := (uF (uF (uF (uF y.1 0 (nI t)) 1 (nI a)) 2 (nI b)) 3 (nI q), uF (uF (uF (uF (uF y.2.1 4 tc) 5 he) 6 so) 7 co) 8 we, y.2.2)
/-- the first n of a row are at most M -/
noncomputable def Rw (f : Nat → Int32) (n M : Nat) : Prop := ∀ k, k < n → ∃ v, v ≤ M ∧ f k = nI v
theorem Rw.up {f : Nat → Int32} {n M i v : Nat} (h : Rw f n M) (hv : v ≤ M) : Rw (upd f i (nI v)) n M := fun k hk => by
  by_cases e : k = i
  · rw [e, pk_us]
    exact ⟨v, hv, rfl⟩
  · rw [pk_un e]
    exact h k hk
/-- what the class has read is what the reference has read -/
noncomputable def HR (t a b q : Nat) (tc he so co we ns nc nh nt nr nw : Nat → Int32) : Prop :=
  (ns 0 = nI t ∧ ns 1 = nI a ∧ ns 2 = nI b ∧ ns 3 = nI q) ∧ (a ≤ 4 ∧ b ≤ 8 ∧ q ≤ b) ∧
  (∀ j, j < a → tc j = nc j ∧ ∃ v, v ≤ 99 ∧ tc j = nI v) ∧
  (∀ j, j < b → he j = nh j ∧ so j = nt j ∧ (∃ v, 1 ≤ v ∧ v ≤ 60 ∧ he j = nI v) ∧ ∃ v, v < a ∧ so j = nI v) ∧
  (∀ j, j < q → co j = nr j ∧ we j = nw j ∧ (∃ v, v < b ∧ co j = nI v) ∧ ∃ v, 1 ≤ v ∧ v ≤ 20 ∧ we j = nI v) ∧
  (∀ i j, i < j → j < q → co i ≠ co j) ∧ Rw tc 4 99
section HRS
variable {t a b q : Nat} {tc he so co we ns nc nh nt nr nw : Nat → Int32}
theorem HR.nil (hw : Rw tc 4 99) : ns 0 = nI 0 → ns 1 = nI 0 → ns 2 = nI 0 → ns 3 = nI 0 → HR 0 0 0 0 tc he so co we ns nc nh nt nr nw := fun h0 h1 h2 h3 => ⟨⟨h0, h1, h2, h3⟩, ⟨by omega, by omega, by omega⟩, fun j h => absurd h (Nat.not_lt_zero _), fun j h => absurd h (Nat.not_lt_zero _), fun j h => absurd h (Nat.not_lt_zero _), fun i j _ h => absurd h (Nat.not_lt_zero _), hw⟩
theorem HR.told (h : HR t a b q tc he so co we ns nc nh nt nr nw) : HR 1 a b q tc he so co we (upd ns 0 (nI 1)) nc nh nt nr nw := ⟨⟨pk_us, (pk_un (by decide)).trans h.1.2.1, (pk_un (by decide)).trans h.1.2.2.1, (pk_un (by decide)).trans h.1.2.2.2⟩, h.2⟩
theorem HR.strand {v : Nat} (h : HR t a b q tc he so co we ns nc nh nt nr nw) (ha : a < 4) (hv : v ≤ 99) : HR t (a + 1) b q (upd tc a (nI v)) he so co we (upd ns 1 (nI (a + 1))) (upd nc a (nI v)) nh nt nr nw := by
  obtain ⟨h1, h2, h3, h4, h5, h6⟩ := h
  refine ⟨⟨(pk_un (by decide)).trans h1.1, pk_us, (pk_un (by decide)).trans h1.2.2.1, (pk_un (by decide)).trans h1.2.2.2⟩, ⟨by omega, h2.2.1, h2.2.2⟩, fun j hj => ?_, fun j hj => ?_, h5, h6.1, h6.2.up hv⟩
  · by_cases e : j = a
    · subst e
      rw [pk_us, pk_us]
      exact ⟨rfl, v, hv, rfl⟩
    · rw [pk_un e, pk_un e]
      exact h3 j (by omega)
  · obtain ⟨q1, q2, q3, w, q4, q5⟩ := h4 j hj
    exact ⟨q1, q2, q3, w, by omega, q5⟩
theorem HR.chair {v w : Nat} (h : HR t a b q tc he so co we ns nc nh nt nr nw) (hb : b < 8) (h1 : 1 ≤ v) (hv : v ≤ 60) (hw : w < a) : HR t a (b + 1) q tc (upd he b (nI v)) (upd so b (nI w)) co we (upd ns 2 (nI (b + 1))) nc (upd nh b (nI v)) (upd nt b (nI w)) nr nw := by
  obtain ⟨g1, h2, h3, h4, h5, h6⟩ := h
  refine ⟨⟨(pk_un (by decide)).trans g1.1, (pk_un (by decide)).trans g1.2.1, pk_us, (pk_un (by decide)).trans g1.2.2.2⟩, ⟨h2.1, by omega, by omega⟩, h3, fun j hj => ?_, fun j hj => ?_, h6⟩
  · by_cases e : j = b
    · subst e
      rw [pk_us, pk_us, pk_us, pk_us]
      exact ⟨rfl, rfl, ⟨v, h1, hv, rfl⟩, w, hw, rfl⟩
    · rw [pk_un e, pk_un e, pk_un e, pk_un e]
      exact h4 j (by omega)
  · obtain ⟨q1, q2, ⟨u, q3, q4⟩, q5⟩ := h5 j hj
    exact ⟨q1, q2, ⟨u, by omega, q4⟩, q5⟩
theorem HR.sit {v w : Nat} (h : HR t a b q tc he so co we ns nc nh nt nr nw) (hq : q < b) (hv : v < b) (h1 : 1 ≤ w) (hw : w ≤ 20) (hn : ∀ j, j < q → co j ≠ nI v) : HR t a b (q + 1) tc he so (upd co q (nI v)) (upd we q (nI w)) (upd ns 3 (nI (q + 1))) nc nh nt (upd nr q (nI v)) (upd nw q (nI w)) := by
  obtain ⟨g1, h2, h3, h4, h5, h6⟩ := h
  refine ⟨⟨(pk_un (by decide)).trans g1.1, (pk_un (by decide)).trans g1.2.1, (pk_un (by decide)).trans g1.2.2.1, pk_us⟩, ⟨h2.1, h2.2.1, by omega⟩, h3, h4, fun j hj => ?_, fun i j hij hj => ?_, h6.2⟩
  · by_cases e : j = q
    · subst e
      rw [pk_us, pk_us, pk_us, pk_us]
      exact ⟨rfl, rfl, ⟨v, hv, rfl⟩, w, h1, hw, rfl⟩
    · rw [pk_un e, pk_un e, pk_un e, pk_un e]
      exact h5 j (by omega)
  · by_cases e : j = q
    · subst e
      rw [pk_us, pk_un (by omega)]
      exact hn i hij
    · rw [pk_un e, pk_un (by omega)]
      exact h6.1 i j hij (by omega)
end HRS
end
section
/-! the hall, pure: who sits where -/
theorem pigH : ∀ (n m : Nat) (f : Nat → Nat), (∀ j, j < m → f j < n) → (∀ i j, i < j → j < m → f i ≠ f j) → m ≤ n
  | 0, m, f, h, _ => by
    cases m with
    | zero => exact Nat.le_refl _
    | succ m => exact absurd (h 0 (by omega)) (Nat.not_lt_zero _)
  | n + 1, m, f, h, hd => by
    by_cases hx : ∃ j, j < m ∧ f j = n
    · obtain ⟨j0, hj0, hf⟩ := hx
      have hm := pigH n (m - 1) (fun j => if j < j0 then f j else f (j + 1)) (fun j hj => by
        have key : ∀ i, i < m → i ≠ j0 → f i < n := fun i hi hne => by
          have h1 := h i hi
          have h2 : f i ≠ f j0 := by
            rcases Nat.lt_or_gt_of_ne hne with q | q
            · exact hd i j0 q hj0
            · exact fun e => hd j0 i q hi e.symm
          omega
        by_cases q : j < j0
        · simp only [q, if_true]
          exact key j (by omega) (by omega)
        · simp only [q, if_false]
          exact key (j + 1) (by omega) (by omega)) (fun i j hij hj => by
        by_cases q : i < j0 <;> by_cases q2 : j < j0
        · simp only [q, q2, if_true]
          exact hd i j hij (by omega)
        · simp only [q, q2, if_true, if_false]
          exact hd i (j + 1) (by omega) (by omega)
        · omega
        · simp only [q, q2, if_false]
          exact hd (i + 1) (j + 1) (by omega) (by omega))
      omega
    · have := pigH n m f (fun j hj => by
        have h1 := h j hj
        have h2 : f j ≠ n := fun e => hx ⟨j, hj, e⟩
        omega) hd
      omega
section HRM
variable {t a b q : Nat} {tc he so co we ns nc nh nt nr nw : Nat → Int32}
/-- a chair that nobody has so far: there are fewer sitters than chairs -/
theorem HR.room {v : Nat} (h : HR t a b q tc he so co we ns nc nh nt nr nw) (hv : v < b) (hn : ∀ j, j < q → co j ≠ nI v) : q < b := by
  have h8 := h.2.1.2.1
  have h5 := h.2.2.2.2.1
  have h6 := h.2.2.2.2.2.1
  have hp := pigH b (q + 1) (fun j => if j < q then (co j).toInt.toNat else v) (fun j hj => by
    show (if j < q then (co j).toInt.toNat else v) < b
    by_cases e : j < q
    · rw [if_pos e]
      obtain ⟨u, hu, eu⟩ := (h5 j e).2.2.1
      rw [eu, nI_toInt (by omega)]
      omega
    · rw [if_neg e]
      exact hv) (fun i j hij hj => by
    show (if i < q then (co i).toInt.toNat else v) ≠ (if j < q then (co j).toInt.toNat else v)
    have hi : i < q := by omega
    obtain ⟨u, hu, eu⟩ := (h5 i hi).2.2.1
    rw [if_pos hi]
    by_cases e : j < q
    · obtain ⟨w, hw, ew⟩ := (h5 j e).2.2.1
      have hne := h6 i j hij e
      rw [eu, ew] at hne
      rw [if_pos e, eu, ew, nI_toInt (by omega), nI_toInt (by omega)]
      intro z
      exact hne (by rw [show u = w from by omega])
    · have hne := hn i hi
      rw [eu] at hne
      rw [if_neg e, eu, nI_toInt (by omega)]
      intro z
      exact hne (by rw [show u = v from by omega]))
  omega
/-- the class looks for the sitter of a chair -/
theorem s_sitOn {F : Nat} {y : OB} {x : Int32} (hq : q ≤ 8) : ∀ (r g k : Nat), k + r = q → r < g → (∀ j, j < k → co j ≠ x) → (∃ j, j < q ∧ co j = x ∧ lp (b_X3_sitterOn_2 F (rmh y t a b q tc he so co we)) g (x, nI k) = some (nI j)) ∨ ((∀ j, j < q → co j ≠ x) ∧ lp (b_X3_sitterOn_2 F (rmh y t a b q tc he so co we)) g (x, nI k) = some (-1))
  | 0, g, k, h1, h2, h3 => by
    obtain ⟨g, rfl⟩ : ∃ g', g = g' + 1 := ⟨g - 1, by omega⟩
    refine Or.inr ⟨fun j hj => h3 j (by omega), ?_⟩
    rw [lp_S, b_X3_sitterOn_2]
    dsimp only
    rw [if_pos (show (rmh y t a b q tc he so co we).1 3 ≤ nI k from nI_le (a := q) (b := k) (by omega) (by omega))]
  | r + 1, g, k, h1, h2, h3 => by
    obtain ⟨g, rfl⟩ : ∃ g', g = g' + 1 := ⟨g - 1, by omega⟩
    have e1 : lp (b_X3_sitterOn_2 F (rmh y t a b q tc he so co we)) (g + 1) (x, nI k) = if co k = x then some (nI k) else lp (b_X3_sitterOn_2 F (rmh y t a b q tc he so co we)) g (x, nI (k + 1)) := by
      rw [lp_S, b_X3_sitterOn_2]
      dsimp only
      rw [if_neg (show ¬ (rmh y t a b q tc he so co we).1 3 ≤ nI k from nI_ge (a := k) (b := q) (by omega) (by omega)), if_pos (ib_n (show k < 8 by omega) (by decide)), nI_clamp (by omega), nI_1]
      rfl
    rw [e1]
    by_cases e : co k = x
    · rw [if_pos e]
      exact Or.inl ⟨k, by omega, e, rfl⟩
    · rw [if_neg e]
      exact s_sitOn hq r g (k + 1) (by omega) (by omega) (fun j hj => by
        by_cases z : j = k
        · rw [z]
          exact e
        · exact h3 j (by omega))
theorem s_sitterOn {F : Nat} {y : OB} {x : Int32} (hF : 600 ≤ F) (hq : q ≤ 8) : (∃ j, j < q ∧ co j = x ∧ f_X3_sitterOn F x (rmh y t a b q tc he so co we) = some (nI j)) ∨ ((∀ j, j < q → co j ≠ x) ∧ f_X3_sitterOn F x (rmh y t a b q tc he so co we) = some (-1)) := s_sitOn hq q F 0 (by omega) (by omega) (fun j hj => absurd hj (Nat.not_lt_zero _))
end HRM
end
section
/-! the hall, pure: the rows of the reference while it is read -/
section PSH
variable {m : OB} {p f e d c o : Int32} {s1 n1 o1 ns nc nh nt nr nw : Nat → Int32}
theorem ps_12 {r : Nat → Int32} : (((ps (hm m ns nc nh nt nr nw) p f e d c o s1 n1 o1).1, uF (ps (hm m ns nc nh nt nr nw) p f e d c o s1 n1 o1).2.1 12 r, (ps (hm m ns nc nh nt nr nw) p f e d c o s1 n1 o1).2.2) : OB) = ps (hm m r nc nh nt nr nw) p f e d c o s1 n1 o1 := by
  unfold ps hm
  try dsimp only
  rw [uF_cm (i := 35) (j := 12) (by decide), uF_cm (i := 30) (j := 12) (by decide), uF_cm (i := 29) (j := 12) (by decide), uF_cm (i := 17) (j := 12) (by decide), uF_cm (i := 16) (j := 12) (by decide), uF_cm (i := 15) (j := 12) (by decide), uF_cm (i := 14) (j := 12) (by decide), uF_cm (i := 13) (j := 12) (by decide), uF_uF]
theorem ps_13 {r : Nat → Int32} : (((ps (hm m ns nc nh nt nr nw) p f e d c o s1 n1 o1).1, uF (ps (hm m ns nc nh nt nr nw) p f e d c o s1 n1 o1).2.1 13 r, (ps (hm m ns nc nh nt nr nw) p f e d c o s1 n1 o1).2.2) : OB) = ps (hm m ns r nh nt nr nw) p f e d c o s1 n1 o1 := by
  unfold ps hm
  try dsimp only
  rw [uF_cm (i := 35) (j := 13) (by decide), uF_cm (i := 30) (j := 13) (by decide), uF_cm (i := 29) (j := 13) (by decide), uF_cm (i := 17) (j := 13) (by decide), uF_cm (i := 16) (j := 13) (by decide), uF_cm (i := 15) (j := 13) (by decide), uF_cm (i := 14) (j := 13) (by decide), uF_uF]
theorem ps_14 {r : Nat → Int32} : (((ps (hm m ns nc nh nt nr nw) p f e d c o s1 n1 o1).1, uF (ps (hm m ns nc nh nt nr nw) p f e d c o s1 n1 o1).2.1 14 r, (ps (hm m ns nc nh nt nr nw) p f e d c o s1 n1 o1).2.2) : OB) = ps (hm m ns nc r nt nr nw) p f e d c o s1 n1 o1 := by
  unfold ps hm
  try dsimp only
  rw [uF_cm (i := 35) (j := 14) (by decide), uF_cm (i := 30) (j := 14) (by decide), uF_cm (i := 29) (j := 14) (by decide), uF_cm (i := 17) (j := 14) (by decide), uF_cm (i := 16) (j := 14) (by decide), uF_cm (i := 15) (j := 14) (by decide), uF_uF]
theorem ps_15 {r : Nat → Int32} : (((ps (hm m ns nc nh nt nr nw) p f e d c o s1 n1 o1).1, uF (ps (hm m ns nc nh nt nr nw) p f e d c o s1 n1 o1).2.1 15 r, (ps (hm m ns nc nh nt nr nw) p f e d c o s1 n1 o1).2.2) : OB) = ps (hm m ns nc nh r nr nw) p f e d c o s1 n1 o1 := by
  unfold ps hm
  try dsimp only
  rw [uF_cm (i := 35) (j := 15) (by decide), uF_cm (i := 30) (j := 15) (by decide), uF_cm (i := 29) (j := 15) (by decide), uF_cm (i := 17) (j := 15) (by decide), uF_cm (i := 16) (j := 15) (by decide), uF_uF]
theorem ps_16 {r : Nat → Int32} : (((ps (hm m ns nc nh nt nr nw) p f e d c o s1 n1 o1).1, uF (ps (hm m ns nc nh nt nr nw) p f e d c o s1 n1 o1).2.1 16 r, (ps (hm m ns nc nh nt nr nw) p f e d c o s1 n1 o1).2.2) : OB) = ps (hm m ns nc nh nt r nw) p f e d c o s1 n1 o1 := by
  unfold ps hm
  try dsimp only
  rw [uF_cm (i := 35) (j := 16) (by decide), uF_cm (i := 30) (j := 16) (by decide), uF_cm (i := 29) (j := 16) (by decide), uF_cm (i := 17) (j := 16) (by decide), uF_uF]
theorem ps_17 {r : Nat → Int32} : (((ps (hm m ns nc nh nt nr nw) p f e d c o s1 n1 o1).1, uF (ps (hm m ns nc nh nt nr nw) p f e d c o s1 n1 o1).2.1 17 r, (ps (hm m ns nc nh nt nr nw) p f e d c o s1 n1 o1).2.2) : OB) = ps (hm m ns nc nh nt nr r) p f e d c o s1 n1 o1 := by
  unfold ps hm
  try dsimp only
  rw [uF_cm (i := 35) (j := 17) (by decide), uF_cm (i := 30) (j := 17) (by decide), uF_cm (i := 29) (j := 17) (by decide), uF_uF]
theorem ps_1213 {r1 r2 : Nat → Int32} : (((ps (hm m ns nc nh nt nr nw) p f e d c o s1 n1 o1).1, uF (uF ((ps (hm m ns nc nh nt nr nw) p f e d c o s1 n1 o1).2.1) 12 r1) 13 r2, (ps (hm m ns nc nh nt nr nw) p f e d c o s1 n1 o1).2.2) : OB) = ps (hm m r1 r2 nh nt nr nw) p f e d c o s1 n1 o1 := by
  rw [show uF (ps (hm m ns nc nh nt nr nw) p f e d c o s1 n1 o1).2.1 12 r1 = (ps (hm m r1 nc nh nt nr nw) p f e d c o s1 n1 o1).2.1 from congrArg (fun z : OB => z.2.1) ps_12, show (ps (hm m ns nc nh nt nr nw) p f e d c o s1 n1 o1).1 = (ps (hm m r1 nc nh nt nr nw) p f e d c o s1 n1 o1).1 from rfl, show (ps (hm m ns nc nh nt nr nw) p f e d c o s1 n1 o1).2.2 = (ps (hm m r1 nc nh nt nr nw) p f e d c o s1 n1 o1).2.2 from rfl, ps_13]
theorem ps_1215 {r1 r2 : Nat → Int32} : (((ps (hm m ns nc nh nt nr nw) p f e d c o s1 n1 o1).1, uF (uF ((ps (hm m ns nc nh nt nr nw) p f e d c o s1 n1 o1).2.1) 12 r1) 15 r2, (ps (hm m ns nc nh nt nr nw) p f e d c o s1 n1 o1).2.2) : OB) = ps (hm m r1 nc nh r2 nr nw) p f e d c o s1 n1 o1 := by
  rw [show uF (ps (hm m ns nc nh nt nr nw) p f e d c o s1 n1 o1).2.1 12 r1 = (ps (hm m r1 nc nh nt nr nw) p f e d c o s1 n1 o1).2.1 from congrArg (fun z : OB => z.2.1) ps_12, show (ps (hm m ns nc nh nt nr nw) p f e d c o s1 n1 o1).1 = (ps (hm m r1 nc nh nt nr nw) p f e d c o s1 n1 o1).1 from rfl, show (ps (hm m ns nc nh nt nr nw) p f e d c o s1 n1 o1).2.2 = (ps (hm m r1 nc nh nt nr nw) p f e d c o s1 n1 o1).2.2 from rfl, ps_15]
theorem ps_121617 {r1 r2 r3 : Nat → Int32} : (((ps (hm m ns nc nh nt nr nw) p f e d c o s1 n1 o1).1, uF (uF (uF ((ps (hm m ns nc nh nt nr nw) p f e d c o s1 n1 o1).2.1) 12 r1) 16 r2) 17 r3, (ps (hm m ns nc nh nt nr nw) p f e d c o s1 n1 o1).2.2) : OB) = ps (hm m r1 nc nh nt r2 r3) p f e d c o s1 n1 o1 := by
  rw [show uF (ps (hm m ns nc nh nt nr nw) p f e d c o s1 n1 o1).2.1 12 r1 = (ps (hm m r1 nc nh nt nr nw) p f e d c o s1 n1 o1).2.1 from congrArg (fun z : OB => z.2.1) ps_12, show (ps (hm m ns nc nh nt nr nw) p f e d c o s1 n1 o1).1 = (ps (hm m r1 nc nh nt nr nw) p f e d c o s1 n1 o1).1 from rfl, show (ps (hm m ns nc nh nt nr nw) p f e d c o s1 n1 o1).2.2 = (ps (hm m r1 nc nh nt nr nw) p f e d c o s1 n1 o1).2.2 from rfl, show uF (ps (hm m r1 nc nh nt nr nw) p f e d c o s1 n1 o1).2.1 16 r2 = (ps (hm m r1 nc nh nt r2 nw) p f e d c o s1 n1 o1).2.1 from congrArg (fun z : OB => z.2.1) ps_16, show (ps (hm m r1 nc nh nt nr nw) p f e d c o s1 n1 o1).1 = (ps (hm m r1 nc nh nt r2 nw) p f e d c o s1 n1 o1).1 from rfl, show (ps (hm m r1 nc nh nt nr nw) p f e d c o s1 n1 o1).2.2 = (ps (hm m r1 nc nh nt r2 nw) p f e d c o s1 n1 o1).2.2 from rfl, ps_17]
end PSH
end
section
/-! the hall, pure: strands and chairs by both -/
section RMH
variable {y : OB} {t a b q : Nat} {tc he so co we r r2 : Nat → Int32}
theorem rmh_st : ((uF (rmh y t a b q tc he so co we).1 1 (nI (a + 1)), uF (rmh y t a b q tc he so co we).2.1 4 r, (rmh y t a b q tc he so co we).2.2) : OB) = rmh y t (a + 1) b q r he so co we := by
  unfold rmh
  try dsimp only
  rw [uF_cm (i := 3) (j := 1) (by decide), uF_cm (i := 2) (j := 1) (by decide), uF_uF, uF_cm (i := 8) (j := 4) (by decide), uF_cm (i := 7) (j := 4) (by decide), uF_cm (i := 6) (j := 4) (by decide), uF_cm (i := 5) (j := 4) (by decide), uF_uF]
theorem rmh_ch : ((uF (rmh y t a b q tc he so co we).1 2 (nI (b + 1)), uF (uF (rmh y t a b q tc he so co we).2.1 5 r) 6 r2, (rmh y t a b q tc he so co we).2.2) : OB) = rmh y t a (b + 1) q tc r r2 co we := by
  unfold rmh
  try dsimp only
  rw [uF_cm (i := 3) (j := 2) (by decide), uF_uF, uF_cm (i := 8) (j := 5) (by decide), uF_cm (i := 7) (j := 5) (by decide), uF_cm (i := 6) (j := 5) (by decide), uF_uF, uF_cm (i := 8) (j := 6) (by decide), uF_cm (i := 7) (j := 6) (by decide), uF_uF]
theorem rmh_si : ((uF (rmh y t a b q tc he so co we).1 3 (nI (q + 1)), uF (uF (rmh y t a b q tc he so co we).2.1 7 r) 8 r2, (rmh y t a b q tc he so co we).2.2) : OB) = rmh y t a b (q + 1) tc he so r r2 := by
  unfold rmh
  try dsimp only
  rw [uF_uF, uF_cm (i := 8) (j := 7) (by decide), uF_uF, uF_uF]
theorem rmh_to : ((uF (rmh y t a b q tc he so co we).1 0 1, (rmh y t a b q tc he so co we).2.1, (rmh y t a b q tc he so co we).2.2) : OB) = rmh y 1 a b q tc he so co we := by
  unfold rmh
  try dsimp only
  rw [uF_cm (i := 3) (j := 0) (by decide), uF_cm (i := 2) (j := 0) (by decide), uF_cm (i := 1) (j := 0) (by decide), uF_uF]
  rfl
end RMH
section HCL
variable {F : Nat} {m x y : OB} {L s n : Nat} {e d c o : Int32} {s1 n1 o1 : Nat → Int32}
theorem g_amount {p : Nat} {f lo b : Int32} (hr : RB m L s) (hF : 600 ≤ F) (hf : ¬ f = 0) (hp : p ≤ L) : f_X9_amount F lo b (ps m (nI p) f e d c o s1 n1 o1) = some (0, ps m (nI (sk (m.2.1 28) L p)) f e d c o s1 n1 o1) := by
  unfold f_X9_amount
  rw [s_blanks hr hF hp, bd_some, show (ps m (nI (sk (m.2.1 28) L p)) f e d c o s1 n1 o1).1 20 = f from rfl, if_neg hf]
  unfold b_X9_amount_26 b_X9_amount_54
  rw [show (ps m (nI (sk (m.2.1 28) L p)) f e d c o s1 n1 o1).1 20 = f from rfl, if_neg hf]
noncomputable def BadH (m x rm2 : OB) (L : Nat) (e d c o : Int32) (s1 n1 o1 : Nat → Int32) (rc : Option (Int32 × OB × OB)) (rr : Option OB) : Prop := ∃ (φ p2 : Nat) (t2 : Int32) (ns nc nh nt nr nw : Nat → Int32), 0 < φ ∧ φ < 4000 ∧ p2 ≤ L ∧ rc = some (0, tpa x t2 (nI φ), rm2) ∧ rr = some (ps (hm m ns nc nh nt nr nw) (nI p2) (nI φ) e d c o s1 n1 o1)
noncomputable def GoodH (m x y : OB) (L n i : Nat) (e d c o : Int32) (s1 n1 o1 : Nat → Int32) (rc : Option (Int32 × OB × OB)) (rr : Option OB) : Prop := ∃ (t2 i2 p2 a b q : Nat) (tc he so co we ns nc nh nt nr nw : Nat → Int32), At L x n t2 i2 ∧ i < i2 ∧ p2 ≤ L ∧ sk (m.2.1 28) L p2 = i2 ∧ HR 1 a b q tc he so co we ns nc nh nt nr nw ∧ rc = some (1, tpa x (nI t2) 0, rmh y 1 a b q tc he so co we) ∧ rr = some (ps (hm m ns nc nh nt nr nw) (nI p2) 0 e d c o s1 n1 o1)
variable {t i p a b q : Nat} {tc he so co we ns nc nh nt nr nw : Nat → Int32}
theorem st_part (hr : RB m L s) (hF : 600 ≤ F) (hx : TX (m.2.1 28) L x n) (ha : At L x n t i) (hp : p ≤ L) (hk : sk (m.2.1 28) L p = i) (hR : HR 1 a b q tc he so co we ns nc nh nt nr nw) (h4 : a < 4) : BadH m x (rmh y 1 a b q tc he so co we) L e d c o s1 n1 o1 (f_X1_readStrand F (tpa x (nI t) 0) (rmh y 1 a b q tc he so co we)) (f_X9_hallPart F 1 (ps (hm m ns nc nh nt nr nw) (nI p) 0 e d c o s1 n1 o1)) ∨ GoodH m x y L n i e d c o s1 n1 o1 (f_X1_readStrand F (tpa x (nI t) 0) (rmh y 1 a b q tc he so co we)) (f_X9_hallPart F 1 (ps (hm m ns nc nh nt nr nw) (nI p) 0 e d c o s1 n1 o1)) := by
  have hr2 : RB (hm m ns nc nh nt nr nw) L s := hr
  have hs1 := hR.1.2.1
  have rf : ∀ (v : Int32) (p2 f2 : Int32), f_X9_amount F 0 99 (ps (hm m ns nc nh nt nr nw) (nI p) 0 e d c o s1 n1 o1) = some (v, ps (hm m ns nc nh nt nr nw) p2 f2 e d c o s1 n1 o1) → f_X9_hallPart F 1 (ps (hm m ns nc nh nt nr nw) (nI p) 0 e d c o s1 n1 o1) = some (ps (hm m (upd ns 1 (nI (a + 1))) (upd nc a v) nh nt nr nw) p2 f2 e d c o s1 n1 o1) := by
    intro v p2 f2 hA
    unfold f_X9_hallPart b_X9_hallPart_125
    rw [if_neg (show ¬ (1 : Int32) = 0 by decide), if_pos rfl, hA, bd_some]
    dsimp only
    rw [show (ps (hm m ns nc nh nt nr nw) (nI p) 0 e d c o s1 n1 o1).2.1 12 = ns from rfl, show (ps (hm m ns nc nh nt nr nw) p2 f2 e d c o s1 n1 o1).2.1 12 = ns from rfl, show (ps (hm m ns nc nh nt nr nw) p2 f2 e d c o s1 n1 o1).2.1 13 = nc from rfl, show Int32.toNatClampNeg 1 = 1 from by decide, hs1, if_pos (ib_n (show a < 4 from h4) (by decide)), nI_1, nI_clamp (by omega), ps_1213]
  have cl : ∀ (v : Int32) (T : OB), f_X7_takeNumber F 0 99 (tpa x (nI t) 0) = some (v, T) → f_X1_readStrand F (tpa x (nI t) 0) (rmh y 1 a b q tc he so co we) = if v = -1 then some (0, T, rmh y 1 a b q tc he so co we) else some (1, T, rmh y 1 (a + 1) b q (upd tc a v) he so co we) := by
    intro v T hT
    unfold f_X1_readStrand b_X1_readStrand_21
    rw [hT, bd_some]
    dsimp only
    rw [show (rmh y 1 a b q tc he so co we).1 1 = nI a from rfl, show (rmh y 1 a b q tc he so co we).2.1 4 = tc from rfl, if_pos (show nI a < 4 from nI_lt (b := 4) h4 (by decide)), if_pos (ib_n (show a < 4 from h4) (by decide)), nI_1, nI_clamp (by omega), rmh_st]
  rcases amt (m := hm m ns nc nh nt nr nw) (lo := 0) (b := 99) (e := e) (d := d) (c := c) (o := o) (so := s1) (nu := n1) (op := o1) hr2 hF hx ha hp hk (by decide) with ⟨φ, p2, v, h1, h2, h3, h5, h6⟩ | ⟨v, p2, h1, h2, h3, h5, h6, h7, h8, h9⟩
  · refine Or.inl ⟨φ, p2, nI t, _, _, _, _, _, _, h1, h2, h3, ?_, rf v _ _ h6⟩
    rw [cl _ _ h5, if_pos rfl]
  · have hv : v ≤ 99 := by
      rw [nI_toInt (by omega), show (99 : Int32).toInt = 99 from by decide] at h2
      omega
    refine Or.inr ⟨t + 1, sk (m.2.1 28) L p2, p2, a + 1, b, q, _, _, _, _, _, _, _, _, _, _, _, h7, ?_, h6, rfl, hR.strand h4 hv, ?_, rf _ _ _ h9⟩
    · have := sk_ge (B := m.2.1 28) h6
      omega
    · rw [cl _ _ h8, if_neg (fun z => by
        have := congrArg Int32.toInt z
        rw [nI_toInt (by omega), show (-1 : Int32).toInt = -1 from by decide] at this
        omega)]
end HCL
end
section
/-! the hall, pure: chairs by both -/
theorem nI_m1 {a : Nat} (h : a ≤ 8) : (nI a - 1).toInt = (a : Int) - 1 := (show ∀ a, a < 9 → (nI a - 1).toInt = (a : Int) - 1 from by decide) a (by omega)
theorem nI_nm1 {v : Nat} (h : v < 2 ^ 31) : ¬ nI v = -1 := fun z => by
  have := congrArg Int32.toInt z
  rw [nI_toInt h, show (-1 : Int32).toInt = -1 from by decide] at this
  omega
section HCH
variable {F : Nat} {m x y : OB} {L s n : Nat} {e d c o : Int32} {s1 n1 o1 : Nat → Int32}
variable {t i p a b q : Nat} {tc he so co we ns nc nh nt nr nw : Nat → Int32}
theorem ch_part (hr : RB m L s) (hF : 600 ≤ F) (hx : TX (m.2.1 28) L x n) (ha : At L x n t i) (hp : p ≤ L) (hk : sk (m.2.1 28) L p = i) (hR : HR 1 a b q tc he so co we ns nc nh nt nr nw) (h8 : b < 8) : BadH m x (rmh y 1 a b q tc he so co we) L e d c o s1 n1 o1 (f_X1_readChair F (tpa x (nI t) 0) (rmh y 1 a b q tc he so co we)) (f_X9_hallPart F 2 (ps (hm m ns nc nh nt nr nw) (nI p) 0 e d c o s1 n1 o1)) ∨ GoodH m x y L n i e d c o s1 n1 o1 (f_X1_readChair F (tpa x (nI t) 0) (rmh y 1 a b q tc he so co we)) (f_X9_hallPart F 2 (ps (hm m ns nc nh nt nr nw) (nI p) 0 e d c o s1 n1 o1)) := by
  have hr2 : ∀ ns nc nh nt nr nw : Nat → Int32, RB (hm m ns nc nh nt nr nw) L s := fun _ _ _ _ _ _ => hr
  have ha4 := hR.2.1.1
  have hs1 := hR.1.2.1
  have hs2 := hR.1.2.2.1
  have rf : ∀ (v w : Int32) (p2 f2 p3 f3 : Int32), f_X9_amount F 1 60 (ps (hm m ns nc nh nt nr nw) (nI p) 0 e d c o s1 n1 o1) = some (v, ps (hm m ns nc nh nt nr nw) p2 f2 e d c o s1 n1 o1) → f_X9_amount F 0 (nI a - 1) (ps (hm m ns nc (upd nh b v) nt nr nw) p2 f2 e d c o s1 n1 o1) = some (w, ps (hm m ns nc (upd nh b v) nt nr nw) p3 f3 e d c o s1 n1 o1) → f_X9_hallPart F 2 (ps (hm m ns nc nh nt nr nw) (nI p) 0 e d c o s1 n1 o1) = some (ps (hm m (upd ns 2 (nI (b + 1))) nc (upd nh b v) (upd nt b w) nr nw) p3 f3 e d c o s1 n1 o1) := by
    intro v w p2 f2 p3 f3 hA hB
    unfold f_X9_hallPart b_X9_hallPart_125
    rw [if_neg (show ¬ (2 : Int32) = 0 by decide), if_neg (show ¬ (2 : Int32) = 1 by decide), if_pos rfl, hA, bd_some]
    dsimp only
    rw [show (ps (hm m ns nc nh nt nr nw) (nI p) 0 e d c o s1 n1 o1).2.1 12 = ns from rfl, show (ps (hm m ns nc nh nt nr nw) p2 f2 e d c o s1 n1 o1).2.1 12 = ns from rfl, show (ps (hm m ns nc nh nt nr nw) p2 f2 e d c o s1 n1 o1).2.1 14 = nh from rfl, show Int32.toNatClampNeg 1 = 1 from by decide, show Int32.toNatClampNeg 2 = 2 from by decide, hs1, hs2, if_pos (ib_n (show b < 8 from h8) (by decide)), nI_clamp (by omega), ps_14, hB, bd_some]
    dsimp only
    rw [show (ps (hm m ns nc (upd nh b v) nt nr nw) p3 f3 e d c o s1 n1 o1).2.1 12 = ns from rfl, show (ps (hm m ns nc (upd nh b v) nt nr nw) p3 f3 e d c o s1 n1 o1).2.1 15 = nt from rfl, hs2, nI_1, ps_1215]
  have c1 : ∀ T : OB, f_X7_takeNumber F 1 60 (tpa x (nI t) 0) = some (-1, T) → f_X1_readChair F (tpa x (nI t) 0) (rmh y 1 a b q tc he so co we) = some (0, T, rmh y 1 a b q tc he so co we) := by
    intro T hT
    unfold f_X1_readChair
    rw [hT, bd_some]
    dsimp only
    rw [if_pos rfl]
  have c2 : ∀ (v w : Int32) (T T2 : OB), ¬ v = -1 → f_X7_takeNumber F 1 60 (tpa x (nI t) 0) = some (v, T) → f_X7_takeNumber F 0 (nI a - 1) T = some (w, T2) → f_X1_readChair F (tpa x (nI t) 0) (rmh y 1 a b q tc he so co we) = if w = -1 then some (0, T2, rmh y 1 a b q tc he so co we) else some (1, T2, rmh y 1 a (b + 1) q tc (upd he b v) (upd so b w) co we) := by
    intro v w T T2 hv hT hT2
    unfold f_X1_readChair b_X1_readChair_41
    rw [hT, bd_some]
    dsimp only
    rw [if_neg hv, show (rmh y 1 a b q tc he so co we).1 1 = nI a from rfl, hT2, bd_some]
    dsimp only
    rw [show (rmh y 1 a b q tc he so co we).1 2 = nI b from rfl, show (rmh y 1 a b q tc he so co we).2.1 5 = he from rfl, show (rmh y 1 a b q tc he so co we).2.1 6 = so from rfl, if_pos (show nI b < 8 from nI_lt (b := 8) h8 (by decide)), if_pos (ib_n (show b < 8 from h8) (by decide)), nI_1, nI_clamp (by omega), rmh_ch]
  rcases amt (m := hm m ns nc nh nt nr nw) (lo := 1) (b := 60) (e := e) (d := d) (c := c) (o := o) (so := s1) (nu := n1) (op := o1) (hr2 _ _ _ _ _ _) hF hx ha hp hk (by decide) with ⟨φ, p2, v, h1, h2, h3, h5, h6⟩ | ⟨v, p2, h1, h2, h3, h5, h6, h7, h9, h10⟩
  · have hg := g_amount (F := F) (m := hm m ns nc (upd nh b v) nt nr nw) (p := p2) (f := nI φ) (lo := 0) (b := nI a - 1) (e := e) (d := d) (c := c) (o := o) (s1 := s1) (n1 := n1) (o1 := o1) (hr2 _ _ _ _ _ _) hF (nI_ne0 h1 (by omega)) h3
    exact Or.inl ⟨φ, sk (m.2.1 28) L p2, nI t, _, _, _, _, _, _, h1, h2, sk_le h3, c1 _ h5, rf v 0 _ _ _ _ h6 hg⟩
  · have hv : v ≤ 60 := by
      rw [nI_toInt (by omega), show (60 : Int32).toInt = 60 from by decide] at h2
      omega
    rcases amt (m := hm m ns nc (upd nh b (nI v)) nt nr nw) (lo := 0) (b := nI a - 1) (e := e) (d := d) (c := c) (o := o) (so := s1) (nu := n1) (op := o1) (hr2 _ _ _ _ _ _) hF hx h7 h6 rfl (by decide) with ⟨φ, p3, w, g1, g2, g3, g5, g6⟩ | ⟨w, p3, g1, g2, g3, g5, g6, g7, g9, g10⟩
    · refine Or.inl ⟨φ, p3, nI (t + 1), _, _, _, _, _, _, g1, g2, g3, ?_, rf _ w _ _ _ _ h10 g6⟩
      rw [c2 _ _ _ _ (nI_nm1 (by omega)) h9 g5, if_pos rfl]
    · have hw : w < a := by
        rw [nI_toInt (by omega), nI_m1 (by omega)] at g2
        omega
      have k1 := sk_ge (B := m.2.1 28) h6
      have k2 := sk_ge (B := m.2.1 28) g6
      refine Or.inr ⟨t + 1 + 1, sk (m.2.1 28) L p3, p3, a, b + 1, q, _, _, _, _, _, _, _, _, _, _, _, g7, ?_, g6, rfl, hR.chair h8 h1 hv hw, ?_, rf _ _ _ _ _ _ h10 g10⟩
      · have : sk (m.2.1 28) L p2 < p3 := g5
        omega
      · rw [c2 _ _ _ _ (nI_nm1 (by omega)) h9 g9, if_neg (nI_nm1 (by omega))]
end HCH
end
section
/-! the hall, pure: sitters by both -/
section HSI
variable {F : Nat} {m x y : OB} {L s n : Nat} {e d c o : Int32} {s1 n1 o1 : Nat → Int32}
variable {t i p a b q : Nat} {tc he so co we ns nc nh nt nr nw : Nat → Int32}
theorem tk_num {lo bb : Int32} (hx : TX (m.2.1 28) L x n) (ha : At L x n t i) (hK : lexK (m.2.1 28) L i = 259) : f_X7_takeNumber F lo bb (tpa x (nI t) 0) = if lexV (m.2.1 28) L i < lo then some (-1, tpa x (nI t) (1 + 8 * nI i + 1)) else if lexV (m.2.1 28) L i ≤ bb then some (lexV (m.2.1 28) L i, tpa x (nI (t + 1)) 0) else some (-1, tpa x (nI t) (1 + 8 * nI i + 1)) := by
  have hd := lexK_d.mp hK
  have hiL : i < L := by
    by_cases z : i < L
    · exact z
    · rw [dB_out i (by omega)] at hd
      cases hd
  unfold f_X7_takeNumber b_X7_takeNumber_33
  rw [s_kind hx ha, bd_some, hK, if_pos rfl, s_value hx ha, bd_some, s_skip hx ha hiL, bd_some, s_fail hx ha, bd_some]
theorem tk_no {lo bb : Int32} (hx : TX (m.2.1 28) L x n) (ha : At L x n t i) (hK : ¬ lexK (m.2.1 28) L i = 259) : f_X7_takeNumber F lo bb (tpa x (nI t) 0) = some (-1, tpa x (nI t) (1 + 8 * nI i + 0)) := by
  unfold f_X7_takeNumber
  rw [s_kind hx ha, bd_some, if_neg hK, s_fail hx ha, bd_some]
/-- behind the last sitter the weight is read -/
noncomputable def xsi (F : Nat) (v q : Int32) (M : OB) : Option OB := Option.bind (f_X9_amount F 1 20 M) (fun q2 => (if (q2.2.1 20) = 0 then (if ib q 8 then (b_X9_sitterPart_110 F (q2.2.1, (uF (uF (uF q2.2.2.1 12 (upd (q2.2.2.1 12) (Int32.toNatClampNeg 3) (((q2.2.2.1 12) (Int32.toNatClampNeg 3)) + 1))) 16 (upd (q2.2.2.1 16) (Int32.toNatClampNeg q) v)) 17 (upd (q2.2.2.1 17) (Int32.toNatClampNeg q) q2.1)), q2.2.2.2)) else none) else (b_X9_sitterPart_110 F q2.2)))
theorem seek_end {g : Nat} {v j : Int32} {M : OB} {k : Nat} (hk : q ≤ k) (h8 : k ≤ 8) : lp (b_X9_sitterPart_33 F) (g + 1) (j, v, nI q, nI k, M) = xsi F v (nI q) M := by
  rw [lp_S, b_X9_sitterPart_33]
  dsimp only
  rw [if_pos (nI_le hk (by omega))]
  rfl
/-- in a fault nothing is looked for -/
theorem seek_g {v j p2 f : Int32} (hq : q ≤ 8) (hf : ¬ f = 0) : ∀ (r g k : Nat), k + r = q → r < g → lp (b_X9_sitterPart_33 F) g (j, v, nI q, nI k, ps (hm m ns nc nh nt nr nw) p2 f e d c o s1 n1 o1) = xsi F v (nI q) (ps (hm m ns nc nh nt nr nw) p2 f e d c o s1 n1 o1)
  | 0, g, k, h1, h2 => by
    obtain ⟨g, rfl⟩ : ∃ g', g = g' + 1 := ⟨g - 1, by omega⟩
    exact seek_end (by omega) (by omega)
  | r + 1, g, k, h1, h2 => by
    obtain ⟨g, rfl⟩ : ∃ g', g = g' + 1 := ⟨g - 1, by omega⟩
    rw [lp_S, b_X9_sitterPart_33]
    dsimp only
    rw [if_neg (nI_ge (a := k) (b := q) (by omega) (by omega)), show (ps (hm m ns nc nh nt nr nw) p2 f e d c o s1 n1 o1).1 20 = f from rfl, if_neg hf]
    unfold b_X9_sitterPart_63
    rw [nI_1]
    exact seek_g hq hf r g (k + 1) (by omega) (by omega)
/-- nobody has that chair -/
theorem seek_n {v j p2 : Int32} (hq : q ≤ 8) (hn : ∀ u, u < q → ¬ nr u = v) : ∀ (r g k : Nat), k + r = q → r < g → lp (b_X9_sitterPart_33 F) g (j, v, nI q, nI k, ps (hm m ns nc nh nt nr nw) p2 0 e d c o s1 n1 o1) = xsi F v (nI q) (ps (hm m ns nc nh nt nr nw) p2 0 e d c o s1 n1 o1)
  | 0, g, k, h1, h2 => by
    obtain ⟨g, rfl⟩ : ∃ g', g = g' + 1 := ⟨g - 1, by omega⟩
    exact seek_end (by omega) (by omega)
  | r + 1, g, k, h1, h2 => by
    obtain ⟨g, rfl⟩ : ∃ g', g = g' + 1 := ⟨g - 1, by omega⟩
    rw [lp_S, b_X9_sitterPart_33]
    dsimp only
    rw [if_neg (nI_ge (a := k) (b := q) (by omega) (by omega)), show (ps (hm m ns nc nh nt nr nw) p2 0 e d c o s1 n1 o1).1 20 = 0 from rfl, if_pos rfl, if_pos (ib_n (show k < 8 by omega) (by decide)), show (ps (hm m ns nc nh nt nr nw) p2 0 e d c o s1 n1 o1).2.1 16 = nr from rfl, nI_clamp (by omega), if_neg (hn k (by omega))]
    unfold b_X9_sitterPart_63
    rw [nI_1]
    exact seek_n hq hn r g (k + 1) (by omega) (by omega)
/-- somebody has it -/
theorem seek_y {v j p2 : Int32} (hq : q ≤ 8) (hj : ¬ 1 + 8 * j + 1 = 0) : ∀ (r g k : Nat), k + r = q → r < g → (∃ u, k ≤ u ∧ u < q ∧ nr u = v) → lp (b_X9_sitterPart_33 F) g (j, v, nI q, nI k, ps (hm m ns nc nh nt nr nw) p2 0 e d c o s1 n1 o1) = xsi F v (nI q) (ps (hm m ns nc nh nt nr nw) p2 (1 + 8 * j + 1) e d c o s1 n1 o1)
  | 0, g, k, h1, h2, ⟨u, h3, h4, h5⟩ => absurd h3 (by omega)
  | r + 1, g, k, h1, h2, hu => by
    obtain ⟨g, rfl⟩ : ∃ g', g = g' + 1 := ⟨g - 1, by omega⟩
    rw [lp_S, b_X9_sitterPart_33]
    dsimp only
    rw [if_neg (nI_ge (a := k) (b := q) (by omega) (by omega)), show (ps (hm m ns nc nh nt nr nw) p2 0 e d c o s1 n1 o1).1 20 = 0 from rfl, if_pos rfl, if_pos (ib_n (show k < 8 by omega) (by decide)), show (ps (hm m ns nc nh nt nr nw) p2 0 e d c o s1 n1 o1).2.1 16 = nr from rfl, nI_clamp (by omega)]
    unfold b_X9_sitterPart_63
    rw [nI_1]
    by_cases z : nr k = v
    · rw [if_pos z, s_fails, bd_some, if_pos rfl]
      exact seek_g hq hj r g (k + 1) (by omega) (by omega)
    · rw [if_neg z]
      obtain ⟨u, h3, h4, h5⟩ := hu
      exact seek_y hq hj r g (k + 1) (by omega) (by omega) ⟨u, by
        have : u ≠ k := fun w => z (w ▸ h5)
        omega, h4, h5⟩
theorem xs_bad {p2 : Nat} {f v qq : Int32} (hr : RB m L s) (hF : 600 ≤ F) (hf : ¬ f = 0) (hp : p2 ≤ L) : xsi F v qq (ps (hm m ns nc nh nt nr nw) (nI p2) f e d c o s1 n1 o1) = some (ps (hm m ns nc nh nt nr nw) (nI (sk (m.2.1 28) L p2)) f e d c o s1 n1 o1) := by
  unfold xsi
  rw [g_amount (m := hm m ns nc nh nt nr nw) hr hF hf hp, bd_some]
  dsimp only
  rw [show (ps (hm m ns nc nh nt nr nw) (nI (sk ((hm m ns nc nh nt nr nw).2.1 28) L p2)) f e d c o s1 n1 o1).1 20 = f from rfl, if_neg hf]
  rfl
theorem xs_no {p2 p3 f v w qq : Int32} (hf : ¬ f = 0) (hA : f_X9_amount F 1 20 (ps (hm m ns nc nh nt nr nw) p2 0 e d c o s1 n1 o1) = some (w, ps (hm m ns nc nh nt nr nw) p3 f e d c o s1 n1 o1)) : xsi F v qq (ps (hm m ns nc nh nt nr nw) p2 0 e d c o s1 n1 o1) = some (ps (hm m ns nc nh nt nr nw) p3 f e d c o s1 n1 o1) := by
  unfold xsi
  rw [hA, bd_some]
  dsimp only
  rw [show (ps (hm m ns nc nh nt nr nw) p3 f e d c o s1 n1 o1).1 20 = f from rfl, if_neg hf]
  rfl
theorem xs_yes {p2 p3 v w : Int32} (hq : q < 8) (h3 : ns 3 = nI q) (hA : f_X9_amount F 1 20 (ps (hm m ns nc nh nt nr nw) p2 0 e d c o s1 n1 o1) = some (w, ps (hm m ns nc nh nt nr nw) p3 0 e d c o s1 n1 o1)) : xsi F v (nI q) (ps (hm m ns nc nh nt nr nw) p2 0 e d c o s1 n1 o1) = some (ps (hm m (upd ns 3 (nI (q + 1))) nc nh nt (upd nr q v) (upd nw q w)) p3 0 e d c o s1 n1 o1) := by
  unfold xsi b_X9_sitterPart_110
  rw [hA, bd_some]
  dsimp only
  rw [show (ps (hm m ns nc nh nt nr nw) p3 0 e d c o s1 n1 o1).1 20 = 0 from rfl, if_pos rfl, if_pos (ib_n hq (by decide)), show (ps (hm m ns nc nh nt nr nw) p3 0 e d c o s1 n1 o1).2.1 12 = ns from rfl, show (ps (hm m ns nc nh nt nr nw) p3 0 e d c o s1 n1 o1).2.1 16 = nr from rfl, show (ps (hm m ns nc nh nt nr nw) p3 0 e d c o s1 n1 o1).2.1 17 = nw from rfl, show Int32.toNatClampNeg 3 = 3 from by decide, h3, nI_1, nI_clamp (by omega), ps_121617]
theorem si_part (hr : RB m L s) (hF : 600 ≤ F) (hx : TX (m.2.1 28) L x n) (ha : At L x n t i) (hp : p ≤ L) (hk : sk (m.2.1 28) L p = i) (hR : HR 1 a b q tc he so co we ns nc nh nt nr nw) : BadH m x (rmh y 1 a b q tc he so co we) L e d c o s1 n1 o1 (f_X1_readSitter F (tpa x (nI t) 0) (rmh y 1 a b q tc he so co we)) (f_X9_hallPart F 3 (ps (hm m ns nc nh nt nr nw) (nI p) 0 e d c o s1 n1 o1)) ∨ GoodH m x y L n i e d c o s1 n1 o1 (f_X1_readSitter F (tpa x (nI t) 0) (rmh y 1 a b q tc he so co we)) (f_X9_hallPart F 3 (ps (hm m ns nc nh nt nr nw) (nI p) 0 e d c o s1 n1 o1)) := by
  have h4 := hr.2.1
  have hi := ha.2.1
  have hb8 := hR.2.1.2.1
  have hqb := hR.2.1.2.2
  have hs2 := hR.1.2.2.1
  have hs3 := hR.1.2.2.2
  have e1 : (1 : Int32) + 8 * nI i + 1 = nI (1 + 8 * i + 1) := flt (k := 1)
  have hne : ¬ (1 : Int32) + 8 * nI i + 1 = 0 := by
    rw [e1]
    exact nI_ne0 (by omega) (by omega)
  have rf : ∀ (v p2 f2 : Int32), f_X9_amount F 0 (nI b - 1) (ps (hm m ns nc nh nt nr nw) (nI i) 0 e d c o s1 n1 o1) = some (v, ps (hm m ns nc nh nt nr nw) p2 f2 e d c o s1 n1 o1) → f_X9_hallPart F 3 (ps (hm m ns nc nh nt nr nw) (nI p) 0 e d c o s1 n1 o1) = Option.bind (lp (b_X9_sitterPart_33 F) F (nI i, v, nI q, nI 0, ps (hm m ns nc nh nt nr nw) p2 f2 e d c o s1 n1 o1)) (fun q9 => some q9) := by
    intro v p2 f2 hA
    unfold f_X9_hallPart f_X9_sitterPart b_X9_hallPart_125
    rw [if_neg (show ¬ (3 : Int32) = 0 by decide), if_neg (show ¬ (3 : Int32) = 1 by decide), if_neg (show ¬ (3 : Int32) = 2 by decide), s_blanks (m := hm m ns nc nh nt nr nw) hr hF hp, bd_some, show sk ((hm m ns nc nh nt nr nw).2.1 28) L p = i from hk, show (ps (hm m ns nc nh nt nr nw) (nI i) 0 e d c o s1 n1 o1).2.1 12 = ns from rfl, show Int32.toNatClampNeg 2 = 2 from by decide, hs2, hA, bd_some]
    dsimp only
    rw [show (ps (hm m ns nc nh nt nr nw) p2 f2 e d c o s1 n1 o1).2.1 12 = ns from rfl, show Int32.toNatClampNeg 3 = 3 from by decide, hs3]
    rfl
  have c28 : ∀ T : OB, f_X7_takeNumber F 0 (nI b - 1) (tpa x (nI t) 0) = some (-1, T) → b_X1_readSitter_28 F (tpa x (nI t) 0) (rmh y 1 a b q tc he so co we) = some (0, T, rmh y 1 a b q tc he so co we) := by
    intro T hT
    unfold b_X1_readSitter_28
    rw [show (rmh y 1 a b q tc he so co we).1 2 = nI b from rfl, hT, bd_some]
    dsimp only
    rw [if_pos rfl]
  have c29 : ∀ (v w : Int32) (T T2 : OB), ¬ v = -1 → q < 8 → f_X7_takeNumber F 0 (nI b - 1) (tpa x (nI t) 0) = some (v, T) → f_X7_takeNumber F 1 20 T = some (w, T2) → b_X1_readSitter_28 F (tpa x (nI t) 0) (rmh y 1 a b q tc he so co we) = if w = -1 then some (0, T2, rmh y 1 a b q tc he so co we) else some (1, T2, rmh y 1 a b (q + 1) tc he so (upd co q v) (upd we q w)) := by
    intro v w T T2 hv hq8 hT hT2
    unfold b_X1_readSitter_28 b_X1_readSitter_69
    rw [show (rmh y 1 a b q tc he so co we).1 2 = nI b from rfl, hT, bd_some]
    dsimp only
    rw [if_neg hv, hT2, bd_some]
    dsimp only
    rw [show (rmh y 1 a b q tc he so co we).1 3 = nI q from rfl, show (rmh y 1 a b q tc he so co we).2.1 7 = co from rfl, show (rmh y 1 a b q tc he so co we).2.1 8 = we from rfl, if_pos (show nI q < 8 from nI_lt (b := 8) hq8 (by decide)), if_pos (ib_n hq8 (by decide)), nI_1, nI_clamp (by omega), rmh_si]
  have rs : f_X1_readSitter F (tpa x (nI t) 0) (rmh y 1 a b q tc he so co we) = if lexK (m.2.1 28) L i = 259 then Option.bind (f_X3_sitterOn F (lexV (m.2.1 28) L i) (rmh y 1 a b q tc he so co we)) (fun q10 => (if q10 = (-1) then (b_X1_readSitter_28 F (tpa x (nI t) 0) (rmh y 1 a b q tc he so co we)) else some (0, tpa x (nI t) (1 + 8 * nI i + 1), rmh y 1 a b q tc he so co we))) else b_X1_readSitter_28 F (tpa x (nI t) 0) (rmh y 1 a b q tc he so co we) := by
    unfold f_X1_readSitter
    rw [s_kind hx ha, bd_some, s_value hx ha, bd_some, s_fail hx ha, bd_some]
    dsimp only
    rw [if_pos (Or.inl rfl)]
  have hq8 : q ≤ 8 := by omega
  rcases amt (m := hm m ns nc nh nt nr nw) (p := i) (lo := 0) (b := nI b - 1) (e := e) (d := d) (c := c) (o := o) (so := s1) (nu := n1) (op := o1) hr hF hx ha hi (at_sk hx ha) (by decide) with ⟨φ, p2, v, h1, h2, h3, h5, h6⟩ | ⟨v, p2, h1, h2, h3, h5, h6, h7, h9, h10⟩
  · have hφ := nI_ne0 h1 (show φ < 2 ^ 31 by omega)
    refine Or.inl ⟨φ, sk (m.2.1 28) L p2, nI t, _, _, _, _, _, _, h1, h2, sk_le h3, ?_, by rw [rf v _ _ h6, seek_g hq8 hφ q F 0 (by omega) (by omega), xs_bad hr hF hφ h3]; rfl⟩
    rw [rs]
    by_cases hK : lexK (m.2.1 28) L i = 259
    · rw [if_pos hK]
      rcases s_sitterOn (F := F) (y := y) (t := 1) (a := a) (b := b) (tc := tc) (he := he) (so := so) (we := we) (co := co) (x := lexV (m.2.1 28) L i) hF hq8 with ⟨j, hj, ej, er⟩ | ⟨hn, er⟩
      · obtain ⟨u, hu, eu⟩ := (hR.2.2.2.2.1 j hj).2.2.1
        have hT := tk_num (F := F) (lo := 0) (bb := nI b - 1) hx ha hK
        rw [← ej, eu, if_neg (show ¬ nI u < 0 from nI_pos (by omega)), if_pos (show nI u ≤ nI b - 1 from Int32.le_iff_toInt_le.mpr (by
          rw [nI_toInt (by omega), nI_m1 hb8]
          omega))] at hT
        have z := congrArg Prod.fst (Option.some.inj (hT.symm.trans h5))
        exact absurd z (nI_nm1 (by omega))
      · rw [er, bd_some, if_pos rfl]
        exact c28 _ h5
    · rw [if_neg hK]
      exact c28 _ h5
  · have hvb : v < b := by
      rw [nI_toInt (by omega), nI_m1 hb8] at h2
      omega
    have hK : lexK (m.2.1 28) L i = 259 := Classical.byContradiction (fun z => by
      have hT := tk_no (F := F) (lo := 0) (bb := nI b - 1) hx ha z
      have w := congrArg Prod.fst (Option.some.inj (h9.symm.trans hT))
      exact absurd w (nI_nm1 (by omega)))
    have hV : lexV (m.2.1 28) L i = nI v := by
      have hT := tk_num (F := F) (lo := 0) (bb := nI b - 1) hx ha hK
      rw [show f_X7_takeNumber F 0 (nI b - 1) (tpa x (nI t) 0) = some (nI v, tpa x (nI (t + 1)) 0) from h9] at hT
      by_cases z1 : lexV (m.2.1 28) L i < 0
      · rw [if_pos z1] at hT
        exact absurd (congrArg Prod.fst (Option.some.inj hT)) (nI_nm1 (by omega))
      · rw [if_neg z1] at hT
        by_cases z2 : lexV (m.2.1 28) L i ≤ nI b - 1
        · rw [if_pos z2] at hT
          exact (congrArg Prod.fst (Option.some.inj hT)).symm
        · rw [if_neg z2] at hT
          exact absurd (congrArg Prod.fst (Option.some.inj hT)) (nI_nm1 (by omega))
    rw [rs, if_pos hK, hV]
    rcases s_sitterOn (F := F) (y := y) (t := 1) (a := a) (b := b) (tc := tc) (he := he) (so := so) (we := we) (co := co) (x := nI v) hF hq8 with ⟨j, hj, ej, er⟩ | ⟨hn, er⟩
    · refine Or.inl ⟨1 + 8 * i + 1, sk (m.2.1 28) L p2, nI t, _, _, _, _, _, _, by omega, by omega, sk_le h6, ?_, by rw [rf _ _ _ h10, seek_y hq8 hne q F 0 (by omega) (by omega) ⟨j, by omega, hj, by rw [← (hR.2.2.2.2.1 j hj).1]; exact ej⟩, xs_bad hr hF hne h6, e1]; rfl⟩
      rw [er, bd_some, if_neg (nI_nm1 (by omega)), e1]
    · have hqlt := hR.room hvb hn
      have hnr : ∀ u, u < q → ¬ nr u = nI v := fun u hu z => hn u hu (by rw [(hR.2.2.2.2.1 u hu).1]; exact z)
      rw [er, bd_some, if_pos rfl]
      rcases amt (m := hm m ns nc nh nt nr nw) (lo := 1) (b := 20) (e := e) (d := d) (c := c) (o := o) (so := s1) (nu := n1) (op := o1) hr hF hx h7 h6 rfl (by decide) with ⟨φ, p3, w, g1, g2, g3, g5, g6⟩ | ⟨w, p3, g1, g2, g3, g5, g6, g7, g9, g10⟩
      · refine Or.inl ⟨φ, p3, nI (t + 1), _, _, _, _, _, _, g1, g2, g3, ?_, by rw [rf _ _ _ h10, seek_n hq8 hnr q F 0 (by omega) (by omega), xs_no (nI_ne0 g1 (by omega)) g6]; rfl⟩
        rw [c29 _ _ _ _ (nI_nm1 (by omega)) (by omega) h9 g5, if_pos rfl]
      · have hw : w ≤ 20 := by
          rw [nI_toInt (by omega), show (20 : Int32).toInt = 20 from by decide] at g2
          omega
        have k1 := sk_ge (B := m.2.1 28) h6
        have k2 := sk_ge (B := m.2.1 28) g6
        have k3 : sk (m.2.1 28) L p2 < p3 := g5
        refine Or.inr ⟨t + 1 + 1, sk (m.2.1 28) L p3, p3, a, b, q + 1, _, _, _, _, _, _, _, _, _, _, _, g7, by omega, g6, rfl, hR.sit hqlt hvb g1 hw hn, ?_, by rw [rf _ _ _ h10, seek_n hq8 hnr q F 0 (by omega) (by omega), xs_yes (by omega) hs3 g10]; rfl⟩
        rw [c29 _ _ _ _ (nI_nm1 (by omega)) (by omega) h9 g9, if_neg (nI_nm1 (by omega))]
end HSI
end
section
/-! the hall, pure: one clause by both -/
section HCA
variable {F : Nat} {m x y : OB} {L s n : Nat} {e d c o : Int32} {s1 n1 o1 : Nat → Int32}
variable {t i p a b q t0 cN : Nat} {tc he so co we ns nc nh nt nr nw : Nat → Int32}
theorem full_40 {k : Int32} {M : OB} : f_X9_isFull F k (nI 40) M = some 1 := by
  unfold f_X9_isFull b_X9_isFull_27
  rw [if_pos (by decide)]
/-- the first clause and hall belong together -/
theorem full_n {k v : Int32} {M : OB} (h40 : ¬ v = 40) (h : (k = 0 ∧ ¬ v = 0) ∨ (¬ k = 0 ∧ v = 0)) : f_X9_isFull F k v M = some 1 := by
  unfold f_X9_isFull b_X9_isFull_15 b_X9_isFull_24 b_X9_isFull_27
  rw [if_neg h40]
  rcases h with ⟨h1, h2⟩ | ⟨h1, h2⟩
  · rw [if_pos h1, if_neg h2, if_neg (show ¬ (1 : Int32) = 0 by decide)]
  · rw [if_neg h1, if_pos h2, if_neg (show ¬ (0 : Int32) = 1 by decide)]
theorem full_y {k v : Int32} {M : OB} (h40 : ¬ v = 40) (h : (k = 0 ∧ v = 0) ∨ (¬ k = 0 ∧ ¬ v = 0)) : f_X9_isFull F k v M = some (if (k = 1 ∧ M.2.1 12 1 = 4) ∨ (k = 2 ∧ M.2.1 12 2 = 8) then 1 else 0) := by
  have z : b_X9_isFull_24 F M k 1 1 = some (if (k = 1 ∧ M.2.1 12 1 = 4) ∨ (k = 2 ∧ M.2.1 12 2 = 8) then 1 else 0) ∧ b_X9_isFull_24 F M k 0 0 = some (if (k = 1 ∧ M.2.1 12 1 = 4) ∨ (k = 2 ∧ M.2.1 12 2 = 8) then 1 else 0) := by
    unfold b_X9_isFull_24 b_X9_isFull_44 b_X9_isFull_60 b_X9_isFull_64 b_X9_isFull_65
    rw [if_pos rfl, if_pos rfl, show Int32.toNatClampNeg 1 = 1 from by decide, show Int32.toNatClampNeg 2 = 2 from by decide, if_pos (Or.inr rfl), if_pos (Or.inl rfl)]
    have key : (if k = 1 then (if M.2.1 12 1 = 4 then some (1 : Int32) else if k = 2 then (if M.2.1 12 2 = 8 then some 1 else some 0) else some 0) else if k = 2 then (if M.2.1 12 2 = 8 then some 1 else some 0) else some 0) = some (if (k = 1 ∧ M.2.1 12 1 = 4) ∨ (k = 2 ∧ M.2.1 12 2 = 8) then 1 else 0) := by
      by_cases k1 : k = 1
      · have k2 : ¬ k = 2 := fun w => absurd (k1.symm.trans w) (by decide)
        rw [if_pos k1, if_neg k2]
        by_cases w : M.2.1 12 1 = 4
        · rw [if_pos w, if_pos (Or.inl ⟨k1, w⟩)]
        · rw [if_neg w, if_neg (fun u => by rcases u with u | u; exact w u.2; exact k2 u.1)]
      · rw [if_neg k1]
        by_cases k2 : k = 2
        · rw [if_pos k2]
          by_cases w : M.2.1 12 2 = 8
          · rw [if_pos w, if_pos (Or.inr ⟨k2, w⟩)]
          · rw [if_neg w, if_neg (fun u => by rcases u with u | u; exact k1 u.1; exact w u.2)]
        · rw [if_neg k2, if_neg (fun u => by rcases u with u | u; exact k1 u.1; exact k2 u.1)]
    exact ⟨key, key⟩
  unfold f_X9_isFull b_X9_isFull_15
  rw [if_neg h40]
  rcases h with ⟨h1, h2⟩ | ⟨h1, h2⟩
  · rw [if_pos h1, if_pos h2]
    exact z.1
  · rw [if_neg h1, if_neg h2]
    exact z.2
end HCA
end
section
/-! the hall, pure: one clause by both, whole -/
theorem bd_id {α : Type} (x : Option α) : Option.bind x (fun q => some q) = x := by
  cases x <;> rfl
theorem bo_id {r : Option (Int32 × OB × OB)} {v : Int32} {T R : OB} (h : r = some (v, T, R)) (hv : bo v) : Option.bind r (fun q => if bo q.1 then some (q.1, q.2.1, q.2.2) else none) = r := by
  rw [h, bd_some]
  dsimp only
  rw [if_pos hv]
section HCB
variable {F : Nat} {m x y : OB} {L s n : Nat} {e d c o : Int32} {s1 n1 o1 : Nat → Int32}
variable {t i p a b q t0 cN : Nat} {tc he so co we ns nc nh nt nr nw : Nat → Int32}
theorem c40 (h : cN ≤ 40) : (nI cN = 40 ↔ cN = 40) ∧ ((40 : Int32) ≤ nI cN ↔ cN = 40) ∧ (nI cN = 0 ↔ cN = 0) ∧ ¬ (40 : Int32) < nI cN := by
  have e1 : (nI cN).toInt = cN := nI_toInt (by omega)
  have e2 : (40 : Int32).toInt = 40 := by decide
  refine ⟨?_, ?_, ?_, ?_⟩
  · rw [sp_eq, e1, e2]
    omega
  · rw [sp_le, e1, e2]
    omega
  · rw [sp_eq, e1, sp0]
    omega
  · rw [sp_lt, e1, e2]
    omega
theorem hk_full {k : Nat} (hk : k < 4) (hf : f_X9_isFull F (nI k) (nI cN) (ps (hm m ns nc nh nt nr nw) (nI i) 0 e d c o s1 n1 o1) = some 1) : b_X9_hallClause_33 F (nI cN) (nI i) (nI k) (ps (hm m ns nc nh nt nr nw) (nI i) 0 e d c o s1 n1 o1) = some (ps (hm m ns nc nh nt nr nw) (nI i) (nI (1 + 8 * i + 4)) e d c o s1 n1 o1) := by
  have e4 : (1 : Int32) + 8 * nI i + 4 = nI (1 + 8 * i + 4) := flt (k := 4)
  unfold b_X9_hallClause_33
  rw [if_neg (show ¬ nI k = 4 from fun z => by
    have := congrArg Int32.toInt z
    rw [nI_toInt (by omega), show (4 : Int32).toInt = 4 from by decide] at this
    omega), hf, bd_some, if_neg (show ¬ (1 : Int32) = 0 by decide), s_fails, bd_some, if_pos rfl, e4]
theorem hk_go {k w : Nat} (hk : k < 4) (hw : wdH (nI k) = w) (h18 : w < 18) (hf : f_X9_isFull F (nI k) (nI cN) (ps (hm m ns nc nh nt nr nw) (nI i) 0 e d c o s1 n1 o1) = some 0) : b_X9_hallClause_33 F (nI cN) (nI i) (nI k) (ps (hm m ns nc nh nt nr nw) (nI i) 0 e d c o s1 n1 o1) = f_X9_hallPart F (nI k) (ps (hm m ns nc nh nt nr nw) (nI (i + xl w)) 0 e d c o s1 n1 o1) := by
  unfold b_X9_hallClause_33
  rw [if_neg (show ¬ nI k = 4 from fun z => by
    have := congrArg Int32.toInt z
    rw [nI_toInt (by omega), show (4 : Int32).toInt = 4 from by decide] at this
    omega), hf, bd_some, if_pos rfl, hw, if_pos h18, show (ps (hm m ns nc nh nt nr nw) (nI i) 0 e d c o s1 n1 o1).1 19 = nI i from rfl, nI_add, ps_p]
  exact bd_id _
theorem H_up {i2 : Nat} {R : OB} {rc rc2 : Option (Int32 × OB × OB)} {rr rr2 : Option OB} (h : BadH m x R L e d c o s1 n1 o1 rc rr ∨ GoodH m x y L n i2 e d c o s1 n1 o1 rc rr) (hc : rc2 = Option.bind rc (fun q => if bo q.1 then some (q.1, q.2.1, q.2.2) else none)) (hr : rr2 = rr) (hi : i < i2) : BadH m x R L e d c o s1 n1 o1 rc2 rr2 ∨ GoodH m x y L n i e d c o s1 n1 o1 rc2 rr2 := by
  rw [hr]
  rcases h with ⟨φ, p2, t2, ns, nc, nh, nt, nr, nw, h1, h2, h3, h4, h5⟩ | ⟨t2, i3, p2, a, b, q, tc, he, so, co, we, ns, nc, nh, nt, nr, nw, h1, h2, h3, h4, h5, h6, h7⟩
  · exact Or.inl ⟨φ, p2, t2, ns, nc, nh, nt, nr, nw, h1, h2, h3, by rw [hc, bo_id h4 (Or.inl rfl), h4], h5⟩
  · exact Or.inr ⟨t2, i3, p2, a, b, q, tc, he, so, co, we, ns, nc, nh, nt, nr, nw, h1, by omega, h3, h4, h5, by rw [hc, bo_id h6 (Or.inr rfl), h6], h7⟩
theorem hcl_all (hr : RB m L s) (hF : 600 ≤ F) (hx : TX (m.2.1 28) L x n) (ha : At L x n t i) (hp : p ≤ L) (hk : sk (m.2.1 28) L p = i) (hR : HR t0 a b q tc he so co we ns nc nh nt nr nw) (hc : cN ≤ 40) (ht : (cN = 0 ∧ t0 = 0) ∨ (0 < cN ∧ t0 = 1)) : BadH m x (rmh y t0 a b q tc he so co we) L e d c o s1 n1 o1 (f_X1_readClause F (nI cN) (tpa x (nI t) 0) (rmh y t0 a b q tc he so co we)) (f_X9_hallClause F (nI cN) (ps (hm m ns nc nh nt nr nw) (nI p) 0 e d c o s1 n1 o1)) ∨ cN < 40 ∧ GoodH m x y L n i e d c o s1 n1 o1 (f_X1_readClause F (nI cN) (tpa x (nI t) 0) (rmh y t0 a b q tc he so co we)) (f_X9_hallClause F (nI cN) (ps (hm m ns nc nh nt nr nw) (nI p) 0 e d c o s1 n1 o1)) := by
  have hi := ha.2.1
  have h4 := hr.2.1
  obtain ⟨z40, z40', z0, -⟩ := c40 hc
  have hb0 : Option.bind (f_X7_fail F 0 (tpa x (nI t) 0)) (fun q27 => (if bo q27.1 then (some (q27.1, q27.2, rmh y t0 a b q tc he so co we)) else none)) = some (0, tpa x (nI t) (nI (1 + 8 * i + 0)), rmh y t0 a b q tc he so co we) := c_bad (k := 0) hx ha
  have kf64 : b_X1_readClause_64 F (tpa x (nI t) 0) (rmh y t0 a b q tc he so co we) = some (0, tpa x (nI t) (nI (1 + 8 * i + 4)), rmh y t0 a b q tc he so co we) := c_bad (k := 4) hx ha
  have kf101 : b_X1_readClause_101 F (tpa x (nI t) 0) (rmh y t0 a b q tc he so co we) = some (0, tpa x (nI t) (nI (1 + 8 * i + 4)), rmh y t0 a b q tc he so co we) := c_bad (k := 4) hx ha
  have e0 : (1 : Int32) + 8 * nI i + 0 = nI (1 + 8 * i + 0) := flt (k := 0)
  have ht1 : (rmh y t0 a b q tc he so co we).1 0 = nI t0 := rfl
  have ha1 : (rmh y t0 a b q tc he so co we).1 1 = nI a := rfl
  have hb1 : (rmh y t0 a b q tc he so co we).1 2 = nI b := rfl
  have hab := hR.2.1
  have eR : f_X9_hallClause F (nI cN) (ps (hm m ns nc nh nt nr nw) (nI p) 0 e d c o s1 n1 o1) = lp (b_X9_hallClause_11 F) F (nI cN, nI i, nI 0, ps (hm m ns nc nh nt nr nw) (nI i) 0 e d c o s1 n1 o1) := by
    unfold f_X9_hallClause
    rw [s_blanks (m := hm m ns nc nh nt nr nw) hr hF hp, bd_some, show sk ((hm m ns nc nh nt nr nw).2.1 28) L p = i from hk]
    rfl
  rw [h_words (m := hm m ns nc nh nt nr nw) hr hF hi (by omega)] at eR
  rw [show (hm m ns nc nh nt nr nw).2.1 28 = m.2.1 28 from rfl] at eR
  have eC : f_X1_readClause F (nI cN) (tpa x (nI t) 0) (rmh y t0 a b q tc he so co we) = if lexK (m.2.1 28) L i = 271 then b_X1_readClause_39 F (nI cN) (lexK (m.2.1 28) L i) (tpa x (nI t) 0) (rmh y t0 a b q tc he so co we) else if lexK (m.2.1 28) L i = 272 then b_X1_readClause_39 F (nI cN) (lexK (m.2.1 28) L i) (tpa x (nI t) 0) (rmh y t0 a b q tc he so co we) else if lexK (m.2.1 28) L i = 261 then b_X1_readClause_39 F (nI cN) (lexK (m.2.1 28) L i) (tpa x (nI t) 0) (rmh y t0 a b q tc he so co we) else if lexK (m.2.1 28) L i = 260 then b_X1_readClause_39 F (nI cN) (lexK (m.2.1 28) L i) (tpa x (nI t) 0) (rmh y t0 a b q tc he so co we) else some (0, tpa x (nI t) (nI (1 + 8 * i + 0)), rmh y t0 a b q tc he so co we) := by
    unfold f_X1_readClause
    rw [s_kind hx ha, bd_some, hb0]
  have bad4 : ∀ {rc : Option (Int32 × OB × OB)} {rr : Option OB}, rc = some (0, tpa x (nI t) (nI (1 + 8 * i + 4)), rmh y t0 a b q tc he so co we) → rr = some (ps (hm m ns nc nh nt nr nw) (nI i) (nI (1 + 8 * i + 4)) e d c o s1 n1 o1) → BadH m x (rmh y t0 a b q tc he so co we) L e d c o s1 n1 o1 rc rr := fun h1 h2 => ⟨1 + 8 * i + 4, i, nI t, ns, nc, nh, nt, nr, nw, by omega, by omega, hi, h1, h2⟩
  have word : ∀ w, w < 18 → lexK (m.2.1 28) L i = nI (260 + w) → i < L ∧ i + xl w ≤ L ∧ At L x n (t + 1) (sk (m.2.1 28) L (i + xl w)) ∧ i < sk (m.2.1 28) L (i + xl w) := fun w hw h => by
    obtain ⟨g1, g2⟩ := isW_end hw ((lexK_w hw).mp h)
    have hl : i < L := by
      by_cases z : i < L
      · exact z
      · rw [lB_out i (by omega)] at g2
        cases g2
    have hE := lexE_gt (B := m.2.1 28) hl
    have hAt := (ha.at hx).2.2.2 hl
    rw [g1] at hE hAt
    have hge := sk_ge (B := m.2.1 28) hE.2
    exact ⟨hl, hE.2, hAt, by omega⟩
  rw [eC, eR]
  by_cases k1 : lexK (m.2.1 28) L i = 271
  · obtain ⟨hl, hE, hAt, hlt⟩ := word 11 (by decide) k1
    rw [if_pos k1, if_pos k1, k1]
    by_cases h40 : cN = 40
    · refine Or.inl (bad4 ?_ (hk_full (by decide) (by rw [h40]; exact full_40)))
      unfold b_X1_readClause_39
      rw [if_pos (z40'.mpr h40)]
      exact kf64
    · by_cases h0 : cN = 0
      · have t00 : t0 = 0 := by omega
        have full : f_X9_isFull F (nI 0) (nI cN) (ps (hm m ns nc nh nt nr nw) (nI i) 0 e d c o s1 n1 o1) = some 0 := (full_y (fun z => h40 (z40.mp z)) (Or.inl ⟨rfl, z0.mpr h0⟩)).trans (by
          rw [if_neg (fun u => by
            rcases u with u | u
            · exact absurd u.1 (by decide)
            · exact absurd u.1 (by decide))])
        refine Or.inr ⟨by omega, t + 1, sk (m.2.1 28) L (i + xl 11), i + xl 11, a, b, q, tc, he, so, co, we, upd ns 0 (nI 1), nc, nh, nt, nr, nw, hAt, hlt, hE, rfl, hR.told, ?_, ?_⟩
        · unfold b_X1_readClause_39 b_X1_readClause_57 b_X1_readClause_85 b_X1_readClause_107
          rw [if_neg (fun z => h40 (z40'.mp z)), if_pos (show (271 : Int32) = 271 from rfl), ht1, if_neg (show ¬ (1 : Int32) = nI t0 by rw [t00]; decide), if_neg (show ¬ (271 : Int32) = 272 by decide), if_neg (show ¬ (271 : Int32) = 261 by decide), s_skip hx ha hl, bd_some, if_neg (show ¬ (271 : Int32) = 260 by decide), if_neg (show ¬ (271 : Int32) = 261 by decide), if_neg (show ¬ (271 : Int32) = 272 by decide), rmh_to]
        · rw [hk_go (w := 11) (by decide) (by decide) (by decide) full]
          unfold f_X9_hallPart b_X9_hallPart_125
          rw [if_pos (show nI 0 = 0 from rfl), show Int32.toNatClampNeg 0 = 0 from by decide]
          exact congrArg some (ps_12 (r := upd ns 0 (nI 1)))
      · have t01 : t0 = 1 := by omega
        refine Or.inl (bad4 ?_ (hk_full (by decide) (full_n (fun z => h40 (z40.mp z)) (Or.inl ⟨rfl, fun z => h0 (z0.mp z)⟩))))
        unfold b_X1_readClause_39 b_X1_readClause_57
        rw [if_neg (fun z => h40 (z40'.mp z)), if_pos (show (271 : Int32) = 271 from rfl), ht1, if_pos (show (1 : Int32) = nI t0 by rw [t01]; rfl)]
        exact kf64
  · rw [if_neg k1, if_neg k1]
    have full40 : ∀ {k : Nat} {K : Int32}, k < 4 → cN = 40 → BadH m x (rmh y t0 a b q tc he so co we) L e d c o s1 n1 o1 (b_X1_readClause_39 F (nI cN) K (tpa x (nI t) 0) (rmh y t0 a b q tc he so co we)) (b_X9_hallClause_33 F (nI cN) (nI i) (nI k) (ps (hm m ns nc nh nt nr nw) (nI i) 0 e d c o s1 n1 o1)) := fun hk4 h40 => bad4 (by
      unfold b_X1_readClause_39
      rw [if_pos (z40'.mpr h40)]
      exact kf64) (hk_full hk4 (by rw [h40]; exact full_40))
    have full0 : ∀ {k : Nat} {K : Int32}, k < 4 → ¬ nI k = 0 → ¬ K = 271 → cN = 0 → BadH m x (rmh y t0 a b q tc he so co we) L e d c o s1 n1 o1 (b_X1_readClause_39 F (nI cN) K (tpa x (nI t) 0) (rmh y t0 a b q tc he so co we)) (b_X9_hallClause_33 F (nI cN) (nI i) (nI k) (ps (hm m ns nc nh nt nr nw) (nI i) 0 e d c o s1 n1 o1)) := fun hk4 hk0 hK h0 => bad4 (by
      have t00 : t0 = 0 := by omega
      unfold b_X1_readClause_39 b_X1_readClause_57
      rw [if_neg (fun z => absurd (z40'.mp z) (by omega)), if_neg hK, ht1, if_pos (show (0 : Int32) = nI t0 by rw [t00]; rfl)]
      exact kf64) (hk_full hk4 (full_n (fun z => absurd (z40.mp z) (by omega)) (Or.inr ⟨hk0, z0.mpr h0⟩)))
    by_cases k2 : lexK (m.2.1 28) L i = 272
    · obtain ⟨hl, hE, hAt, hlt⟩ := word 12 (by decide) k2
      rw [if_pos k2, if_pos k2, k2]
      by_cases h40 : cN = 40
      · exact Or.inl (full40 (by decide) h40)
      · by_cases h0 : cN = 0
        · exact Or.inl (full0 (by decide) (by decide) (by decide) h0)
        · obtain rfl : t0 = 1 := by omega
          have c57 : b_X1_readClause_39 F (nI cN) 272 (tpa x (nI t) 0) (rmh y 1 a b q tc he so co we) = if (4 : Int32) ≤ nI a then b_X1_readClause_101 F (tpa x (nI t) 0) (rmh y 1 a b q tc he so co we) else b_X1_readClause_85 F 272 (tpa x (nI t) 0) (rmh y 1 a b q tc he so co we) := by
            unfold b_X1_readClause_39 b_X1_readClause_57
            rw [if_neg (fun z => h40 (z40'.mp z)), if_neg (show ¬ (272 : Int32) = 271 by decide), ht1, if_neg (show ¬ (0 : Int32) = nI 1 by decide), if_pos (show (272 : Int32) = 272 from rfl), ha1]
          have fy := full_y (F := F) (k := nI 1) (v := nI cN) (M := ps (hm m ns nc nh nt nr nw) (nI i) 0 e d c o s1 n1 o1) (fun z => h40 (z40.mp z)) (Or.inr ⟨by decide, fun z => h0 (z0.mp z)⟩)
          have ens : (ps (hm m ns nc nh nt nr nw) (nI i) 0 e d c o s1 n1 o1).2.1 12 1 = nI a := hR.1.2.1
          by_cases ha4 : a = 4
          · refine Or.inl (bad4 ?_ (hk_full (by decide) (fy.trans (by
              rw [if_pos (Or.inl ⟨rfl, by rw [ens, ha4]; rfl⟩)]))))
            rw [c57, if_pos (by rw [ha4]; decide)]
            exact kf101
          · have ha4' : a < 4 := by omega
            rw [if_neg (fun u => by
              rcases u with u | u
              · rw [ens] at u
                exact ha4 ((nI_eq (by omega) (by decide)).mp (show nI a = nI 4 from u.2))
              · exact absurd u.1 (by decide))] at fy
            refine (H_up (st_part (p := i + xl 12) hr hF hx hAt hE rfl hR ha4') ?_ (hk_go (w := 12) (by decide) (by decide) (by decide) fy) hlt).imp_right (fun z => ⟨by omega, z⟩)
            rw [c57, if_neg (show ¬ (4 : Int32) ≤ nI a from nI_ge (a := a) (b := 4) ha4' (by decide))]
            unfold b_X1_readClause_85 b_X1_readClause_107
            rw [if_neg (show ¬ (272 : Int32) = 261 by decide), s_skip hx ha hl, bd_some, if_neg (show ¬ (272 : Int32) = 260 by decide), if_neg (show ¬ (272 : Int32) = 261 by decide), if_pos (show (272 : Int32) = 272 from rfl)]
    · rw [if_neg k2, if_neg k2]
      by_cases k3 : lexK (m.2.1 28) L i = 261
      · obtain ⟨hl, hE, hAt, hlt⟩ := word 1 (by decide) k3
        rw [if_pos k3, if_pos k3, k3]
        by_cases h40 : cN = 40
        · exact Or.inl (full40 (by decide) h40)
        · by_cases h0 : cN = 0
          · exact Or.inl (full0 (by decide) (by decide) (by decide) h0)
          · obtain rfl : t0 = 1 := by omega
            have c57 : b_X1_readClause_39 F (nI cN) 261 (tpa x (nI t) 0) (rmh y 1 a b q tc he so co we) = if nI b < 8 then b_X1_readClause_107 F 261 (tpa x (nI t) 0) (rmh y 1 a b q tc he so co we) else b_X1_readClause_101 F (tpa x (nI t) 0) (rmh y 1 a b q tc he so co we) := by
              unfold b_X1_readClause_39 b_X1_readClause_57 b_X1_readClause_85
              rw [if_neg (fun z => h40 (z40'.mp z)), if_neg (show ¬ (261 : Int32) = 271 by decide), ht1, if_neg (show ¬ (0 : Int32) = nI 1 by decide), if_neg (show ¬ (261 : Int32) = 272 by decide), if_pos (show (261 : Int32) = 261 from rfl), hb1]
            have fy := full_y (F := F) (k := nI 2) (v := nI cN) (M := ps (hm m ns nc nh nt nr nw) (nI i) 0 e d c o s1 n1 o1) (fun z => h40 (z40.mp z)) (Or.inr ⟨by decide, fun z => h0 (z0.mp z)⟩)
            have ens : (ps (hm m ns nc nh nt nr nw) (nI i) 0 e d c o s1 n1 o1).2.1 12 2 = nI b := hR.1.2.2.1
            by_cases hb8 : b = 8
            · refine Or.inl (bad4 ?_ (hk_full (by decide) (fy.trans (by
                rw [if_pos (Or.inr ⟨rfl, by rw [ens, hb8]; rfl⟩)]))))
              rw [c57, if_neg (by rw [hb8]; decide)]
              exact kf101
            · have hb8' : b < 8 := by omega
              rw [if_neg (fun u => by
                rcases u with u | u
                · exact absurd u.1 (by decide)
                · rw [ens] at u
                  exact hb8 ((nI_eq (by omega) (by decide)).mp (show nI b = nI 8 from u.2)))] at fy
              refine (H_up (ch_part (p := i + xl 1) hr hF hx hAt hE rfl hR hb8') ?_ (hk_go (w := 1) (by decide) (by decide) (by decide) fy) hlt).imp_right (fun z => ⟨by omega, z⟩)
              rw [c57, if_pos (show nI b < 8 from nI_lt (a := b) (b := 8) hb8' (by decide))]
              unfold b_X1_readClause_107
              rw [s_skip hx ha hl, bd_some, if_neg (show ¬ (261 : Int32) = 260 by decide), if_pos (show (261 : Int32) = 261 from rfl)]
      · rw [if_neg k3, if_neg k3]
        by_cases k4 : lexK (m.2.1 28) L i = 260
        · obtain ⟨hl, hE, hAt, hlt⟩ := word 0 (by decide) k4
          rw [if_pos k4, if_pos k4, k4]
          by_cases h40 : cN = 40
          · exact Or.inl (full40 (by decide) h40)
          · by_cases h0 : cN = 0
            · exact Or.inl (full0 (by decide) (by decide) (by decide) h0)
            · obtain rfl : t0 = 1 := by omega
              have fy := full_y (F := F) (k := nI 3) (v := nI cN) (M := ps (hm m ns nc nh nt nr nw) (nI i) 0 e d c o s1 n1 o1) (fun z => h40 (z40.mp z)) (Or.inr ⟨by decide, fun z => h0 (z0.mp z)⟩)
              rw [if_neg (fun u => by
                rcases u with u | u
                · exact absurd u.1 (by decide)
                · exact absurd u.1 (by decide))] at fy
              refine (H_up (si_part (p := i + xl 0) hr hF hx hAt hE rfl hR) ?_ (hk_go (w := 0) (by decide) (by decide) (by decide) fy) hlt).imp_right (fun z => ⟨by omega, z⟩)
              unfold b_X1_readClause_39 b_X1_readClause_57 b_X1_readClause_85 b_X1_readClause_107
              rw [if_neg (fun z => h40 (z40'.mp z)), if_neg (show ¬ (260 : Int32) = 271 by decide), ht1, if_neg (show ¬ (0 : Int32) = nI 1 by decide), if_neg (show ¬ (260 : Int32) = 272 by decide), if_neg (show ¬ (260 : Int32) = 261 by decide), s_skip hx ha hl, bd_some, if_pos (show (260 : Int32) = 260 from rfl)]
        · rw [if_neg k4, if_neg k4]
          refine Or.inl ⟨1 + 8 * i + 0, i, nI t, ns, nc, nh, nt, nr, nw, by omega, by omega, hi, rfl, ?_⟩
          unfold b_X9_hallClause_33
          rw [if_pos (show nI 4 = 4 from rfl), s_fails, bd_some, if_pos rfl, e0]
end HCB
end
section
/-! bits and sums; a hall in numbers; the class's room: what it weighs -/
theorem rb_l : ∀ n, n < 32 → ((nI n &&& 31).toBitVec.smod 32).toNat = n := by decide +kernel
theorem r_bit {n k : Nat} (hn : n < 2 ^ 31) (hk : k < 32) : ((nI n >>> (nI k &&& 31)) &&& 1) = nI (n / 2 ^ k % 2) := by
  have h1 : n / 2 ^ k ≤ n := Nat.div_le_self _ _
  have e := pk_andN (n := n / 2 ^ k) (by omega) (m := 1) 1 (by decide)
  rw [pk_shrN hn _ k (rb_l k hk)]
  exact e
/-- one is in a set -/
abbrev bS (S k : Nat) : Prop := S / 2 ^ k % 2 = 1
theorem r_bit0 {n k : Nat} (hn : n < 2 ^ 31) (hk : k < 32) : ((nI n >>> (nI k &&& 31)) &&& 1) = 0 ↔ ¬ bS n k := by
  have h2 : n / 2 ^ k % 2 < 2 := Nat.mod_lt _ (by decide)
  rw [r_bit hn hk]
  have e : nI (n / 2 ^ k % 2) = 0 ↔ n / 2 ^ k % 2 = 0 := nI_eq (b := 0) (by omega) (by decide)
  rw [e]
  show _ ↔ ¬ (n / 2 ^ k % 2 = 1)
  omega
noncomputable def sumB : Nat → (Nat → Nat) → Nat
  | 0, _ => 0
  | n + 1, f => sumB n f + f n
theorem sumB_S (n : Nat) (f : Nat → Nat) : sumB (n + 1) f = sumB n f + f n := rfl
theorem sumB_le {f : Nat → Nat} {M : Nat} : ∀ n, (∀ k, k < n → f k ≤ M) → sumB n f ≤ n * M
  | 0, _ => Nat.zero_le _
  | n + 1, h => by
    have h1 := sumB_le n (fun k hk => h k (by omega))
    have h2 := h n (by omega)
    rw [sumB_S, Nat.succ_mul]
    omega
theorem sumB_cg {f g : Nat → Nat} : ∀ n, (∀ k, k < n → f k = g k) → sumB n f = sumB n g
  | 0, _ => rfl
  | n + 1, h => by
    rw [sumB_S, sumB_S, sumB_cg n (fun k hk => h k (by omega)), h n (by omega)]
theorem sumB_mono {f g : Nat → Nat} : ∀ n, (∀ k, k < n → f k ≤ g k) → sumB n f ≤ sumB n g
  | 0, _ => Nat.le_refl _
  | n + 1, h => by
    have h1 := sumB_mono n (fun k hk => h k (by omega))
    have h2 := h n (by omega)
    rw [sumB_S, sumB_S]
    omega
theorem sumB_one {f : Nat → Nat} {j : Nat} : ∀ n, j < n → f j ≤ sumB n f
  | 0, h => absurd h (Nat.not_lt_zero _)
  | n + 1, h => by
    rw [sumB_S]
    by_cases e : j = n
    · rw [e]
      omega
    · have := sumB_one (f := f) n (show j < n by omega)
      omega
/-- a hall: told, strands, chairs, sitters; cane told, heights, strands of chairs, chairs of sitters, weights -/
abbrev HLd : Type := (Nat → Nat) × (Nat → Nat → Nat)
noncomputable def sq_ (h : HLd) (k : Nat) : Nat := h.2 6 (h.2 7 k)
noncomputable def ldT (h : HLd) (S s k : Nat) : Nat := if bS S k ∧ sq_ h k = s then h.2 8 k else 0
noncomputable def hdT (h : HLd) (S s k : Nat) : Nat := if bS S k ∧ sq_ h k = s then 1 else 0
noncomputable def ldS (h : HLd) (S s : Nat) : Nat := sumB (h.1 3) (ldT h S s)
noncomputable def hdS (h : HLd) (S s : Nat) : Nat := sumB (h.1 3) (hdT h S s)
noncomputable def HOK (h : HLd) : Prop := h.1 0 ≤ 1 ∧ h.1 1 ≤ 4 ∧ h.1 2 ≤ 8 ∧ h.1 3 ≤ h.1 2 ∧ (∀ k, k < h.1 1 → h.2 4 k ≤ 99) ∧ (∀ k, k < h.1 2 → 1 ≤ h.2 5 k ∧ h.2 5 k ≤ 60 ∧ h.2 6 k < h.1 1) ∧ ∀ k, k < h.1 3 → h.2 7 k < h.1 2 ∧ 1 ≤ h.2 8 k ∧ h.2 8 k ≤ 20
/-- the class's room holds the hall -/
noncomputable def HKd (h : HLd) (rm : OB) : Prop := (rm.1 0 = nI (h.1 0) ∧ rm.1 1 = nI (h.1 1) ∧ rm.1 2 = nI (h.1 2) ∧ rm.1 3 = nI (h.1 3)) ∧ (∀ k, k < h.1 1 → rm.2.1 4 k = nI (h.2 4 k)) ∧ (∀ k, k < h.1 2 → rm.2.1 5 k = nI (h.2 5 k) ∧ rm.2.1 6 k = nI (h.2 6 k)) ∧ ∀ k, k < h.1 3 → rm.2.1 7 k = nI (h.2 7 k) ∧ rm.2.1 8 k = nI (h.2 8 k)
theorem HOK.q8 {h : HLd} (H : HOK h) : h.1 3 ≤ 8 := Nat.le_trans H.2.2.2.1 H.2.2.1
theorem HOK.sq {h : HLd} (H : HOK h) {k : Nat} (hk : k < h.1 3) : sq_ h k < h.1 1 := (H.2.2.2.2.2.1 _ (H.2.2.2.2.2.2 k hk).1).2.2
theorem HOK.sq4 {h : HLd} (H : HOK h) {k : Nat} (hk : k < h.1 3) : sq_ h k < 4 := Nat.lt_of_lt_of_le (H.sq hk) H.2.1
theorem ld_le {h : HLd} (H : HOK h) (S s n : Nat) (hn : n ≤ h.1 3) : sumB n (ldT h S s) ≤ n * 20 := sumB_le n (fun k hk => by
  unfold ldT
  by_cases e : bS S k ∧ sq_ h k = s
  · rw [if_pos e]
    exact (H.2.2.2.2.2.2 k (by omega)).2.2
  · rw [if_neg e]
    omega)
theorem hd_le {h : HLd} (S s n : Nat) : sumB n (hdT h S s) ≤ n * 1 := sumB_le n (fun k hk => by
  unfold hdT
  by_cases e : bS S k ∧ sq_ h k = s
  · rw [if_pos e]
    omega
  · rw [if_neg e]
    omega)
section RM1
variable {F : Nat} {rm : OB} {h : HLd} {S : Nat}
theorem s_isDown {q k : Nat} (h3 : rm.1 3 = nI q) (hS : rm.1 10 = nI S) (h31 : S < 2 ^ 31) (hk : k < q) (hq : q ≤ 8) : f_X3_isDown F (nI k) rm = some (if bS S k then 1 else 0) := by
  unfold f_X3_isDown b_X3_isDown_27 b_X3_isDown_28
  rw [if_neg (nI_pos (by omega)), h3, if_neg (nI_ge hk (by omega)), hS]
  by_cases e : bS S k
  · rw [if_neg (fun z => (r_bit0 h31 (by omega)).mp z e), if_pos (Or.inr rfl), if_pos e]
  · rw [if_pos ((r_bit0 h31 (by omega)).mpr e), if_pos (Or.inl rfl), if_neg e]
theorem s_fillL {n : Nat} {v : Int32} (hn : n ≤ 30) : ∀ (r g k : Nat) (row : Nat → Int32), k + r = n → r < g → (∀ j, j < k → row j = v) → ∃ row2, lp (b_J7_fill_53178_5 F n) g (v, nI k, Int32.ofNat n, row) = some row2 ∧ ∀ j, j < n → row2 j = v
  | 0, g, k, row, h1, h2, h3 => by
    obtain ⟨g, rfl⟩ : ∃ g', g = g' + 1 := ⟨g - 1, by omega⟩
    refine ⟨row, ?_, fun j hj => h3 j (by omega)⟩
    rw [lp_S, b_J7_fill_53178_5]
    dsimp only
    rw [if_pos (show Int32.ofNat n ≤ nI k from nI_le (a := n) (b := k) (by omega) (by omega))]
  | r + 1, g, k, row, h1, h2, h3 => by
    obtain ⟨g, rfl⟩ : ∃ g', g = g' + 1 := ⟨g - 1, by omega⟩
    rw [lp_S, b_J7_fill_53178_5]
    dsimp only
    rw [if_neg (show ¬ Int32.ofNat n ≤ nI k from nI_ge (a := k) (b := n) (by omega) (by omega)), if_pos (ib_n (by omega) (by omega)), nI_1, nI_clamp (by omega)]
    exact s_fillL hn r g (k + 1) _ (by omega) (by omega) (fun j hj => by
      by_cases e : j = k
      · rw [e, pk_us]
      · rw [pk_un e]
        exact h3 j (by omega))
theorem s_fill {n : Nat} {v : Int32} {row : Nat → Int32} (hn : n ≤ 30) (hF : 600 ≤ F) : ∃ row2, f_J7_fill_53178 F n v row = some row2 ∧ ∀ j, j < n → row2 j = v := s_fillL (F := F) hn n F 0 row (by omega) (by omega) (fun j hj => absurd hj (Nat.not_lt_zero _))
noncomputable def rmw (rm : OB) (l e : Nat → Int32) : OB := (rm.1, uF (uF rm.2.1 13 l) 14 e, rm.2.2)
theorem rmw_up {l e l2 e2 : Nat → Int32} : (((rmw rm l e).1, uF (uF (rmw rm l e).2.1 13 l2) 14 e2, (rmw rm l e).2.2) : OB) = rmw rm l2 e2 := by
  unfold rmw
  dsimp only
  rw [uF_cm (i := 14) (j := 13) (by decide), uF_uF, uF_uF]
theorem w_loop (H : HOK h) (K : HKd h rm) (hS : rm.1 10 = nI S) (h31 : S < 2 ^ 31) : ∀ (r g k : Nat) (l e : Nat → Int32), k + r = h.1 3 → r < g → (∀ s, s < h.1 1 → l s = nI (sumB k (ldT h S s)) ∧ e s = nI (sumB k (hdT h S s))) → ∃ l2 e2, lp (b_X3_weigh_18 F) g (nI k, rmw rm l e) = some (rmw rm l2 e2) ∧ ∀ s, s < h.1 1 → l2 s = nI (ldS h S s) ∧ e2 s = nI (hdS h S s)
  | 0, g, k, l, e, h1, h2, h3 => by
    obtain ⟨g, rfl⟩ : ∃ g', g = g' + 1 := ⟨g - 1, by omega⟩
    have hq := H.q8
    refine ⟨l, e, ?_, fun s hs => ?_⟩
    · rw [lp_S, b_X3_weigh_18]
      dsimp only
      rw [show (rmw rm l e).1 3 = nI (h.1 3) from K.1.2.2.2, if_pos (nI_le (by omega) (by omega))]
    · have := h3 s hs
      rw [show k = h.1 3 by omega] at this
      exact this
  | r + 1, g, k, l, e, h1, h2, h3 => by
    obtain ⟨g, rfl⟩ : ∃ g', g = g' + 1 := ⟨g - 1, by omega⟩
    have hq := H.q8
    have hkq : k < h.1 3 := by omega
    have e3 : (rmw rm l e).1 3 = nI (h.1 3) := K.1.2.2.2
    rw [lp_S, b_X3_weigh_18]
    dsimp only
    rw [e3, if_neg (nI_ge hkq (by omega)), s_isDown (rm := rmw rm l e) e3 hS h31 hkq hq, bd_some]
    have nxt : ∀ l e, b_X3_weigh_71 F (lp (b_X3_weigh_18 F) g) (nI k) (rmw rm l e) = lp (b_X3_weigh_18 F) g (nI (k + 1), rmw rm l e) := fun l e => by
      unfold b_X3_weigh_71
      rw [nI_1]
    by_cases hb : bS S k
    · have h7 := (K.2.2.2 k hkq).1
      have h8 := (K.2.2.2 k hkq).2
      have hc := (H.2.2.2.2.2.2 k hkq).1
      have h6 := (K.2.2.1 _ hc).2
      have hs : sq_ h k < h.1 1 := H.sq hkq
      have hs4 : sq_ h k < 4 := H.sq4 hkq
      have h6' : rm.2.1 6 (h.2 7 k) = nI (sq_ h k) := h6
      have hc8 : h.2 7 k < 8 := Nat.lt_of_lt_of_le hc H.2.2.1
      rw [if_pos hb, if_neg (show ¬ (1 : Int32) = 0 by decide), if_pos (ib_n (show k < 8 by omega) (by decide)), nI_clamp (show k < 2 ^ 31 by omega), show (rmw rm l e).2.1 7 = rm.2.1 7 from rfl, h7, nI_clamp (show h.2 7 k < 2 ^ 31 by omega), show (rmw rm l e).2.1 6 = rm.2.1 6 from rfl, h6', nI_clamp (show sq_ h k < 2 ^ 31 by omega), if_pos (ib_n hc8 (by decide)), if_pos (ib_n hs4 (by decide)), show (rmw rm l e).2.1 13 = l from rfl, show (rmw rm l e).2.1 14 = e from rfl, show (rmw rm l e).2.1 8 = rm.2.1 8 from rfl, h8, (h3 _ hs).1, (h3 _ hs).2, nI_add, nI_1, rmw_up, nxt]
      refine w_loop H K hS h31 r g (k + 1) _ _ (by omega) (by omega) (fun s hs2 => ?_)
      rw [sumB_S, sumB_S]
      unfold ldT hdT
      by_cases es : s = sq_ h k
      · rw [es, pk_us, pk_us, if_pos ⟨hb, rfl⟩, if_pos ⟨hb, rfl⟩]
        exact ⟨rfl, rfl⟩
      · rw [pk_un es, pk_un es, if_neg (fun z => es z.2.symm), if_neg (fun z => es z.2.symm)]
        exact h3 s hs2
    · rw [if_neg hb, if_pos rfl, nxt]
      refine w_loop H K hS h31 r g (k + 1) _ _ (by omega) (by omega) (fun s hs2 => ?_)
      rw [sumB_S, sumB_S]
      unfold ldT hdT
      rw [if_neg (fun z => hb z.1), if_neg (fun z => hb z.1)]
      exact h3 s hs2
theorem s_weigh (H : HOK h) (K : HKd h rm) (hS : rm.1 10 = nI S) (h31 : S < 2 ^ 31) (hF : 600 ≤ F) : ∃ l2 e2, f_X3_weigh F rm = some (rmw rm l2 e2) ∧ ∀ s, s < h.1 1 → l2 s = nI (ldS h S s) ∧ e2 s = nI (hdS h S s) := by
  have hq := H.q8
  have h4 := H.2.1
  obtain ⟨r1, e1, g1⟩ := s_fill (F := F) (n := 4) (v := 0) (row := rm.2.1 13) (by decide) hF
  obtain ⟨r2, e2, g2⟩ := s_fill (F := F) (n := 4) (v := 0) (row := rm.2.1 14) (by decide) hF
  unfold f_X3_weigh
  rw [e1, bd_some, e2, bd_some]
  exact w_loop H K hS h31 (h.1 3) F 0 r1 r2 (by omega) (by omega) (fun s hs => ⟨g1 s (by omega), g2 s (by omega)⟩)
end RM1
/-- the class's room holds the hall and how it is -/
noncomputable def CDd (h : HLd) (cn : Nat → Nat) (S D mi : Nat) (rm : OB) : Prop := HKd h rm ∧ (rm.1 10 = nI S ∧ rm.1 11 = nI D ∧ rm.1 12 = nI mi) ∧ (∀ k, k < 4 → rm.2.1 9 k = nI (cn k)) ∧ ∀ s, s < h.1 1 → rm.2.1 13 s = nI (ldS h S s) ∧ rm.2.1 14 s = nI (hdS h S s)
end
section
/-! the hall, pure: all clauses by both -/
noncomputable def fin0 (M : OB) : OB := (uF M.1 18 0, M.2.1, M.2.2)
/-- the rows that the reference has read hold the hall -/
noncomputable def NKd (h : HLd) (ns nc nh nt nr nw : Nat → Int32) : Prop := (ns 0 = nI (h.1 0) ∧ ns 1 = nI (h.1 1) ∧ ns 2 = nI (h.1 2) ∧ ns 3 = nI (h.1 3)) ∧ (∀ k, k < h.1 1 → nc k = nI (h.2 4 k)) ∧ (∀ k, k < h.1 2 → nh k = nI (h.2 5 k) ∧ nt k = nI (h.2 6 k)) ∧ ∀ k, k < h.1 3 → nr k = nI (h.2 7 k) ∧ nw k = nI (h.2 8 k)
noncomputable def nat_ (x : Int32) : Nat := x.toInt.toNat
theorem nat_n {x : Int32} {v : Nat} (h : x = nI v) (hv : v < 2 ^ 31) : nat_ x = v ∧ x = nI (nat_ x) := by
  have e : nat_ x = v := by
    unfold nat_
    rw [h, nI_toInt hv]
    rfl
  exact ⟨e, by rw [e]; exact h⟩
/-- the hall of what was read -/
noncomputable def hlo (a b q : Nat) (tc he so co we : Nat → Int32) : HLd := (fun i => [1, a, b, q].getD i 0, fun j k => nat_ (([tc, he, so, co, we].getD (j - 4) (fun _ => 0)) k))
noncomputable def restR (y : OB) (a b q : Nat) (tc he so co we : Nat → Int32) : OB := ((uF (uF (uF (uF (rmh y 1 a b q tc he so co we).1 10 0) 11 0) 12 0) 15 0), (uF (rmh y 1 a b q tc he so co we).2.1 9 (va_cpy tc (y.2.1 9) 0 0 4)), (rmh y 1 a b q tc he so co we).2.2)
section HLO
variable {F : Nat} {m x y : OB} {L s n : Nat} {e d c o : Int32} {s1 n1 o1 : Nat → Int32}
variable {a b q : Nat} {tc he so co we ns nc nh nt nr nw : Nat → Int32}
theorem hlo_ok (hR : HR 1 a b q tc he so co we ns nc nh nt nr nw) : HOK (hlo a b q tc he so co we) ∧ NKd (hlo a b q tc he so co we) ns nc nh nt nr nw ∧ HKd (hlo a b q tc he so co we) (restR y a b q tc he so co we) := by
  obtain ⟨g1, g2, g3, g4, g5, g6, g7⟩ := hR
  have f3 : ∀ k, k < a → nat_ (tc k) ≤ 99 ∧ tc k = nI (nat_ (tc k)) ∧ nc k = nI (nat_ (tc k)) := fun k hk => by
    obtain ⟨u1, v, u2, u3⟩ := g3 k hk
    obtain ⟨w1, w2⟩ := nat_n u3 (by omega)
    exact ⟨by omega, w2, u1.symm.trans w2⟩
  have f4 : ∀ k, k < b → (1 ≤ nat_ (he k) ∧ nat_ (he k) ≤ 60 ∧ nat_ (so k) < a) ∧ (he k = nI (nat_ (he k)) ∧ so k = nI (nat_ (so k))) ∧ nh k = nI (nat_ (he k)) ∧ nt k = nI (nat_ (so k)) := fun k hk => by
    obtain ⟨u1, u2, ⟨v, u3, u4, u5⟩, w, u6, u7⟩ := g4 k hk
    obtain ⟨w1, w2⟩ := nat_n u5 (by omega)
    obtain ⟨w3, w4⟩ := nat_n u7 (by omega)
    exact ⟨⟨by omega, by omega, by omega⟩, ⟨w2, w4⟩, u1.symm.trans w2, u2.symm.trans w4⟩
  have f5 : ∀ k, k < q → (nat_ (co k) < b ∧ 1 ≤ nat_ (we k) ∧ nat_ (we k) ≤ 20) ∧ (co k = nI (nat_ (co k)) ∧ we k = nI (nat_ (we k))) ∧ nr k = nI (nat_ (co k)) ∧ nw k = nI (nat_ (we k)) := fun k hk => by
    obtain ⟨u1, u2, ⟨w, u6, u7⟩, v, u3, u4, u5⟩ := g5 k hk
    obtain ⟨w1, w2⟩ := nat_n u5 (by omega)
    obtain ⟨w3, w4⟩ := nat_n u7 (by omega)
    exact ⟨⟨by omega, by omega, by omega⟩, ⟨w4, w2⟩, u1.symm.trans w4, u2.symm.trans w2⟩
  refine ⟨⟨Nat.le_refl _, g2.1, g2.2.1, g2.2.2, fun k hk => (f3 k hk).1, fun k hk => (f4 k hk).1, fun k hk => (f5 k hk).1⟩, ⟨g1, fun k hk => (f3 k hk).2.2, fun k hk => (f4 k hk).2.2, fun k hk => (f5 k hk).2.2⟩, ⟨rfl, rfl, rfl, rfl⟩, fun k hk => (f3 k hk).2.1, fun k hk => (f4 k hk).2.1, fun k hk => (f5 k hk).2.1⟩
theorem bS_0 (k : Nat) : ¬ bS 0 k := by
  show ¬ 0 / 2 ^ k % 2 = 1
  rw [Nat.zero_div]
  decide
theorem s_restart (hR : HR 1 a b q tc he so co we ns nc nh nt nr nw) (hF : 600 ≤ F) : ∃ rm2, f_X3_restart F (rmh y 1 a b q tc he so co we) = some rm2 ∧ CDd (hlo a b q tc he so co we) (fun k => nat_ (tc k)) 0 0 0 rm2 ∧ rm2.1 15 = 0 ∧ rm2.2.1 4 = tc := by
  obtain ⟨H, -, K⟩ := hlo_ok (y := y) hR
  obtain ⟨l2, e2, g1, g2⟩ := s_weigh (F := F) (S := 0) H K rfl (by decide) hF
  refine ⟨rmw (restR y a b q tc he so co we) l2 e2, ?_, ⟨K, ⟨rfl, rfl, rfl⟩, fun k hk => ?_, g2⟩, rfl, rfl⟩
  · unfold f_X3_restart
    rw [show ((uF (uF (uF (uF (rmh y 1 a b q tc he so co we).1 10 0) 11 0) 12 0) 15 0), (uF (rmh y 1 a b q tc he so co we).2.1 9 (va_cpy ((rmh y 1 a b q tc he so co we).2.1 4) ((rmh y 1 a b q tc he so co we).2.1 9) 0 0 4)), (rmh y 1 a b q tc he so co we).2.2) = restR y a b q tc he so co we from rfl, g1, bd_some]
  · obtain ⟨v, u1, u2⟩ := hR.2.2.2.2.2.2 k hk
    show va_cpy tc (y.2.1 9) 0 0 4 k = nI (nat_ (tc k))
    rw [pk_cpy_in (Nat.zero_le _) (by omega), Nat.sub_zero, Nat.zero_add]
    exact (nat_n u2 (by omega)).2
/-- both refuse the hall with the same fault -/
noncomputable def BadHL (m x : OB) (e d c o : Int32) (s1 n1 o1 : Nat → Int32) (rc : Option (Int32 × OB × OB)) (rr : Option OB) : Prop := ∃ (φ : Nat) (p2 t2 : Int32) (ns nc nh nt nr nw : Nat → Int32) (rm2 : OB), 0 < φ ∧ φ < 4000 ∧ Rw (rm2.2.1 4) 4 99 ∧ rc = some (0, tpa x t2 (nI φ), rm2) ∧ rr = some (fin0 (ps (hm m ns nc nh nt nr nw) p2 (nI φ) e d c o s1 n1 o1))
/-- both take the same hall -/
noncomputable def GoodHL (m x : OB) (e d c o : Int32) (s1 n1 o1 : Nat → Int32) (rc : Option (Int32 × OB × OB)) (rr : Option OB) : Prop := ∃ (h : HLd) (cn : Nat → Nat) (p2 t2 : Int32) (ns nc nh nt nr nw : Nat → Int32) (rm2 : OB), HOK h ∧ h.1 0 = 1 ∧ NKd h ns nc nh nt nr nw ∧ (∀ k, k < 4 → cn k ≤ 99) ∧ (∀ k, k < h.1 1 → cn k = h.2 4 k) ∧ CDd h cn 0 0 0 rm2 ∧ Rw (rm2.2.1 4) 4 99 ∧ rc = some (1, tpa x t2 0, rm2) ∧ rr = some (fin0 (ps (hm m ns nc nh nt nr nw) p2 0 e d c o s1 n1 o1))
theorem ra_end {g : Nat} {k : Int32} {M : OB} : lp (b_X9_readsAll_28 F) (g + 1) (k, 0, M) = some (fin0 M) := by
  rw [lp_S, b_X9_readsAll_28]
  dsimp only
  rw [if_pos rfl]
  rfl
theorem hall_loop (hr : RB m L s) (hF : 600 ≤ F) (hx : TX (m.2.1 28) L x n) : ∀ (N cN i t p t0 a b q fc g : Nat) (tc he so co we ns nc nh nt nr nw : Nat → Int32), cN + N = 41 → cN ≤ 40 → At L x n t i → p ≤ L → sk (m.2.1 28) L p = i → HR t0 a b q tc he so co we ns nc nh nt nr nw → ((cN = 0 ∧ t0 = 0) ∨ (0 < cN ∧ t0 = 1)) → N ≤ fc → N + 1 ≤ g →
    BadHL m x e d c o s1 n1 o1 (lp (b_X1_read_10 F) fc (nI cN, tpa x (nI t) 0, rmh y t0 a b q tc he so co we)) (lp (b_X9_readsAll_28 F) g (nI cN, 1, ps (hm m ns nc nh nt nr nw) (nI p) 0 e d c o s1 n1 o1))
    ∨ GoodHL m x e d c o s1 n1 o1 (lp (b_X1_read_10 F) fc (nI cN, tpa x (nI t) 0, rmh y t0 a b q tc he so co we)) (lp (b_X9_readsAll_28 F) g (nI cN, 1, ps (hm m ns nc nh nt nr nw) (nI p) 0 e d c o s1 n1 o1)) := by
  have h4 := hr.2.1
  intro N
  induction N with
  | zero =>
    intros
    omega
  | succ N ih =>
    intro cN i t p t0 a b q fc g tc he so co we ns nc nh nt nr nw hcN hc40 ha hp hk hR ht hfc hg
    obtain ⟨f1, rfl⟩ : ∃ f1, fc = f1 + 1 := ⟨fc - 1, by omega⟩
    obtain ⟨g1, rfl⟩ : ∃ g1, g = g1 + 1 + 1 := ⟨g - 2, by omega⟩
    have rS : ∀ M : OB, lp (b_X9_readsAll_28 F) (g1 + 1 + 1) (nI cN, 1, M) = Option.bind (f_X9_hallClause F (nI cN) M) (fun q5 => Option.bind (f_X9_goesOn F q5) (fun q6 => lp (b_X9_readsAll_28 F) (g1 + 1) (nI cN + 1, q6.1, q6.2))) := fun M => by
      rw [lp_S, b_X9_readsAll_28]
      dsimp only
      rw [if_neg (show ¬ (1 : Int32) = 0 by decide)]
    have cS : lp (b_X1_read_10 F) (f1 + 1) (nI cN, tpa x (nI t) 0, rmh y t0 a b q tc he so co we) = Option.bind (f_X1_readClause F (nI cN) (tpa x (nI t) 0) (rmh y t0 a b q tc he so co we)) (fun q2 => (if q2.1 = 0 then (some (0, q2.2.1, q2.2.2)) else (Option.bind (f_X7_kind F q2.2.1) (fun q4 => (if q4 = (-1) then (Option.bind (f_X3_restart F q2.2.2) (fun q10 => (some (1, q2.2.1, q10)))) else (Option.bind (f_X7_take F 59 q2.2.1) (fun q6 => (if q6.1 = 0 then (Option.bind (f_X7_fail F 0 q6.2) (fun q8 => (if bo q8.1 then (some (q8.1, q8.2, q2.2.2)) else none))) else (lp (b_X1_read_10 F) f1 ((nI cN + 1), q6.2, q2.2.2)))))))))) := by
      rw [lp_S, b_X1_read_10]
      dsimp only
      rw [if_neg (c40 hc40).2.2.2]
    rcases hcl_all (y := y) (e := e) (d := d) (c := c) (o := o) (s1 := s1) (n1 := n1) (o1 := o1) hr hF hx ha hp hk hR hc40 ht with hq | hq
    · obtain ⟨φ, p2, t2, ns2, nc2, nh2, nt2, nr2, nw2, a1, a2, a3, a4, a5⟩ := hq
      obtain ⟨p3, hg3⟩ := g_goes (F := F) (m := hm m ns2 nc2 nh2 nt2 nr2 nw2) (p := p2) (f := nI φ) (e := e) (d := d) (c := c) (o := o) (so := s1) (nu := n1) (op := o1) hr hF (nI_ne0 a1 (by omega)) (by omega)
      refine Or.inl ⟨φ, p3, t2, ns2, nc2, nh2, nt2, nr2, nw2, rmh y t0 a b q tc he so co we, a1, a2, hR.2.2.2.2.2.2, ?_, ?_⟩
      · rw [cS, a4, bd_some]
        dsimp only
        rw [if_pos rfl]
      · rw [rS, a5, bd_some, hg3, bd_some]
        exact ra_end
    · obtain ⟨hc', t2, i2, p2, a', b', q', tc2, he2, so2, co2, we2, ns2, nc2, nh2, nt2, nr2, nw2, a1, a2, a3, a4, a5, a6, a7⟩ := hq
      have hi2 := a1.2.1
      have w := s_goes (F := F) (m := hm m ns2 nc2 nh2 nt2 nr2 nw2) (p := p2) (i := i2) (e := e) (d := d) (c := c) (o := o) (so := s1) (nu := n1) (op := o1) hr hF a3 a4
      rw [show (hm m ns2 nc2 nh2 nt2 nr2 nw2).2.1 28 = m.2.1 28 from rfl] at w
      have hs59 := lexK_s (B := m.2.1 28) (L := L) (i := i2) (x := 59) (by decide)
      rw [a6, bd_some] at cS
      dsimp only at cS
      rw [if_neg (show ¬ (1 : Int32) = 0 by decide), s_kind hx a1, bd_some, s_take hx a1 (by decide)] at cS
      by_cases h1 : i2 = L
      · obtain ⟨rm2, z1, z2, z3, z4⟩ := s_restart (F := F) (y := y) a5 hF
        rw [if_pos ((lexK_E hi2).mpr h1), z1, bd_some] at cS
        rw [if_pos h1] at w
        obtain ⟨H, NKH, -⟩ := hlo_ok (y := y) a5
        refine Or.inr ⟨hlo a' b' q' tc2 he2 so2 co2 we2, fun k => nat_ (tc2 k), nI (i2 + 1), nI t2, ns2, nc2, nh2, nt2, nr2, nw2, rm2, H, rfl, NKH, fun k hk => ?_, fun k hk => rfl, z2, by rw [z4]; exact a5.2.2.2.2.2.2, cS, ?_⟩
        · obtain ⟨v, u1, u2⟩ := a5.2.2.2.2.2.2 k hk
          have := (nat_n u2 (by omega)).1
          show nat_ (tc2 k) ≤ 99
          omega
        · rw [rS, a7, bd_some, w, bd_some]
          exact ra_end
      · rw [if_neg (fun q => h1 ((lexK_E hi2).mp q))] at cS
        rw [if_neg h1] at w
        by_cases h59 : cb (m.2.1 28) L i2 = 59
        · obtain ⟨hE, hl⟩ := lexE_s (by decide) h59
          have hAt := (a1.at hx).2.2.2 hl
          rw [hE] at hAt
          rw [if_pos (hs59.mpr h59), bd_some] at cS
          dsimp only at cS
          rw [if_neg (show ¬ (1 : Int32) = 0 by decide), nI_1] at cS
          rw [if_pos h59] at w
          rw [cS, rS, a7, bd_some, w, bd_some, nI_1]
          dsimp only
          exact ih (cN + 1) (sk (m.2.1 28) L (i2 + 1)) (t2 + 1) (i2 + 1) 1 a' b' q' f1 (g1 + 1) tc2 he2 so2 co2 we2 ns2 nc2 nh2 nt2 nr2 nw2 (by omega) (by omega) hAt (by omega) rfl a5 (Or.inr ⟨by omega, rfl⟩) (by omega) (by omega)
        · have e1 : (1 : Int32) + 8 * nI i2 + 0 = nI (1 + 8 * i2 + 0) := flt (k := 0)
          rw [if_neg (fun q => h59 (hs59.mp q)), bd_some] at cS
          dsimp only at cS
          rw [if_pos rfl, s_fail hx a1, bd_some] at cS
          dsimp only at cS
          rw [if_pos (Or.inl rfl), e1] at cS
          rw [if_neg h59, e1] at w
          refine Or.inl ⟨1 + 8 * i2 + 0, nI (i2 + 1), nI t2, ns2, nc2, nh2, nt2, nr2, nw2, _, by omega, by omega, ?_, cS, ?_⟩
          · exact a5.2.2.2.2.2.2
          · rw [rS, a7, bd_some, w, bd_some]
            exact ra_end
end HLO
end
section
/-! the hall, pure: the whole of both -/
section HWH
variable {F : Nat}
theorem cp_loop {n : Nat} {fr : Nat → Int32} (hn : n ≤ 500) : ∀ (r g k : Nat) (gr : Nat → Int32), k + r = n → r < g → (∀ j, j < k → gr j = fr j) → ∃ g2, lp (b_X9_copies_2 F n n fr) g (nI k, gr) = some g2 ∧ ∀ j, j < n → g2 j = fr j
  | 0, g, k, gr, h1, h2, h3 => by
    obtain ⟨g, rfl⟩ : ∃ g', g = g' + 1 := ⟨g - 1, by omega⟩
    refine ⟨gr, ?_, fun j hj => h3 j (by omega)⟩
    rw [lp_S, b_X9_copies_2]
    dsimp only
    rw [if_pos (show Int32.ofNat n ≤ nI k from nI_le (a := n) (b := k) (by omega) (by omega))]
  | r + 1, g, k, gr, h1, h2, h3 => by
    obtain ⟨g, rfl⟩ : ∃ g', g = g' + 1 := ⟨g - 1, by omega⟩
    rw [lp_S, b_X9_copies_2]
    dsimp only
    rw [if_neg (show ¬ Int32.ofNat n ≤ nI k from nI_ge (a := k) (b := n) (by omega) (by omega)), if_pos (ib_n (by omega) (by omega)), if_pos (ib_n (by omega) (by omega)), nI_1, nI_clamp (by omega)]
    exact cp_loop hn r g (k + 1) _ (by omega) (by omega) (fun j hj => by
      by_cases e : j = k
      · rw [e, pk_us]
      · rw [pk_un e]
        exact h3 j (by omega))
theorem s_copies {n : Nat} {fr gr : Nat → Int32} (hn : n ≤ 500) (hF : 600 ≤ F) : ∃ g2, f_X9_copies F n n fr gr = some g2 ∧ ∀ j, j < n → g2 j = fr j := cp_loop (F := F) hn n F 0 gr (by omega) (by omega) (fun j hj => absurd hj (Nat.not_lt_zero _))
/-- the reference's rows for a minute and who is how -/
noncomputable def mbg (mo : OB) (sc ca is : Nat → Int32) : OB := (mo.1, uF (uF (uF mo.2.1 1 sc) 2 ca) 3 is, mo.2.2)
theorem bg_loop {mo : OB} {sc ca : Nat → Int32} : ∀ (r g k : Nat) (is : Nat → Int32), k + r = 8 → r < g → (∀ j, j < k → is j = 0) → ∃ is2, lp (b_X9_begins_20 F) g (nI k, mbg mo sc ca is) = some (mbg mo sc ca is2) ∧ ∀ j, j < 8 → is2 j = 0
  | 0, g, k, is, h1, h2, h3 => by
    obtain ⟨g, rfl⟩ : ∃ g', g = g' + 1 := ⟨g - 1, by omega⟩
    refine ⟨is, ?_, fun j hj => h3 j (by omega)⟩
    rw [lp_S, b_X9_begins_20]
    dsimp only
    rw [if_pos (show (8 : Int32) ≤ nI k from nI_le (a := 8) (b := k) (by omega) (by omega))]
  | r + 1, g, k, is, h1, h2, h3 => by
    obtain ⟨g, rfl⟩ : ∃ g', g = g' + 1 := ⟨g - 1, by omega⟩
    rw [lp_S, b_X9_begins_20]
    dsimp only
    rw [if_neg (show ¬ (8 : Int32) ≤ nI k from nI_ge (a := k) (b := 8) (by omega) (by omega)), if_pos (ib_n (show k < 8 by omega) (by decide)), nI_1, nI_clamp (by omega), show (mbg mo sc ca is).2.1 3 = is from rfl]
    rw [show (((mbg mo sc ca is).1, uF (mbg mo sc ca is).2.1 3 (upd is k 0), (mbg mo sc ca is).2.2) : OB) = mbg mo sc ca (upd is k 0) from by
      unfold mbg
      dsimp only
      rw [uF_uF]]
    exact bg_loop r g (k + 1) _ (by omega) (by omega) (fun j hj => by
      by_cases e : j = k
      · rw [e, pk_us]
      · rw [pk_un e]
        exact h3 j (by omega))
theorem s_begins {mo : OB} (hF : 600 ≤ F) : ∃ ca2 is2, f_X9_begins F mo = some (mbg mo (upd (mo.2.1 1) 4 0) ca2 is2) ∧ (∀ j, j < 4 → ca2 j = mo.2.1 11 j) ∧ ∀ j, j < 8 → is2 j = 0 := by
  obtain ⟨c2, e1, g1⟩ := s_copies (F := F) (n := 4) (fr := mo.2.1 11) (gr := mo.2.1 2) (by decide) hF
  obtain ⟨i2, e2, g2⟩ := bg_loop (F := F) (mo := mo) (sc := upd (mo.2.1 1) 4 0) (ca := c2) 8 F 0 (mo.2.1 3) (by omega) (by omega) (fun j hj => absurd hj (Nat.not_lt_zero _))
  refine ⟨c2, i2, ?_, g1, g2⟩
  unfold f_X9_begins
  rw [e1, bd_some, show Int32.toNatClampNeg 4 = 4 from by decide, ← e2]
  unfold mbg
  rw [show mo.2.1 3 = uF (uF mo.2.1 1 (upd (mo.2.1 1) 4 0)) 2 c2 3 from rfl, uF_id]
  rfl
theorem sc_loop {mo : OB} : ∀ (r g k : Nat) (sc : Nat → Int32), k + r = 4 → r < g → (∀ j, j < k → sc j = mo.2.1 12 j) → (∀ j, 4 ≤ j → sc j = mo.2.1 1 j) → ∃ sc2, (∀ j, j < 4 → sc2 j = mo.2.1 12 j) ∧ (∀ j, 4 ≤ j → sc2 j = mo.2.1 1 j) ∧ ∃ g2, lp (b_X9_hall_21 F) g (nI k, (mo.1, uF mo.2.1 1 sc, mo.2.2)) = lp (b_X9_hall_21 F) (g2 + 1) (nI 4, (mo.1, uF mo.2.1 1 sc2, mo.2.2))
  | 0, g, k, sc, h1, h2, h3, h4 => by
    obtain ⟨g, rfl⟩ : ∃ g', g = g' + 1 := ⟨g - 1, by omega⟩
    refine ⟨sc, fun j hj => h3 j (by omega), h4, g, ?_⟩
    rw [show k = 4 by omega]
  | r + 1, g, k, sc, h1, h2, h3, h4 => by
    obtain ⟨g, rfl⟩ : ∃ g', g = g' + 1 := ⟨g - 1, by omega⟩
    rw [lp_S, b_X9_hall_21]
    dsimp only
    rw [if_neg (show ¬ (4 : Int32) ≤ nI k from nI_ge (a := k) (b := 4) (by omega) (by omega)), if_pos (ib_n (show k < 4 by omega) (by decide)), if_pos (ib_n (show k < 8 by omega) (by decide)), nI_1, nI_clamp (by omega), show (uF mo.2.1 1 sc) 1 = sc from rfl, show (uF mo.2.1 1 sc) 12 = mo.2.1 12 from rfl, uF_uF]
    exact sc_loop r g (k + 1) _ (by omega) (by omega) (fun j hj => by
      by_cases e : j = k
      · rw [e, pk_us]
      · rw [pk_un e]
        exact h3 j (by omega)) (fun j hj => by
      rw [pk_un (by omega)]
      exact h4 j hj)
/-- the reference holds the hall -/
noncomputable def MKd (h : HLd) (mo : OB) : Prop := (mo.2.1 1 0 = nI (h.1 0) ∧ mo.2.1 1 1 = nI (h.1 1) ∧ mo.2.1 1 2 = nI (h.1 2) ∧ mo.2.1 1 3 = nI (h.1 3)) ∧ (∀ k, k < h.1 1 → mo.2.1 11 k = nI (h.2 4 k)) ∧ (∀ k, k < h.1 2 → mo.2.1 6 k = nI (h.2 5 k) ∧ mo.2.1 4 k = nI (h.2 6 k)) ∧ ∀ k, k < h.1 3 → mo.2.1 7 k = nI (h.2 7 k) ∧ mo.2.1 5 k = nI (h.2 8 k)
/-- how one is -/
noncomputable def stt (S D k : Nat) : Nat := if bS D k then 2 else if bS S k then 1 else 0
/-- the reference holds the hall and how it is -/
noncomputable def MDd (h : HLd) (cn : Nat → Nat) (S D mi : Nat) (mo : OB) : Prop := MKd h mo ∧ mo.2.1 1 4 = nI mi ∧ (∀ k, k < h.1 1 → mo.2.1 2 k = nI (cn k)) ∧ ∀ k, k < h.1 3 → mo.2.1 3 k = nI (stt S D k)
/-- what hall leaves as it was in the reference: all but the rows of the hall, of how it is, and of reading -/
noncomputable def hFr (mo mo2 : OB) : Prop := (∀ j, j ≠ 18 → j ≠ 19 → j ≠ 20 → j ≠ 23 → j ≠ 24 → j ≠ 25 → j ≠ 41 → mo2.1 j = mo.1 j) ∧ (∀ j, 18 ≤ j → mo2.2.1 j = mo.2.1 j) ∧ (∀ j, 8 ≤ j → j < 11 → mo2.2.1 j = mo.2.1 j) ∧ (∀ j, 6 ≤ j → mo2.2.1 1 j = mo.2.1 1 j) ∧ mo2.2.2 = mo.2.2
end HWH
end
section
/-! the hall, pure: hall by both -/
section HAA
variable {F : Nat}
theorem ra_zero {mo : OB} : ∀ (r g k : Nat) (ns : Nat → Int32), k + r = 4 → r < g → (∀ j, j < k → ns j = 0) → ∃ ns2, (∀ j, j < 4 → ns2 j = 0) ∧ lp (b_X9_readsAll_6 F) g (nI k, (mo.1, uF mo.2.1 12 ns, mo.2.2)) = lp (b_X9_readsAll_28 F) F (0, 1, (mo.1, uF mo.2.1 12 ns2, mo.2.2))
  | 0, g, k, ns, h1, h2, h3 => by
    obtain ⟨g, rfl⟩ : ∃ g', g = g' + 1 := ⟨g - 1, by omega⟩
    refine ⟨ns, fun j hj => h3 j (by omega), ?_⟩
    rw [lp_S, b_X9_readsAll_6]
    dsimp only
    rw [if_pos (show (4 : Int32) ≤ nI k from nI_le (a := 4) (b := k) (by omega) (by omega))]
  | r + 1, g, k, ns, h1, h2, h3 => by
    obtain ⟨g, rfl⟩ : ∃ g', g = g' + 1 := ⟨g - 1, by omega⟩
    rw [lp_S, b_X9_readsAll_6]
    dsimp only
    rw [if_neg (show ¬ (4 : Int32) ≤ nI k from nI_ge (a := k) (b := 4) (by omega) (by omega)), if_pos (ib_n (show k < 4 by omega) (by decide)), nI_1, nI_clamp (by omega), show (uF mo.2.1 12 ns) 12 = ns from rfl, uF_uF]
    exact ra_zero r g (k + 1) _ (by omega) (by omega) (fun j hj => by
      by_cases e : j = k
      · rw [e, pk_us]
      · rw [pk_un e]
        exact h3 j (by omega))
/-- what one room takes from another -/
noncomputable def cpR (rm rn : OB) : OB := ((uF (uF (uF (uF (uF (uF (uF (uF rm.1 0 (rn.1 0)) 1 (rn.1 1)) 2 (rn.1 2)) 3 (rn.1 3)) 10 (rn.1 10)) 11 (rn.1 11)) 12 (rn.1 12)) 15 0), (uF (uF (uF (uF (uF (uF (uF (uF rm.2.1 4 (va_cpy (rn.2.1 4) (rm.2.1 4) 0 0 4)) 5 (va_cpy (rn.2.1 5) (rm.2.1 5) 0 0 8)) 6 (va_cpy (rn.2.1 6) (rm.2.1 6) 0 0 8)) 7 (va_cpy (rn.2.1 7) (rm.2.1 7) 0 0 8)) 8 (va_cpy (rn.2.1 8) (rm.2.1 8) 0 0 8)) 9 (va_cpy (rn.2.1 9) (rm.2.1 9) 0 0 4)) 13 (va_cpy (rn.2.1 13) (rm.2.1 13) 0 0 4)) 14 (va_cpy (rn.2.1 14) (rm.2.1 14) 0 0 4)), rm.2.2)
theorem s_copyFrom {h : HLd} {cn : Nat → Nat} {S D mi : Nat} {rm rn : OB} (H : HOK h) (C : CDd h cn S D mi rn) : ∃ rm2, f_X3_copyFrom F rm rn = some rm2 ∧ CDd h cn S D mi rm2 ∧ rm2.1 15 = 0 ∧ rm2.1 16 = rm.1 16 ∧ ∀ k, k < 4 → rm2.2.1 4 k = rn.2.1 4 k := by
  obtain ⟨⟨⟨k0, k1, k2, k3⟩, K4, K5, K6⟩, ⟨c1, c2, c3⟩, C4, C5⟩ := C
  have h4 := H.2.1
  have h8 := H.2.2.1
  have hq := H.q8
  have cp : ∀ {f g : Nat → Int32} {n k : Nat}, k < n → va_cpy f g 0 0 n k = f k := fun hk => by
    rw [pk_cpy_in (Nat.zero_le _) (by omega), Nat.sub_zero, Nat.zero_add]
  have hb : bo (rn.1 0) := by
    rw [k0]
    rcases (show h.1 0 = 0 ∨ h.1 0 = 1 by have := H.1; omega) with z | z
    · rw [z]
      exact Or.inl rfl
    · rw [z]
      exact Or.inr rfl
  refine ⟨cpR rm rn, (if_pos hb : f_X3_copyFrom F rm rn = some (cpR rm rn)), ⟨⟨⟨k0, k1, k2, k3⟩, fun k hk => ?_, fun k hk => ⟨?_, ?_⟩, fun k hk => ⟨?_, ?_⟩⟩, ⟨c1, c2, c3⟩, fun k hk => ?_, fun s hs => ⟨?_, ?_⟩⟩, rfl, rfl, fun k hk => ?_⟩
  · exact (cp (n := 4) (by omega)).trans (K4 k hk)
  · exact (cp (n := 8) (by omega)).trans (K5 k hk).1
  · exact (cp (n := 8) (by omega)).trans (K5 k hk).2
  · exact (cp (n := 8) (by omega)).trans (K6 k hk).1
  · exact (cp (n := 8) (by omega)).trans (K6 k hk).2
  · exact (cp (n := 4) hk).trans (C4 k hk)
  · exact (cp (n := 4) (by omega)).trans (C5 s hs).1
  · exact (cp (n := 4) (by omega)).trans (C5 s hs).2
  · exact cp (n := 4) hk
/-- the reference's end of hall, when the text was taken -/
theorem hall_end {mo : OB} {h : HLd} {cn : Nat → Nat} (H : HOK h) (hn : NKd h (mo.2.1 12) (mo.2.1 13) (mo.2.1 14) (mo.2.1 15) (mo.2.1 16) (mo.2.1 17)) (hcn : ∀ k, k < h.1 1 → cn k = h.2 4 k) (hF : 600 ≤ F) : ∃ mo2, lp (b_X9_hall_21 F) F (0, mo) = some (nI (h.1 3), mo2) ∧ MDd h cn 0 0 0 mo2 ∧ mo2.1 = uF mo.1 41 0 ∧ (∀ j, 12 ≤ j → mo2.2.1 j = mo.2.1 j) ∧ (∀ j, 8 ≤ j → j < 11 → mo2.2.1 j = mo.2.1 j) ∧ mo2.2.1 1 5 = 0 ∧ (∀ j, 6 ≤ j → mo2.2.1 1 j = mo.2.1 1 j) ∧ mo2.2.2 = mo.2.2 := by
  obtain ⟨sc2, a1, a2, g2, a3⟩ := sc_loop (F := F) (mo := mo) 4 F 0 (mo.2.1 1) (by omega) (by omega) (fun j hj => absurd hj (Nat.not_lt_zero _)) (fun j hj => rfl)
  rw [uF_id] at a3
  obtain ⟨q2, b1, b2⟩ := s_copies (F := F) (n := 4) (fr := mo.2.1 13) (gr := mo.2.1 11) (by decide) hF
  obtain ⟨q3, c1, c2⟩ := s_copies (F := F) (n := 8) (fr := mo.2.1 14) (gr := mo.2.1 6) (by decide) hF
  obtain ⟨q4, d1, d2⟩ := s_copies (F := F) (n := 8) (fr := mo.2.1 15) (gr := mo.2.1 4) (by decide) hF
  obtain ⟨q5, e1, e2⟩ := s_copies (F := F) (n := 8) (fr := mo.2.1 16) (gr := mo.2.1 7) (by decide) hF
  obtain ⟨q6, f1, f2⟩ := s_copies (F := F) (n := 8) (fr := mo.2.1 17) (gr := mo.2.1 5) (by decide) hF
  obtain ⟨ca2, is2, g1, g3, g4⟩ := s_begins (F := F) (mo := (mo.1, (uF (uF (uF (uF (uF (uF (uF mo.2.1 1 sc2) 1 (upd sc2 5 0)) 4 q4) 5 q6) 6 q3) 7 q5) 11 q2), mo.2.2)) hF
  obtain ⟨⟨n0, n1, n2, n3⟩, N4, N5, N6⟩ := hn
  have h4 := H.2.1
  have h8 := H.2.2.1
  have hq := H.q8
  have hsc : ∀ j, j ≠ 4 → j ≠ 5 → (upd (upd sc2 5 0) 4 0) j = sc2 j := fun j h1 h2 => by
    rw [pk_un h1, pk_un h2]
  refine ⟨(uF (mbg (mo.1, (uF (uF (uF (uF (uF (uF (uF mo.2.1 1 sc2) 1 (upd sc2 5 0)) 4 q4) 5 q6) 6 q3) 7 q5) 11 q2), mo.2.2) (upd (upd sc2 5 0) 4 0) ca2 is2).1 41 0, (mbg (mo.1, (uF (uF (uF (uF (uF (uF (uF mo.2.1 1 sc2) 1 (upd sc2 5 0)) 4 q4) 5 q6) 6 q3) 7 q5) 11 q2), mo.2.2) (upd (upd sc2 5 0) 4 0) ca2 is2).2.1, (mbg (mo.1, (uF (uF (uF (uF (uF (uF (uF mo.2.1 1 sc2) 1 (upd sc2 5 0)) 4 q4) 5 q6) 6 q3) 7 q5) 11 q2), mo.2.2) (upd (upd sc2 5 0) 4 0) ca2 is2).2.2), ?_, ⟨⟨⟨?_, ?_, ?_, ?_⟩, fun k hk => ?_, fun k hk => ⟨?_, ?_⟩, fun k hk => ⟨?_, ?_⟩⟩, ?_, fun k hk => ?_, fun k hk => ?_⟩, ?_, fun j hj => ?_, fun j h1 h2 => ?_, ?_, fun j hj => ?_, ?_⟩
  rotate_left 1
  all_goals try rfl
  · exact (hsc 0 (by decide) (by decide)).trans ((a1 0 (by decide)).trans n0)
  · exact (hsc 1 (by decide) (by decide)).trans ((a1 1 (by decide)).trans n1)
  · exact (hsc 2 (by decide) (by decide)).trans ((a1 2 (by decide)).trans n2)
  · exact (hsc 3 (by decide) (by decide)).trans ((a1 3 (by decide)).trans n3)
  · exact (b2 k (by omega)).trans (N4 k hk)
  · exact (c2 k (by omega)).trans (N5 k hk).1
  · exact (d2 k (by omega)).trans (N5 k hk).2
  · exact (e2 k (by omega)).trans (N6 k hk).1
  · exact (f2 k (by omega)).trans (N6 k hk).2
  · exact (g3 k (by omega)).trans ((b2 k (by omega)).trans ((N4 k hk).trans (by rw [hcn k hk])))
  · rw [show stt 0 0 k = 0 from by unfold stt; rw [if_neg (bS_0 k), if_neg (bS_0 k)]]
    exact g4 k (by omega)
  · show (uF (uF (uF (uF (uF (uF (uF (uF (uF (uF mo.2.1 1 sc2) 1 (upd sc2 5 0)) 4 q4) 5 q6) 6 q3) 7 q5) 11 q2) 1 _) 2 ca2) 3 is2) j = mo.2.1 j
    rw [uF_n (by omega), uF_n (by omega), uF_n (by omega), uF_n (by omega), uF_n (by omega), uF_n (by omega), uF_n (by omega), uF_n (by omega), uF_n (by omega), uF_n (by omega)]
  · show (uF (uF (uF (uF (uF (uF (uF (uF (uF (uF mo.2.1 1 sc2) 1 (upd sc2 5 0)) 4 q4) 5 q6) 6 q3) 7 q5) 11 q2) 1 _) 2 ca2) 3 is2) j = mo.2.1 j
    rw [uF_n (by omega), uF_n (by omega), uF_n (by omega), uF_n (by omega), uF_n (by omega), uF_n (by omega), uF_n (by omega), uF_n (by omega), uF_n (by omega), uF_n (by omega)]
  · exact (hsc j (by omega) (by omega)).trans (a2 j (by omega))
  · rw [show ((0 : Int32), mo) = (nI 0, (mo.1, mo.2.1, mo.2.2)) from rfl, a3, lp_S, b_X9_hall_21]
    dsimp only
    rw [if_pos (show (4 : Int32) ≤ nI 4 from nI_le (a := 4) (b := 4) (Nat.le_refl _) (by decide)), show (uF mo.2.1 1 sc2) 13 = mo.2.1 13 from rfl, show (uF mo.2.1 1 sc2) 11 = mo.2.1 11 from rfl, b1, bd_some, show (uF mo.2.1 1 sc2) 14 = mo.2.1 14 from rfl, show (uF mo.2.1 1 sc2) 6 = mo.2.1 6 from rfl, c1, bd_some, show (uF mo.2.1 1 sc2) 15 = mo.2.1 15 from rfl, show (uF mo.2.1 1 sc2) 4 = mo.2.1 4 from rfl, d1, bd_some, show (uF mo.2.1 1 sc2) 16 = mo.2.1 16 from rfl, show (uF mo.2.1 1 sc2) 7 = mo.2.1 7 from rfl, e1, bd_some, show (uF mo.2.1 1 sc2) 17 = mo.2.1 17 from rfl, show (uF mo.2.1 1 sc2) 5 = mo.2.1 5 from rfl, f1, bd_some, show (uF mo.2.1 1 sc2) 1 = sc2 from rfl, show Int32.toNatClampNeg 5 = 5 from by decide, g1, bd_some]
    refine congrArg some (Prod.ext ?_ rfl)
    show (upd (upd sc2 5 0) 4 0) (Int32.toNatClampNeg 3) = nI (h.1 3)
    rw [show Int32.toNatClampNeg 3 = 3 from by decide]
    exact (hsc 3 (by decide) (by decide)).trans ((a1 3 (by decide)).trans n3)
end HAA
end
section
/-! the hall, pure: hall by both, whole -/
/-- in a refused hall the reference keeps all but what reading uses -/
noncomputable def hFr0 (mo mo2 : OB) : Prop := (∀ j, j ≠ 18 → j ≠ 19 → j ≠ 20 → j ≠ 23 → j ≠ 24 → j ≠ 25 → mo2.1 j = mo.1 j) ∧ (∀ j, j < 12 ∨ 18 ≤ j → mo2.2.1 j = mo.2.1 j) ∧ mo2.2.2 = mo.2.2
theorem hFr0_fin {mo : OB} {p2 f2 : Int32} {ns nc nh nt nr nw : Nat → Int32} : hFr0 mo (fin0 (ps (hm mo ns nc nh nt nr nw) p2 f2 0 0 0 (mo.1 26) (mo.2.1 29) (mo.2.1 30) (mo.2.1 35))) := by
  refine ⟨fun j h1 h2 h3 h4 h5 h6 => ?_, fun j hj => ?_, rfl⟩
  · show uF (uF (uF (uF (uF (uF (uF mo.1 19 p2) 20 f2) 23 0) 24 0) 25 0) 26 (mo.1 26)) 18 0 j = mo.1 j
    rw [uF_n h1]
    by_cases e : j = 26
    · rw [e, uF_s]
    · rw [uF_n e, uF_n h6, uF_n h5, uF_n h4, uF_n h3, uF_n h2]
  · show uF (uF (uF (uF (uF (uF (uF (uF (uF mo.2.1 12 ns) 13 nc) 14 nh) 15 nt) 16 nr) 17 nw) 29 (mo.2.1 29)) 30 (mo.2.1 30)) 35 (mo.2.1 35) j = mo.2.1 j
    by_cases e1 : j = 35
    · rw [e1, uF_s]
    · rw [uF_n e1]
      by_cases e2 : j = 30
      · rw [e2, uF_s]
      · rw [uF_n e2]
        by_cases e3 : j = 29
        · rw [e3, uF_s]
        · rw [uF_n e3, uF_n (by omega), uF_n (by omega), uF_n (by omega), uF_n (by omega), uF_n (by omega), uF_n (by omega)]
section HAB
variable {F : Nat}
theorem read_c {tp tm : OB} {n : Nat} {K P V : Nat → Int32} (e1 : f_X7_cutUp F tp = some (tcs tp n K P V)) : f_X1_read F tp tm = lp (b_X1_read_10 F) F (nI 0, tpa (tcs tp n K P V) (nI 0) 0, rmh tm 0 0 0 0 (tm.2.1 4) (tm.2.1 5) (tm.2.1 6) (tm.2.1 7) (tm.2.1 8)) := by
  unfold f_X1_read f_X3_clear
  rw [e1, bd_some, bd_some, tpa_id (x := tcs tp n K P V) (t := nI 0) (f := 0) rfl rfl]
  unfold rmh
  rw [uF_id (f := tm.2.1) (i := 4), uF_id (f := tm.2.1) (i := 5), uF_id (f := tm.2.1) (i := 6), uF_id (f := tm.2.1) (i := 7), uF_id (f := tm.2.1) (i := 8)]
  rfl
theorem read_r {mo : OB} (hF : 600 ≤ F) : ∃ ns2, (∀ j, j < 4 → ns2 j = 0) ∧ f_X9_readsAll F mo = lp (b_X9_readsAll_28 F) F (nI 0, 1, ps (hm mo ns2 (mo.2.1 13) (mo.2.1 14) (mo.2.1 15) (mo.2.1 16) (mo.2.1 17)) (nI 0) 0 0 0 0 (mo.1 26) (mo.2.1 29) (mo.2.1 30) (mo.2.1 35)) := by
  obtain ⟨ns2, a1, a2⟩ := ra_zero (F := F) (mo := ((uF (uF (uF (uF (uF mo.1 19 0) 20 0) 23 0) 24 0) 25 0), mo.2.1, mo.2.2)) 4 F 0 (mo.2.1 12) (by omega) (by omega) (fun j hj => absurd hj (Nat.not_lt_zero _))
  refine ⟨ns2, a1, ?_⟩
  dsimp only at a2
  rw [uF_id] at a2
  unfold f_X9_readsAll f_X9_starts
  rw [bd_some]
  refine a2.trans ?_
  unfold ps hm
  dsimp only
  rw [show mo.1 26 = (uF (uF (uF (uF (uF mo.1 19 (nI 0)) 20 0) 23 0) 24 0) 25 0) 26 from rfl, uF_id]
  rw [show mo.2.1 13 = uF mo.2.1 12 ns2 13 from rfl, uF_id, show mo.2.1 14 = uF mo.2.1 12 ns2 14 from rfl, uF_id, show mo.2.1 15 = uF mo.2.1 12 ns2 15 from rfl, uF_id, show mo.2.1 16 = uF mo.2.1 12 ns2 16 from rfl, uF_id, show mo.2.1 17 = uF mo.2.1 12 ns2 17 from rfl, uF_id, show mo.2.1 29 = uF mo.2.1 12 ns2 29 from rfl, uF_id, show mo.2.1 30 = uF mo.2.1 12 ns2 30 from rfl, uF_id, show mo.2.1 35 = uF mo.2.1 12 ns2 35 from rfl, uF_id]
  rfl
theorem hall_all {tp tm mo rm ac nt : OB} {xi si : Nat → Int32} {L s : Nat} (hF : 600 ≤ F) (h1 : tp.1 1 = nI L) (h18 : mo.1 18 = nI L) (h4 : L ≤ 400) (hby : ∀ i, -128 ≤ (mo.2.1 28 i).toInt ∧ (mo.2.1 28 i).toInt ≤ 127) (h21 : mo.1 21 = nI s) (hs : s < 6) (h27 : mo.1 27 = 11) (hB : tp.2.1 0 = mo.2.1 28) (hw : Rw (tm.2.1 4) 4 99) :
    (∃ (φ : Nat) (T tm2 mo2 : OB), 0 < φ ∧ φ < 4000 ∧ f_X8_hall F xi tp si rm ac nt tm = some (-2 - nI φ, T, rm, ac, nt, tm2) ∧ f_X9_hall F mo = some (-2 - nI φ, mo2) ∧ T.1 1 = 0 ∧ T.2.1 0 = tp.2.1 0 ∧ Rw (tm2.2.1 4) 4 99 ∧ mo2.1 18 = 0 ∧ hFr0 mo mo2)
    ∨ (∃ (h : HLd) (cn : Nat → Nat) (T rm2 tm2 mo2 : OB), HOK h ∧ h.1 0 = 1 ∧ (∀ k, k < 4 → cn k ≤ 99) ∧ f_X8_hall F xi tp si rm ac nt tm = some (nI (h.1 3), T, rm2, (uF ac.1 4 0, ac.2.1, ac.2.2), (uF nt.1 3 0, nt.2.1, nt.2.2), tm2) ∧ f_X9_hall F mo = some (nI (h.1 3), mo2) ∧ T.1 1 = 0 ∧ T.2.1 0 = tp.2.1 0 ∧ CDd h cn 0 0 0 rm2 ∧ rm2.1 15 = 0 ∧ Rw (rm2.2.1 4) 4 99 ∧ Rw (tm2.2.1 4) 4 99 ∧ MDd h cn 0 0 0 mo2 ∧ mo2.1 18 = 0 ∧ mo2.1 41 = 0 ∧ mo2.2.1 1 5 = 0 ∧ hFr mo mo2) := by
  obtain ⟨n, K, P, V, e1, hn, hT⟩ := s_cutUp (F := F) (tp := tp) hF h1 h4
  rw [hB] at hT
  have hr : RB mo L s := ⟨h18, h4, hby, h21, hs, h27⟩
  have hx : TX (mo.2.1 28) L (tcs tp n K P V) n := ⟨h1, rfl, h4, by omega, hT⟩
  have ha : At L (tcs tp n K P V) n 0 (sk (mo.2.1 28) L 0) := ⟨hT.1, sk_le (Nat.zero_le _), hT.2.1⟩
  obtain ⟨ns2, n1, rR⟩ := read_r (F := F) (mo := mo) hF
  have cR := read_c (F := F) (tm := tm) e1
  rcases hall_loop (F := F) (m := mo) (x := tcs tp n K P V) (y := tm) (e := 0) (d := 0) (c := 0) (o := mo.1 26) (s1 := mo.2.1 29) (n1 := mo.2.1 30) (o1 := mo.2.1 35) hr hF hx 41 0 (sk (mo.2.1 28) L 0) 0 0 0 0 0 0 F F (tm.2.1 4) (tm.2.1 5) (tm.2.1 6) (tm.2.1 7) (tm.2.1 8) ns2 (mo.2.1 13) (mo.2.1 14) (mo.2.1 15) (mo.2.1 16) (mo.2.1 17) (by omega) (by omega) ha (Nat.zero_le _) rfl (HR.nil hw (n1 0 (by decide)) (n1 1 (by decide)) (n1 2 (by decide)) (n1 3 (by decide))) (Or.inl ⟨rfl, rfl⟩) (by omega) (by omega) with hq | hq
  · obtain ⟨φ, p2, t2, as, ac_, ah, at_, ar, aw, rm2, a1, a2, a3, a4, a5⟩ := hq
    rw [← cR] at a4
    rw [← rR] at a5
    refine Or.inl ⟨φ, (uF (tpa (tcs tp n K P V) t2 (nI φ)).1 1 0, (tpa (tcs tp n K P V) t2 (nI φ)).2.1, (tpa (tcs tp n K P V) t2 (nI φ)).2.2), rm2, fin0 (ps (hm mo as ac_ ah at_ ar aw) p2 (nI φ) 0 0 0 (mo.1 26) (mo.2.1 29) (mo.2.1 30) (mo.2.1 35)), a1, a2, ?_, ?_, rfl, rfl, a3, rfl, hFr0_fin⟩
    rotate_left 1
    · unfold f_X9_hall
      rw [a5, bd_some, if_neg (show ¬ (fin0 (ps (hm mo as ac_ ah at_ ar aw) p2 (nI φ) 0 0 0 (mo.1 26) (mo.2.1 29) (mo.2.1 30) (mo.2.1 35))).1 20 ≤ 0 from nI_nle a1 (by omega))]
      rfl
    · unfold f_X8_hall
      rw [a4, bd_some]
      dsimp only
      rw [if_pos rfl]
      rfl
  · obtain ⟨h, cn, p2, t2, as, ac_, ah, at_, ar, aw, rm2, H, h0, hNK, hcn, hcn2, hCD, hrw, a4, a5⟩ := hq
    rw [← cR] at a4
    rw [← rR] at a5
    obtain ⟨mo2, b1, b2, b3, b4, b5, b6, b7, b8⟩ := hall_end (F := F) (mo := fin0 (ps (hm mo as ac_ ah at_ ar aw) p2 0 0 0 0 (mo.1 26) (mo.2.1 29) (mo.2.1 30) (mo.2.1 35))) (h := h) (cn := cn) H hNK hcn2 hF
    obtain ⟨rm3, c1, c2, c3, c4, c5⟩ := s_copyFrom (F := F) (rm := rm) H hCD
    have fr := hFr0_fin (mo := mo) (p2 := p2) (f2 := 0) (ns := as) (nc := ac_) (nh := ah) (nt := at_) (nr := ar) (nw := aw)
    refine Or.inr ⟨h, cn, (uF (tpa (tcs tp n K P V) t2 0).1 1 0, (tpa (tcs tp n K P V) t2 0).2.1, (tpa (tcs tp n K P V) t2 0).2.2), rm3, rm2, mo2, H, h0, hcn, ?_, ?_, rfl, rfl, c2, c3, fun k hk => ?_, hrw, b2, ?_, ?_, b6, ?_, ?_, ?_, ?_, ?_⟩
    rotate_left 1
    · unfold f_X9_hall
      rw [a5, bd_some, if_pos (show (fin0 (ps (hm mo as ac_ ah at_ ar aw) p2 0 0 0 0 (mo.1 26) (mo.2.1 29) (mo.2.1 30) (mo.2.1 35))).1 20 ≤ 0 from by
        show (0 : Int32) ≤ 0
        decide)]
      exact b1
    · rw [c5 k hk]
      exact hrw k hk
    · rw [b3]
      rfl
    · rw [b3]
      rfl
    · intro j j1 j2 j3 j4 j5 j6 j7
      rw [b3, uF_n j7]
      exact fr.1 j j1 j2 j3 j4 j5 j6
    · intro j hj
      rw [b4 j (by omega)]
      exact fr.2.1 j (Or.inr hj)
    · intro j j1 j2
      rw [b5 j j1 j2]
      exact fr.2.1 j (Or.inl (by omega))
    · intro j hj
      rw [b7 j hj]
      exact congrFun (fr.2.1 1 (Or.inl (by omega))) j
    · rw [b8]
      exact fr.2.2
    · unfold f_X8_hall f_X0_forget f_X2_forget
      rw [a4, bd_some]
      dsimp only
      rw [if_neg (show ¬ (1 : Int32) = 0 by decide), c1, bd_some, bd_some, bd_some, c2.1.1.2.2.2]
end HAB
end
section
/-! sets as numbers; loops over sitters -/
theorem lp_for {α β : Type} {body : (α → Option β) → α → Option β} {st : Nat → α} {q : Nat} {res : Option β} (hs : ∀ kk k, k < q → body kk (st k) = kk (st (k + 1))) (he : ∀ kk, body kk (st q) = res) : ∀ (r g k : Nat), k + r = q → r < g → lp body g (st k) = res
  | 0, g, k, h1, h2 => by
    obtain ⟨g, rfl⟩ : ∃ g', g = g' + 1 := ⟨g - 1, by omega⟩
    rw [lp_S, show k = q by omega, he]
  | r + 1, g, k, h1, h2 => by
    obtain ⟨g, rfl⟩ : ∃ g', g = g' + 1 := ⟨g - 1, by omega⟩
    rw [lp_S, hs _ k (by omega)]
    exact lp_for hs he r g (k + 1) (by omega) (by omega)
theorem nbS {n i : Nat} (hi : i < 32) : (nI n).toBitVec.getLsbD i = n.testBit i := by
  show (BitVec.ofNat 32 n).getLsbD i = _
  rw [BitVec.getLsbD_ofNat, decide_eq_true hi, Bool.true_and]
theorem n_or (a b : Nat) : nI a ||| nI b = nI (a ||| b) := Int32.toBitVec_inj.mp (BitVec.eq_of_getLsbD_eq (fun i hi => by
  rw [Int32.toBitVec_or, BitVec.getLsbD_or, nbS hi, nbS hi, nbS hi, Nat.testBit_or]))
theorem n_xor (a b : Nat) : nI a ^^^ nI b = nI (a ^^^ b) := Int32.toBitVec_inj.mp (BitVec.eq_of_getLsbD_eq (fun i hi => by
  rw [Int32.toBitVec_xor, BitVec.getLsbD_xor, nbS hi, nbS hi, nbS hi, Nat.testBit_xor]))
theorem bm1 : ∀ i, i < 32 → (-1 : Int32).toBitVec.getLsbD i = true := by decide +kernel
noncomputable def difS (a b : Nat) : Nat := a ^^^ (a &&& b)
theorem n_dif (a b : Nat) : nI a &&& (nI b ^^^ (-1)) = nI (difS a b) := Int32.toBitVec_inj.mp (BitVec.eq_of_getLsbD_eq (fun i hi => by
  rw [Int32.toBitVec_and, BitVec.getLsbD_and, Int32.toBitVec_xor, BitVec.getLsbD_xor, nbS hi, nbS hi, nbS hi, bm1 i hi]
  unfold difS
  rw [Nat.testBit_xor, Nat.testBit_and]
  cases a.testBit i <;> cases b.testBit i <;> rfl))
theorem p2_lt {k : Nat} (hk : k < 31) : 2 ^ k < 2 ^ 31 := Nat.pow_lt_pow_right (by decide) hk
theorem n_shl {k : Nat} (hk : k < 31) : (1 : Int32) <<< (nI k &&& 31) = nI (2 ^ k) := by
  have h := p2_lt hk
  have e := pk_shlN (n := 1) (nI k &&& 31) k (rb_l k (by omega)) (by omega)
  rw [Nat.one_mul] at e
  exact e
theorem bS_tb {S k : Nat} : bS S k ↔ S.testBit k = true := by
  rw [Nat.testBit_eq_decide_div_mod_eq, decide_eq_true_eq]
theorem bS_or {A B k : Nat} : bS (A ||| B) k ↔ bS A k ∨ bS B k := by
  rw [bS_tb, bS_tb, bS_tb, Nat.testBit_or, Bool.or_eq_true]
theorem bS_dif {A B k : Nat} : bS (difS A B) k ↔ bS A k ∧ ¬ bS B k := by
  unfold difS
  rw [bS_tb, bS_tb, bS_tb, Nat.testBit_xor, Nat.testBit_and]
  cases A.testBit k <;> cases B.testBit k <;> decide
theorem bS_2 {k j : Nat} : bS (2 ^ k) j ↔ j = k := by
  rw [bS_tb, Nat.testBit_two_pow, decide_eq_true_eq]
  exact ⟨fun h => h.symm, fun h => h.symm⟩
theorem bS_flip {S k j : Nat} : bS (S ^^^ 2 ^ k) j ↔ if j = k then ¬ bS S j else bS S j := by
  rw [bS_tb, bS_tb, Nat.testBit_xor, Nat.testBit_two_pow]
  by_cases e : j = k
  · rw [if_pos e, decide_eq_true e.symm]
    cases S.testBit j <;> decide
  · rw [if_neg e, decide_eq_false (fun z => e z.symm)]
    cases S.testBit j <;> decide
theorem bS_lt {S n j : Nat} (h : S < 2 ^ n) (hj : n ≤ j) : ¬ bS S j := by
  show ¬ S / 2 ^ j % 2 = 1
  rw [Nat.div_eq_of_lt (Nat.lt_of_lt_of_le h (Nat.pow_le_pow_right (by decide) hj))]
  decide
theorem lt_bS {S n : Nat} (h : ∀ j, n ≤ j → ¬ bS S j) : S < 2 ^ n := Nat.lt_pow_two_of_testBit S (fun i hi => by
  cases e : S.testBit i with
  | false => rfl
  | true => exact absurd (bS_tb.mpr e) (h i hi))
theorem eq_bS {A B : Nat} (h : ∀ j, bS A j ↔ bS B j) : A = B := Nat.eq_of_testBit_eq (fun i => Bool.eq_iff_iff.mpr (bS_tb.symm.trans ((h i).trans bS_tb)))
noncomputable def mk_ (c : Nat → Bool) : Nat → Nat
  | 0 => 0
  | n + 1 => if c n = true then mk_ c n ||| 2 ^ n else mk_ c n
theorem bS_mk {c : Nat → Bool} {j : Nat} : ∀ n, bS (mk_ c n) j ↔ j < n ∧ c j = true
  | 0 => ⟨fun h => absurd h (bS_0 j), fun h => absurd h.1 (Nat.not_lt_zero _)⟩
  | n + 1 => by
    have ih := bS_mk (c := c) (j := j) n
    show bS (if c n = true then mk_ c n ||| 2 ^ n else mk_ c n) j ↔ _
    by_cases e : c n = true
    · rw [if_pos e, bS_or, ih, bS_2]
      constructor
      · rintro (h | h)
        · exact ⟨by omega, h.2⟩
        · rw [h]
          exact ⟨by omega, e⟩
      · intro h
        by_cases z : j = n
        · exact Or.inr z
        · exact Or.inl ⟨by omega, h.2⟩
    · rw [if_neg e, ih]
      constructor
      · intro h
        exact ⟨by omega, h.2⟩
      · intro h
        refine ⟨?_, h.2⟩
        by_cases z : j = n
        · rw [z] at h
          exact absurd h.2 e
        · omega
theorem mk_lt {c : Nat → Bool} (n : Nat) : mk_ c n < 2 ^ n := lt_bS (fun j hj h => by
  have := ((bS_mk n).mp h).1
  omega)
theorem mk_eq {c : Nat → Bool} {S n : Nat} (hS : S < 2 ^ n) (h : ∀ j, j < n → (c j = true ↔ bS S j)) : mk_ c n = S := eq_bS (fun j => by
  rw [bS_mk]
  constructor
  · intro z
    exact (h j z.1).mp z.2
  · intro z
    have hj : j < n := by
      by_cases q : j < n
      · exact q
      · exact absurd z (bS_lt hS (by omega))
    exact ⟨hj, (h j hj).mpr z⟩)
theorem l28 {A n : Nat} (h : A < 2 ^ n) (hn : n ≤ 8) : A < 256 := Nat.lt_of_lt_of_le h (Nat.pow_le_pow_right (n := 2) (by decide) hn)
/-- a step of a loop that gathers a set -/
theorem mk_step {c : Nat → Bool} {k : Nat} (hk : k < 31) : (nI (mk_ c k) ||| (if c k = true then (1 : Int32) <<< (nI k &&& 31) else 0)) = nI (mk_ c (k + 1)) := by
  show _ = nI (if c k = true then mk_ c k ||| 2 ^ k else mk_ c k)
  by_cases e : c k = true
  · rw [if_pos e, if_pos e, n_shl hk, n_or]
  · rw [if_neg e, if_neg e, show (0 : Int32) = nI 0 from rfl, n_or, Nat.or_zero]
end
section
/-! what a chair gives, who is dropped: by both -/
/-- how much the chair of one of a set gives -/
noncomputable def gvS (h : HLd) (cn : Nat → Nat) (A k : Nat) : Nat := if bS A k then cn (sq_ h k) * h.2 8 k / ldS h A (sq_ h k) else 0
noncomputable def flc (h : HLd) (cn : Nat → Nat) (A k : Nat) : Bool := decide (h.2 5 (h.2 7 k) ≤ gvS h cn A k)
/-- who of a set is dropped at once -/
noncomputable def flS (h : HLd) (cn : Nat → Nat) (A : Nat) : Nat := mk_ (flc h cn A) (h.1 3)
theorem ld_pos {h : HLd} {A k : Nat} (H : HOK h) (hk : k < h.1 3) (hb : bS A k) : 0 < ldS h A (sq_ h k) := by
  have e : ldT h A (sq_ h k) k = h.2 8 k := if_pos ⟨hb, rfl⟩
  have h1 := sumB_one (f := ldT h A (sq_ h k)) (h.1 3) hk
  have h2 := (H.2.2.2.2.2.2 k hk).2.1
  unfold ldS
  omega
theorem ld_31 {h : HLd} (H : HOK h) (A s : Nat) : ldS h A s ≤ 160 := by
  have h1 := ld_le H A s (h.1 3) (Nat.le_refl _)
  have h2 := H.q8
  unfold ldS
  omega
theorem hd_31 {h : HLd} (H : HOK h) (A s : Nat) : hdS h A s ≤ 8 := by
  have h1 := hd_le (h := h) A s (h.1 3)
  have h2 := H.q8
  unfold hdS
  omega
theorem gv_le {h : HLd} {cn : Nat → Nat} {A k : Nat} (H : HOK h) (hc : ∀ k, k < h.1 1 → cn k ≤ 99) (hk : k < h.1 3) : gvS h cn A k ≤ 1980 ∧ cn (sq_ h k) * h.2 8 k ≤ 1980 := by
  have h1 := hc _ (H.sq hk)
  have h2 := (H.2.2.2.2.2.2 k hk).2.2
  have h3 : cn (sq_ h k) * h.2 8 k ≤ 99 * 20 := Nat.mul_le_mul h1 h2
  refine ⟨?_, h3⟩
  unfold gvS
  by_cases e : bS A k
  · rw [if_pos e]
    have := Nat.div_le_self (cn (sq_ h k) * h.2 8 k) (ldS h A (sq_ h k))
    omega
  · rw [if_neg e]
    omega
/-- who is dropped sits, and their chair gives as much as it is high -/
theorem flc_iff {h : HLd} {cn : Nat → Nat} {A k : Nat} (H : HOK h) (hk : k < h.1 3) : flc h cn A k = true ↔ bS A k ∧ h.2 5 (h.2 7 k) ≤ gvS h cn A k := by
  unfold flc
  rw [decide_eq_true_eq]
  constructor
  · intro z
    refine ⟨?_, z⟩
    by_cases e : bS A k
    · exact e
    · have h1 := (H.2.2.2.2.2.1 _ (H.2.2.2.2.2.2 k hk).1).1
      unfold gvS at z
      rw [if_neg e] at z
      omega
  · intro z
    exact z.2
theorem fl_sub {h : HLd} {cn : Nat → Nat} {A j : Nat} (H : HOK h) (hb : bS (flS h cn A) j) : bS A j := by
  have z := (bS_mk (h.1 3)).mp hb
  exact ((flc_iff H z.1).mp z.2).1
section CGV
variable {F : Nat} {rm mo : OB} {h : HLd} {cn : Nat → Nat} {S D mi A k : Nat}
theorem s_gives (H : HOK h) (hc : ∀ k, k < h.1 1 → cn k ≤ 99) (C : CDd h cn S D mi rm) (h31 : S < 2 ^ 31) (hk : k < h.1 3) : f_X3_givesUnder F (nI k) rm = some (nI (gvS h cn S k)) := by
  obtain ⟨K, ⟨c1, c2, c3⟩, C4, C5⟩ := C
  have hq := H.q8
  have h7 := (K.2.2.2 k hk).1
  have h8 := (K.2.2.2 k hk).2
  have hcb := (H.2.2.2.2.2.2 k hk).1
  have h6' : rm.2.1 6 (h.2 7 k) = nI (sq_ h k) := (K.2.2.1 _ hcb).2
  have hs4 : sq_ h k < 4 := H.sq4 hk
  have hc8 : h.2 7 k < 8 := Nat.lt_of_lt_of_le hcb H.2.2.1
  have hl := ld_31 H S (sq_ h k)
  have hg := gv_le (A := S) H hc hk
  unfold f_X3_givesUnder b_X3_givesUnder_23 b_X3_givesUnder_70 gvS
  rw [if_neg (nI_pos (by omega)), K.1.2.2.2, if_neg (nI_ge hk (by omega)), c1]
  by_cases e : bS S k
  · have hp := ld_pos H hk e
    rw [if_neg (fun z => (r_bit0 h31 (by omega)).mp z e), if_pos (ib_n (show k < 8 by omega) (by decide)), nI_clamp (show k < 2 ^ 31 by omega), h7, nI_clamp (show h.2 7 k < 2 ^ 31 by omega), h6', nI_clamp (show sq_ h k < 2 ^ 31 by omega), if_pos (ib_n hc8 (by decide)), if_pos (ib_n hs4 (by decide)), (C5 _ (H.sq hk)).1, if_neg (nI_nle hp (by omega)), if_pos (nI_ne0 hp (by omega)), C4 _ hs4, h8, pk_mul, pk_div (by omega) hp (by omega), if_pos e]
  · rw [if_pos ((r_bit0 h31 (by omega)).mpr e), if_neg e]
    rfl
theorem s_out (H : HOK h) (hc : ∀ k, k < h.1 1 → cn k ≤ 99) (C : CDd h cn S D mi rm) (h31 : S < 2 ^ 31) (hF : 600 ≤ F) : f_X3_givenOut F rm = some (nI (flS h cn S)) := by
  have hq := H.q8
  have K := C.1
  unfold f_X3_givenOut flS
  refine lp_for (st := fun k => (nI (mk_ (flc h cn S) k), nI k)) (q := h.1 3) (fun kk k hk => ?_) (fun kk => ?_) (h.1 3) F 0 (by omega) (by omega)
  · have h7 := (K.2.2.2 k hk).1
    have hcb := (H.2.2.2.2.2.2 k hk).1
    have hc8 : h.2 7 k < 8 := Nat.lt_of_lt_of_le hcb H.2.2.1
    have hg := (gv_le (A := S) H hc hk).1
    have hh := H.2.2.2.2.2.1 _ hcb
    unfold b_X3_givenOut_4 b_X3_givenOut_37
    dsimp only
    rw [K.1.2.2.2, if_neg (nI_ge hk (by omega)), s_gives H hc C h31 hk, bd_some, if_pos (ib_n (show k < 8 by omega) (by decide)), nI_clamp (show k < 2 ^ 31 by omega), h7, nI_clamp (show h.2 7 k < 2 ^ 31 by omega), if_pos (ib_n hc8 (by decide)), (K.2.2.1 _ hcb).1, nI_1, ← mk_step (c := flc h cn S) (show k < 31 by omega)]
    by_cases e : flc h cn S k = true
    · have e' := e
      unfold flc at e'
      rw [decide_eq_true_eq] at e'
      rw [if_neg (nI_nlt (by omega) (by omega)), if_pos e]
    · have e' := e
      unfold flc at e'
      rw [decide_eq_true_eq] at e'
      rw [if_pos (nI_lt (by omega) (by omega)), if_neg e, show (0 : Int32) = nI 0 from rfl, n_or, Nat.or_zero]
  · unfold b_X3_givenOut_4
    dsimp only
    rw [K.1.2.2.2, if_pos (nI_le (Nat.le_refl _) (by omega))]
/-- the reference holds the hall and the cane -/
noncomputable def MCd (h : HLd) (cn : Nat → Nat) (mo : OB) : Prop := MKd h mo ∧ ∀ k, k < h.1 1 → mo.2.1 2 k = nI (cn k)
theorem MDd.c (M : MDd h cn S D mi mo) : MCd h cn mo := ⟨M.1, M.2.2.1⟩
theorem t3 : Int32.toNatClampNeg 3 = 3 := by decide
theorem s_has (hA : A < 2 ^ 31) (hk : k < 31) : f_X9_has F (nI A) (nI k) = some (if bS A k then 1 else 0) := by
  unfold f_X9_has b_X9_has_14
  have h2 : A / 2 ^ k % 2 < 2 := Nat.mod_lt _ (by decide)
  rw [r_bit hA (by omega)]
  by_cases e : bS A k
  · have e1 : A / 2 ^ k % 2 = 1 := e
    rw [if_pos (show nI (A / 2 ^ k % 2) = 1 by rw [e1]; rfl), if_pos (Or.inr rfl), if_pos e]
  · have e1 : ¬ A / 2 ^ k % 2 = 1 := e
    have e0 : A / 2 ^ k % 2 = 0 := by omega
    rw [if_neg (show ¬ nI (A / 2 ^ k % 2) = 1 by rw [e0]; decide), if_pos (Or.inl rfl), if_neg e]
theorem s_those {st : Nat} (H : HOK h) (M : MDd h cn S D mi mo) (hF : 600 ≤ F) (hst : st < 3) : f_X9_those F (nI st) mo = some (nI (mk_ (fun j => decide (stt S D j = st)) (h.1 3))) := by
  have hq := H.q8
  unfold f_X9_those
  have h2 : ∀ j, stt S D j < 3 := fun j => by
    unfold stt
    by_cases a : bS D j
    · rw [if_pos a]
      decide
    · rw [if_neg a]
      by_cases b : bS S j
      · rw [if_pos b]
        decide
      · rw [if_neg b]
        decide
  refine lp_for (st := fun k => (nI st, nI (mk_ (fun j => decide (stt S D j = st)) k), nI k)) (q := h.1 3) (fun kk k hk => ?_) (fun kk => ?_) (h.1 3) F 0 (by omega) (by omega)
  · unfold b_X9_those_4 b_X9_those_32
    dsimp only
    rw [t3, M.1.1.2.2.2, if_neg (nI_ge hk (by omega)), if_pos (ib_n (show k < 8 by omega) (by decide)), nI_clamp (show k < 2 ^ 31 by omega), M.2.2.2 k hk, nI_1, ← mk_step (c := fun j => decide (stt S D j = st)) (show k < 31 by omega)]
    have h3 := h2 k
    by_cases e : stt S D k = st
    · rw [if_pos (by rw [e]), if_pos (decide_eq_true e)]
    · rw [if_neg (fun z => e ((nI_eq (by omega) (by omega)).mp z)), if_neg (by rw [decide_eq_true_eq]; exact e)]
  · unfold b_X9_those_4
    dsimp only
    rw [t3, M.1.1.2.2.2, if_pos (nI_le (Nat.le_refl _) (by omega))]
theorem s_onStrand {s : Nat} (H : HOK h) (M : MCd h cn mo) (hA : A < 2 ^ 31) (hs : s < 4) (hF : 600 ≤ F) : f_X9_onStrand F (nI A) (nI s) mo = some (nI (mk_ (fun j => decide (bS A j ∧ sq_ h j = s)) (h.1 3))) := by
  have hq := H.q8
  unfold f_X9_onStrand
  refine lp_for (st := fun k => (nI A, nI s, nI (mk_ (fun j => decide (bS A j ∧ sq_ h j = s)) k), nI k)) (q := h.1 3) (fun kk k hk => ?_) (fun kk => ?_) (h.1 3) F 0 (by omega) (by omega)
  · have hcb := (H.2.2.2.2.2.2 k hk).1
    have hc8 : h.2 7 k < 8 := Nat.lt_of_lt_of_le hcb H.2.2.1
    have hs4 : sq_ h k < 4 := H.sq4 hk
    have h6' : mo.2.1 4 (h.2 7 k) = nI (sq_ h k) := (M.1.2.2.1 _ hcb).2
    have z0 : ∀ x : Nat, nI x ||| 0 = nI x := fun x => by
      rw [show (0 : Int32) = nI 0 from rfl, n_or, Nat.or_zero]
    unfold b_X9_onStrand_5 b_X9_onStrand_49 b_X9_onStrand_50
    dsimp only
    rw [t3, M.1.1.2.2.2, if_neg (nI_ge hk (by omega)), s_has hA (by omega), bd_some, nI_1, ← mk_step (c := fun j => decide (bS A j ∧ sq_ h j = s)) (show k < 31 by omega)]
    by_cases e1 : bS A k
    · rw [if_pos e1, if_neg (show ¬ (1 : Int32) = 0 by decide), if_pos (ib_n (show k < 8 by omega) (by decide)), nI_clamp (show k < 2 ^ 31 by omega), (M.1.2.2.2 k hk).1, nI_clamp (show h.2 7 k < 2 ^ 31 by omega), if_pos (ib_n hc8 (by decide)), h6']
      by_cases e2 : sq_ h k = s
      · rw [if_pos (by rw [e2]), if_pos (decide_eq_true ⟨e1, e2⟩)]
      · rw [if_neg (fun z => e2 ((nI_eq (by omega) (by omega)).mp z)), if_neg (by rw [decide_eq_true_eq]; exact fun z => e2 z.2)]
    · rw [if_neg e1, if_pos rfl, if_neg (show ¬ decide (bS A k ∧ sq_ h k = s) = true by rw [decide_eq_true_eq]; exact fun z => e1 z.1)]
  · unfold b_X9_onStrand_5
    dsimp only
    rw [t3, M.1.1.2.2.2, if_pos (nI_le (Nat.le_refl _) (by omega))]
theorem s_weightOf (H : HOK h) (M : MCd h cn mo) (hA : A < 2 ^ 31) (hF : 600 ≤ F) : f_X9_weightOf F (nI A) mo = some (nI (sumB (h.1 3) (fun j => if bS A j then h.2 8 j else 0))) := by
  have hq := H.q8
  unfold f_X9_weightOf
  refine lp_for (st := fun k => (nI A, nI (sumB k (fun j => if bS A j then h.2 8 j else 0)), nI k)) (q := h.1 3) (fun kk k hk => ?_) (fun kk => ?_) (h.1 3) F 0 (by omega) (by omega)
  · unfold b_X9_weightOf_4 b_X9_weightOf_33
    dsimp only
    rw [t3, M.1.1.2.2.2, if_neg (nI_ge hk (by omega)), s_has hA (by omega), bd_some, nI_1, sumB_S]
    by_cases e1 : bS A k
    · rw [if_pos e1, if_neg (show ¬ (1 : Int32) = 0 by decide), if_pos (ib_n (show k < 8 by omega) (by decide)), nI_clamp (show k < 2 ^ 31 by omega), (M.1.2.2.2 k hk).2, nI_add, if_pos e1]
    · rw [if_neg e1, if_pos rfl, if_neg e1, show (0 : Int32) = nI 0 from rfl, nI_add]
  · unfold b_X9_weightOf_4
    dsimp only
    rw [t3, M.1.1.2.2.2, if_pos (nI_le (Nat.le_refl _) (by omega))]
theorem s_gives9 (H : HOK h) (hc : ∀ k, k < h.1 1 → cn k ≤ 99) (M : MCd h cn mo) (hA : A < 2 ^ 31) (hk : k < h.1 3) (hF : 600 ≤ F) : f_X9_gives F (nI A) (nI k) mo = some (nI (gvS h cn A k)) := by
  have hq := H.q8
  have hcb := (H.2.2.2.2.2.2 k hk).1
  have hc8 : h.2 7 k < 8 := Nat.lt_of_lt_of_le hcb H.2.2.1
  have hs4 : sq_ h k < 4 := H.sq4 hk
  have h6' : mo.2.1 4 (h.2 7 k) = nI (sq_ h k) := (M.1.2.2.1 _ hcb).2
  have hl := ld_31 H A (sq_ h k)
  have hg := gv_le (A := A) H hc hk
  unfold f_X9_gives b_X9_gives_48 gvS
  rw [if_pos (ib_n (show k < 8 by omega) (by decide)), nI_clamp (show k < 2 ^ 31 by omega), (M.1.2.2.2 k hk).1, nI_clamp (show h.2 7 k < 2 ^ 31 by omega), if_pos (ib_n hc8 (by decide)), s_has hA (by omega), bd_some, h6', nI_clamp (show sq_ h k < 2 ^ 31 by omega)]
  by_cases e : bS A k
  · have hp := ld_pos H hk e
    have el : sumB (h.1 3) (fun j => if bS (mk_ (fun j => decide (bS A j ∧ sq_ h j = sq_ h k)) (h.1 3)) j then h.2 8 j else 0) = ldS h A (sq_ h k) := sumB_cg _ (fun j hj => by
      unfold ldT
      by_cases z : bS A j ∧ sq_ h j = sq_ h k
      · rw [if_pos z, if_pos ((bS_mk _).mpr ⟨hj, decide_eq_true z⟩)]
      · rw [if_neg z, if_neg (fun w => z (of_decide_eq_true ((bS_mk _).mp w).2))])
    have hm := mk_lt (c := fun j => decide (bS A j ∧ sq_ h j = sq_ h k)) (h.1 3)
    have hm8 := l28 hm hq
    rw [if_pos e, if_neg (show ¬ (1 : Int32) = 0 by decide), if_pos (ib_n hs4 (by decide)), s_onStrand H M hA hs4 hF, bd_some, s_weightOf H M (by omega) hF, bd_some, el, if_pos (nI_ne0 hp (by omega)), M.2 _ (H.sq hk), (M.1.2.2.2 k hk).2, pk_mul, pk_div (by omega) hp (by omega), if_pos e]
  · rw [if_neg e, if_pos rfl, if_neg e]
    rfl
theorem s_drops (H : HOK h) (hc : ∀ k, k < h.1 1 → cn k ≤ 99) (M : MCd h cn mo) (hA : A < 2 ^ 31) (hF : 600 ≤ F) : f_X9_dropsOf F (nI A) mo = some (nI (flS h cn A)) := by
  have hq := H.q8
  unfold f_X9_dropsOf flS
  refine lp_for (st := fun k => (nI A, nI (mk_ (flc h cn A) k), nI k)) (q := h.1 3) (fun kk k hk => ?_) (fun kk => ?_) (h.1 3) F 0 (by omega) (by omega)
  · have hcb := (H.2.2.2.2.2.2 k hk).1
    have hc8 : h.2 7 k < 8 := Nat.lt_of_lt_of_le hcb H.2.2.1
    have hg := (gv_le (A := A) H hc hk).1
    have hh := H.2.2.2.2.2.1 _ hcb
    unfold b_X9_dropsOf_4 b_X9_dropsOf_49 b_X9_dropsOf_50
    dsimp only
    rw [t3, M.1.1.2.2.2, if_neg (nI_ge hk (by omega)), s_has hA (by omega), bd_some, nI_1, ← mk_step (c := flc h cn A) (show k < 31 by omega)]
    by_cases e1 : bS A k
    · rw [if_pos e1, if_neg (show ¬ (1 : Int32) = 0 by decide), s_gives9 H hc M hA hk hF, bd_some, if_pos (ib_n (show k < 8 by omega) (by decide)), nI_clamp (show k < 2 ^ 31 by omega), (M.1.2.2.2 k hk).1, nI_clamp (show h.2 7 k < 2 ^ 31 by omega), if_pos (ib_n hc8 (by decide)), (M.1.2.2.1 _ hcb).1]
      by_cases e2 : flc h cn A k = true
      · have e' := ((flc_iff H hk).mp e2).2
        rw [if_neg (nI_nlt (by omega) (by omega)), if_pos e2]
      · have e' : ¬ h.2 5 (h.2 7 k) ≤ gvS h cn A k := fun z => e2 (decide_eq_true z)
        rw [if_pos (nI_lt (by omega) (by omega)), if_neg e2]
    · rw [if_neg e1, if_pos rfl, if_neg (fun z => e1 ((flc_iff H hk).mp z).1)]
  · unfold b_X9_dropsOf_4
    dsimp only
    rw [t3, M.1.1.2.2.2, if_pos (nI_le (Nat.le_refl _) (by omega))]
end CGV
end
section
/-! it settles: by both -/
noncomputable def stl (h : HLd) (cn : Nat → Nat) : Nat → Nat → Nat → Nat → Nat × Nat × Nat
  | 0, S, D, f => (S, D, f)
  | n + 1, S, D, f => if flS h cn S = 0 then (S, D, f) else stl h cn n (difS S (flS h cn S)) (D ||| flS h cn S) (f ||| flS h cn S)
theorem stl_S (h : HLd) (cn : Nat → Nat) (n S D f : Nat) : stl h cn (n + 1) S D f = if flS h cn S = 0 then (S, D, f) else stl h cn n (difS S (flS h cn S)) (D ||| flS h cn S) (f ||| flS h cn S) := rfl
/-- who sits and who is dropped, of so many -/
noncomputable def BDd (q S D : Nat) : Prop := S < 2 ^ q ∧ D < 2 ^ q ∧ ∀ j, ¬ (bS S j ∧ bS D j)
theorem BDd.out {h : HLd} {cn : Nat → Nat} {S D x : Nat} (B : BDd (h.1 3) S D) (hx : ∀ j, bS x j → bS S j) : BDd (h.1 3) (difS S x) (D ||| x) := by
  obtain ⟨b1, b2, b3⟩ := B
  refine ⟨lt_bS (fun j hj z => bS_lt b1 hj (bS_dif.mp z).1), lt_bS (fun j hj z => ?_), fun j z => ?_⟩
  · rcases bS_or.mp z with w | w
    · exact bS_lt b2 hj w
    · exact bS_lt b1 hj (hx j w)
  · have z1 := bS_dif.mp z.1
    rcases bS_or.mp z.2 with w | w
    · exact b3 j ⟨z1.1, w⟩
    · exact z1.2 w
theorem stl_bd {h : HLd} {cn : Nat → Nat} (H : HOK h) : ∀ (n S D f : Nat), BDd (h.1 3) S D → f < 2 ^ h.1 3 → BDd (h.1 3) (stl h cn n S D f).1 (stl h cn n S D f).2.1 ∧ (stl h cn n S D f).2.2 < 2 ^ h.1 3
  | 0, S, D, f, B, hf => ⟨B, hf⟩
  | n + 1, S, D, f, B, hf => by
    rw [stl_S]
    by_cases e : flS h cn S = 0
    · rw [if_pos e]
      exact ⟨B, hf⟩
    · rw [if_neg e]
      refine stl_bd H n _ _ _ (B.out (h := h) (cn := cn) (fun j z => fl_sub H z)) (lt_bS (fun j hj z => ?_))
      rcases bS_or.mp z with w | w
      · exact bS_lt hf hj w
      · exact bS_lt B.1 hj (fl_sub H w)
/-- what of a room stays when it settles -/
noncomputable def KRd (rm rm2 : OB) : Prop := (∀ j, j ≠ 10 → j ≠ 11 → j ≠ 12 → rm2.1 j = rm.1 j) ∧ (∀ j, j ≠ 13 → j ≠ 14 → rm2.2.1 j = rm.2.1 j) ∧ rm2.2.2 = rm.2.2
theorem KRd.rf {rm : OB} : KRd rm rm := ⟨fun _ _ _ _ => rfl, fun _ _ _ => rfl, rfl⟩
theorem KRd.tr {a b c : OB} (h1 : KRd a b) (h2 : KRd b c) : KRd a c := ⟨fun j p q r => (h2.1 j p q r).trans (h1.1 j p q r), fun j p q => (h2.2.1 j p q).trans (h1.2.1 j p q), h2.2.2.trans h1.2.2⟩
theorem HKd.kr {h : HLd} {rm rm2 : OB} (K : HKd h rm) (k : KRd rm rm2) : HKd h rm2 := by
  obtain ⟨⟨a0, a1, a2, a3⟩, a4, a5, a6⟩ := K
  obtain ⟨k1, k2, k3⟩ := k
  refine ⟨⟨?_, ?_, ?_, ?_⟩, ?_, ?_, ?_⟩
  · rw [k1 0 (by decide) (by decide) (by decide)]; exact a0
  · rw [k1 1 (by decide) (by decide) (by decide)]; exact a1
  · rw [k1 2 (by decide) (by decide) (by decide)]; exact a2
  · rw [k1 3 (by decide) (by decide) (by decide)]; exact a3
  · rw [k2 4 (by decide) (by decide)]; exact a4
  · rw [k2 5 (by decide) (by decide), k2 6 (by decide) (by decide)]; exact a5
  · rw [k2 7 (by decide) (by decide), k2 8 (by decide) (by decide)]; exact a6
section SET
variable {F : Nat} {h : HLd} {cn : Nat → Nat} {mi : Nat}
/-- who sits is told anew, and weighed -/
theorem s_reweigh {rm : OB} {S D S2 D2 m2 : Nat} {I : Nat → Int32} (H : HOK h) (C : CDd h cn S D mi rm) (hI : ∀ j, j ≠ 10 → j ≠ 11 → j ≠ 12 → I j = rm.1 j) (h10 : I 10 = nI S2) (h11 : I 11 = nI D2) (h12 : I 12 = nI m2) (hS : S2 < 2 ^ 31) (hF : 600 ≤ F) : ∃ rm2, f_X3_weigh F (I, rm.2.1, rm.2.2) = some rm2 ∧ CDd h cn S2 D2 m2 rm2 ∧ KRd rm rm2 := by
  have k0 : KRd rm (I, rm.2.1, rm.2.2) := ⟨hI, fun _ _ _ => rfl, rfl⟩
  have K := C.1.kr k0
  obtain ⟨l2, e2, g1, g2⟩ := s_weigh (F := F) H K h10 hS hF
  have k1 : KRd (I, rm.2.1, rm.2.2) (rmw (I, rm.2.1, rm.2.2) l2 e2) := ⟨fun _ _ _ _ => rfl, fun j p q => by
    show uF (uF rm.2.1 13 l2) 14 e2 j = rm.2.1 j
    rw [uF_n q, uF_n p], rfl⟩
  exact ⟨_, g1, ⟨K.kr k1, ⟨h10, h11, h12⟩, C.2.2.1, g2⟩, k0.tr k1⟩
theorem st_loop (H : HOK h) (hc : ∀ k, k < h.1 1 → cn k ≤ 99) (hF : 600 ≤ F) : ∀ (n r g f S D : Nat) (rm : OB), r + n = 9 → n < g → CDd h cn S D mi rm → BDd (h.1 3) S D → ∃ rm2, lp (b_X3_settle_4 F) g (nI f, nI r, rm) = some (nI (stl h cn n S D f).2.2, rm2) ∧ CDd h cn (stl h cn n S D f).1 (stl h cn n S D f).2.1 mi rm2 ∧ KRd rm rm2 := by
  have hq := H.q8
  intro n
  induction n with
  | zero =>
    intro r g f S D rm h1 h2 C B
    obtain ⟨g, rfl⟩ : ∃ g', g = g' + 1 := ⟨g - 1, by omega⟩
    refine ⟨rm, ?_, C, KRd.rf⟩
    rw [lp_S, b_X3_settle_4]
    dsimp only
    rw [if_pos (show (8 : Int32) < nI r from nI_lt (a := 8) (b := r) (by omega) (by omega))]
    rfl
  | succ n ih =>
    intro r g f S D rm h1 h2 C B
    obtain ⟨g, rfl⟩ : ∃ g', g = g' + 1 := ⟨g - 1, by omega⟩
    have hS8 := l28 B.1 hq
    rw [lp_S, b_X3_settle_4]
    dsimp only
    rw [if_neg (show ¬ (8 : Int32) < nI r from nI_nlt (a := 8) (b := r) (by omega) (by omega)), s_out H hc C (by omega) hF, bd_some, stl_S]
    have hfl := l28 (mk_lt (c := flc h cn S) (h.1 3)) hq
    by_cases e : flS h cn S = 0
    · rw [e, if_pos rfl, if_pos (show nI 0 = 0 from rfl)]
      exact ⟨rm, rfl, C, KRd.rf⟩
    · rw [if_neg e, if_neg (nI_ne0 (Nat.pos_of_ne_zero e) (show mk_ (flc h cn S) (h.1 3) < 2 ^ 31 by omega)), C.2.1.1, C.2.1.2.1, n_dif, n_or, n_or, nI_1]
      have B2 := B.out (h := h) (cn := cn) (x := flS h cn S) (fun j z => fl_sub H z)
      have hd8 := l28 B2.1 hq
      obtain ⟨rm2, e1, e2, e3⟩ := s_reweigh (F := F) (S2 := difS S (flS h cn S)) (D2 := D ||| flS h cn S) (m2 := mi) (I := uF (uF rm.1 10 (nI (difS S (flS h cn S)))) 11 (nI (D ||| flS h cn S))) H C (fun j p q _ => by rw [uF_n q, uF_n p]) rfl rfl C.2.1.2.2 (by omega) hF
      rw [e1, bd_some]
      obtain ⟨rm3, g1, g2, g3⟩ := ih (r + 1) g (f ||| flS h cn S) _ _ rm2 (by omega) (by omega) e2 B2
      exact ⟨rm3, g1, g2, e3.tr g3⟩
theorem s_settle {S D : Nat} {rm : OB} (H : HOK h) (hc : ∀ k, k < h.1 1 → cn k ≤ 99) (hF : 600 ≤ F) (C : CDd h cn S D mi rm) (B : BDd (h.1 3) S D) : ∃ rm2, f_X3_settle F rm = some (nI (stl h cn 9 S D 0).2.2, rm2) ∧ CDd h cn (stl h cn 9 S D 0).1 (stl h cn 9 S D 0).2.1 mi rm2 ∧ KRd rm rm2 := st_loop H hc hF 9 0 F 0 S D rm (by omega) (by omega) C B
/-! the reference -/
noncomputable def KMd (mo mo2 : OB) : Prop := mo2.1 = mo.1 ∧ (∀ j, j ≠ 3 → mo2.2.1 j = mo.2.1 j) ∧ mo2.2.2 = mo.2.2
theorem KMd.rf {mo : OB} : KMd mo mo := ⟨rfl, fun _ _ => rfl, rfl⟩
theorem KMd.tr {a b c : OB} (h1 : KMd a b) (h2 : KMd b c) : KMd a c := ⟨h2.1.trans h1.1, fun j p => (h2.2.1 j p).trans (h1.2.1 j p), h2.2.2.trans h1.2.2⟩
theorem MKd.km {mo mo2 : OB} (M : MKd h mo) (k : ∀ j, j ≠ 3 → mo2.2.1 j = mo.2.1 j) : MKd h mo2 := by
  unfold MKd
  rw [k 1 (by decide), k 11 (by decide), k 6 (by decide), k 4 (by decide), k 7 (by decide), k 5 (by decide)]
  exact M
theorem those1 {S D : Nat} (B : BDd (h.1 3) S D) : mk_ (fun j => decide (stt S D j = 1)) (h.1 3) = S := mk_eq B.1 (fun j hj => by
  rw [decide_eq_true_eq]
  unfold stt
  by_cases a : bS D j
  · rw [if_pos a]
    exact ⟨fun z => absurd z (by decide), fun z => absurd ⟨z, a⟩ (B.2.2 j)⟩
  · rw [if_neg a]
    by_cases b : bS S j
    · rw [if_pos b]
      exact ⟨fun _ => b, fun _ => rfl⟩
    · rw [if_neg b]
      exact ⟨fun z => absurd z (by decide), fun z => absurd z b⟩)
theorem those2 {S D : Nat} (B : BDd (h.1 3) S D) : mk_ (fun j => decide (stt S D j = 2)) (h.1 3) = D := mk_eq B.2.1 (fun j hj => by
  rw [decide_eq_true_eq]
  unfold stt
  by_cases a : bS D j
  · rw [if_pos a]
    exact ⟨fun _ => a, fun _ => rfl⟩
  · rw [if_neg a]
    by_cases b : bS S j
    · rw [if_pos b]
      exact ⟨fun z => absurd z (by decide), fun z => absurd z a⟩
    · rw [if_neg b]
      exact ⟨fun z => absurd z (by decide), fun z => absurd z a⟩)
theorem s_sits {S D : Nat} {mo : OB} (H : HOK h) (M : MDd h cn S D mi mo) (B : BDd (h.1 3) S D) (hF : 600 ≤ F) : f_X9_those F 1 mo = some (nI S) := (s_those (st := 1) H M hF (by decide)).trans (by rw [those1 B])
theorem s_drpd {S D : Nat} {mo : OB} (H : HOK h) (M : MDd h cn S D mi mo) (B : BDd (h.1 3) S D) (hF : 600 ≤ F) : f_X9_those F 2 mo = some (nI D) := (s_those (st := 2) H M hF (by decide)).trans (by rw [those2 B])
/-- those of a set are marked as dropped, up to one -/
noncomputable def mrk (mo : OB) (x k : Nat) : OB := (mo.1, uF mo.2.1 3 (fun j => if j < k ∧ bS x j then nI 2 else mo.2.1 3 j), mo.2.2)
theorem mrk_0 {mo : OB} {x : Nat} : mrk mo x 0 = mo := by
  unfold mrk
  rw [show (fun j => if j < 0 ∧ bS x j then nI 2 else mo.2.1 3 j) = mo.2.1 3 from funext (fun j => if_neg (fun z => absurd z.1 (Nat.not_lt_zero _))), uF_id]
theorem mrk_S {mo : OB} {x k : Nat} : (((mrk mo x k).1, uF (mrk mo x k).2.1 3 (upd ((mrk mo x k).2.1 3) k (if bS x k then nI 2 else mo.2.1 3 k)), (mrk mo x k).2.2) : OB) = mrk mo x (k + 1) := by
  unfold mrk
  dsimp only
  rw [uF_uF, uF_s]
  refine Prod.ext rfl (Prod.ext (congrArg (uF mo.2.1 3) (funext (fun j => ?_))) rfl)
  by_cases e : j = k
  · rw [e, pk_us]
    by_cases b : bS x k
    · rw [if_pos b, if_pos ⟨by omega, b⟩]
    · rw [if_neg b, if_neg (fun z => b z.2)]
  · rw [pk_un e]
    by_cases b : j < k ∧ bS x j
    · rw [if_pos b, if_pos ⟨by omega, b.2⟩]
    · rw [if_neg b, if_neg (fun z => b ⟨by omega, z.2⟩)]
theorem stt_out {S D x j : Nat} (hx : bS x j → bS S j) : stt (difS S x) (D ||| x) j = if bS x j then 2 else stt S D j := by
  unfold stt
  by_cases b : bS x j
  · rw [if_pos b, if_pos (bS_or.mpr (Or.inr b))]
  · rw [if_neg b]
    by_cases a : bS D j
    · rw [if_pos a, if_pos (bS_or.mpr (Or.inl a))]
    · rw [if_neg a, if_neg (fun z => (bS_or.mp z).elim a b)]
      by_cases c : bS S j
      · rw [if_pos c, if_pos (bS_dif.mpr ⟨c, b⟩)]
      · rw [if_neg c, if_neg (fun z => c (bS_dif.mp z).1)]
theorem mrk_md {S D x : Nat} {mo : OB} (M : MDd h cn S D mi mo) (hx : ∀ j, bS x j → bS S j) : MDd h cn (difS S x) (D ||| x) mi (mrk mo x (h.1 3)) ∧ KMd mo (mrk mo x (h.1 3)) := by
  have k : KMd mo (mrk mo x (h.1 3)) := ⟨rfl, fun j hj => uF_n hj, rfl⟩
  refine ⟨⟨M.1.km k.2.1, M.2.1, M.2.2.1, fun j hj => ?_⟩, k⟩
  show (if j < h.1 3 ∧ bS x j then nI 2 else mo.2.1 3 j) = _
  rw [stt_out (hx j)]
  by_cases b : bS x j
  · rw [if_pos ⟨hj, b⟩, if_pos b]
  · rw [if_neg (fun z => b z.2), if_neg b]
    exact M.2.2.2 j hj
/-- one round of the reference's settling -/
theorem st9_step {S D f g : Nat} {mo : OB} (H : HOK h) (hc : ∀ k, k < h.1 1 → cn k ≤ 99) (hF : 600 ≤ F) (M : MDd h cn S D mi mo) (B : BDd (h.1 3) S D) (e : ¬ flS h cn S = 0) : lp (b_X9_settles_12 F) (g + 1) (nI f, nI (flS h cn S), mo) = lp (b_X9_settles_12 F) g (nI (f ||| flS h cn S), nI (flS h cn (difS S (flS h cn S))), mrk mo (flS h cn S) (h.1 3)) := by
  have hq := H.q8
  have hfl : flS h cn S < 256 := l28 (mk_lt (c := flc h cn S) (h.1 3)) hq
  have B2 := B.out (h := h) (cn := cn) (x := flS h cn S) (fun j z => fl_sub H z)
  obtain ⟨M2, K2⟩ := mrk_md (x := flS h cn S) M (fun j z => fl_sub H z)
  have hd8 := l28 B2.1 hq
  rw [lp_S, b_X9_settles_12]
  dsimp only
  rw [if_neg (nI_ne0 (Nat.pos_of_ne_zero e) (by omega))]
  have z : lp (b_X9_settles_18 F (lp (b_X9_settles_12 F) g)) F (nI f, nI (flS h cn S), nI 0, mrk mo (flS h cn S) 0) = lp (b_X9_settles_12 F) g (nI (f ||| flS h cn S), nI (flS h cn (difS S (flS h cn S))), mrk mo (flS h cn S) (h.1 3)) := by
    refine lp_for (body := b_X9_settles_18 F (lp (b_X9_settles_12 F) g)) (st := fun k => (nI f, nI (flS h cn S), nI k, mrk mo (flS h cn S) k)) (q := h.1 3) (res := lp (b_X9_settles_12 F) g (nI (f ||| flS h cn S), nI (flS h cn (difS S (flS h cn S))), mrk mo (flS h cn S) (h.1 3))) (fun kk k hk => ?_) (fun kk => ?_) (h.1 3) F 0 (by omega) (by omega)
    · unfold b_X9_settles_18 b_X9_settles_51
      dsimp only
      rw [t3, show (mrk mo (flS h cn S) k).2.1 1 3 = nI (h.1 3) from M.1.1.2.2.2, if_neg (nI_ge hk (by omega)), s_has (by omega) (by omega), bd_some, nI_1, ← mrk_S (k := k)]
      have e3 : (mrk mo (flS h cn S) k).2.1 3 k = mo.2.1 3 k := if_neg (fun z => absurd z.1 (Nat.lt_irrefl _))
      by_cases b : bS (flS h cn S) k
      · rw [if_pos b, if_neg (show ¬ (1 : Int32) = 0 by decide), if_pos (ib_n (show k < 8 by omega) (by decide)), nI_clamp (show k < 2 ^ 31 by omega), if_pos b]
        rfl
      · rw [if_neg b, if_pos rfl, if_pos (ib_n (show k < 8 by omega) (by decide)), if_pos (ib_n (show k < 8 by omega) (by decide)), nI_clamp (show k < 2 ^ 31 by omega), e3, if_neg b]
    · unfold b_X9_settles_18
      dsimp only
      rw [t3, show (mrk mo (flS h cn S) (h.1 3)).2.1 1 3 = nI (h.1 3) from M.1.1.2.2.2, if_pos (nI_le (Nat.le_refl _) (by omega)), s_sits H M2 B2 hF, bd_some, s_drops H hc M2.c (by omega) hF, bd_some, n_or]
  rw [mrk_0] at z
  exact z
noncomputable def cntN (S : Nat) : Nat := sumB 8 (fun k => if bS S k then 1 else 0)
theorem sumB_lt {f g : Nat → Nat} {j : Nat} : ∀ n, (∀ k, k < n → f k ≤ g k) → j < n → f j < g j → sumB n f < sumB n g
  | 0, _, h, _ => absurd h (Nat.not_lt_zero _)
  | n + 1, h1, h2, h3 => by
    rw [sumB_S, sumB_S]
    by_cases e : j = n
    · have := sumB_mono n (fun k hk => h1 k (by omega))
      rw [e] at h3
      omega
    · have := sumB_lt n (fun k hk => h1 k (by omega)) (show j < n by omega) h3
      have := h1 n (by omega)
      omega
theorem cnt_out {S x : Nat} (hx : ∀ j, bS x j → bS S j) (h8 : x < 2 ^ 8) (h0 : ¬ x = 0) : cntN (difS S x) < cntN S := by
  have hj : ∃ j, bS x j := Classical.byContradiction (fun z => h0 (eq_bS (fun j => ⟨fun w => absurd ⟨j, w⟩ z, fun w => absurd w (bS_0 j)⟩)))
  obtain ⟨j, hj⟩ := hj
  have hj8 : j < 8 := by
    by_cases q : j < 8
    · exact q
    · exact absurd hj (bS_lt h8 (by omega))
  refine sumB_lt (j := j) 8 (fun k _ => ?_) hj8 ?_
  · by_cases a : bS (difS S x) k
    · rw [if_pos a, if_pos (bS_dif.mp a).1]
      exact Nat.le_refl _
    · rw [if_neg a]
      exact Nat.zero_le _
  · rw [if_neg (fun z => (bS_dif.mp z).2 hj), if_pos (hx j hj)]
    decide
theorem st9_loop (H : HOK h) (hc : ∀ k, k < h.1 1 → cn k ≤ 99) (hF : 600 ≤ F) : ∀ (n g f S D : Nat) (mo : OB), cntN S ≤ n → n < g → MDd h cn S D mi mo → BDd (h.1 3) S D → ∃ mo2, lp (b_X9_settles_12 F) g (nI f, nI (flS h cn S), mo) = some (nI (stl h cn (n + 1) S D f).2.2, mo2) ∧ MDd h cn (stl h cn (n + 1) S D f).1 (stl h cn (n + 1) S D f).2.1 mi mo2 ∧ KMd mo mo2 := by
  have hq := H.q8
  intro n
  induction n with
  | zero =>
    intro g f S D mo h1 h2 M B
    obtain ⟨g, rfl⟩ : ∃ g', g = g' + 1 := ⟨g - 1, by omega⟩
    have e : flS h cn S = 0 := Classical.byContradiction (fun z => by
      have := cnt_out (S := S) (x := flS h cn S) (fun j w => fl_sub H w) (l28 (mk_lt (c := flc h cn S) (h.1 3)) hq) z
      omega)
    rw [stl_S, if_pos e, e]
    refine ⟨mo, ?_, M, KMd.rf⟩
    rw [lp_S, b_X9_settles_12]
    dsimp only
    rw [if_pos (show nI 0 = 0 from rfl)]
  | succ n ih =>
    intro g f S D mo h1 h2 M B
    obtain ⟨g, rfl⟩ : ∃ g', g = g' + 1 := ⟨g - 1, by omega⟩
    by_cases e : flS h cn S = 0
    · rw [stl_S, if_pos e, e]
      refine ⟨mo, ?_, M, KMd.rf⟩
      rw [lp_S, b_X9_settles_12]
      dsimp only
      rw [if_pos (show nI 0 = 0 from rfl)]
    · have hlt := cnt_out (S := S) (x := flS h cn S) (fun j w => fl_sub H w) (l28 (mk_lt (c := flc h cn S) (h.1 3)) hq) e
      obtain ⟨M2, K2⟩ := mrk_md (x := flS h cn S) M (fun j z => fl_sub H z)
      obtain ⟨mo3, g1, g2, g3⟩ := ih g (f ||| flS h cn S) _ _ _ (by omega) (by omega) M2 (B.out (h := h) (cn := cn) (x := flS h cn S) (fun j z => fl_sub H z))
      rw [st9_step H hc hF M B e, stl_S, if_neg e]
      exact ⟨mo3, g1, g2, K2.tr g3⟩
theorem cnt_8 (S : Nat) : cntN S ≤ 8 := by
  have := sumB_le (f := fun k => if bS S k then 1 else 0) (M := 1) 8 (fun k _ => by
    by_cases a : bS S k
    · rw [if_pos a]
      exact Nat.le_refl _
    · rw [if_neg a]
      exact Nat.zero_le _)
  unfold cntN
  omega
theorem s_settles {S D : Nat} {mo : OB} (H : HOK h) (hc : ∀ k, k < h.1 1 → cn k ≤ 99) (hF : 600 ≤ F) (M : MDd h cn S D mi mo) (B : BDd (h.1 3) S D) : ∃ mo2, f_X9_settles F mo = some (nI (stl h cn 9 S D 0).2.2, mo2) ∧ MDd h cn (stl h cn 9 S D 0).1 (stl h cn 9 S D 0).2.1 mi mo2 ∧ KMd mo mo2 := by
  have hq := H.q8
  have hS8 := l28 B.1 hq
  unfold f_X9_settles
  rw [s_sits H M B hF, bd_some, s_drops H hc M.c (by omega) hF, bd_some]
  exact st9_loop H hc hF 8 F 0 S D mo (cnt_8 S) (by omega) M B
end SET
end
