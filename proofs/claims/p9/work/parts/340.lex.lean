/-! texts, pure: bytes, runs, pieces -/
theorem ib_n {a n : Nat} (h : a < n) (hn : n < 2 ^ 31) : ib (nI a) n := by
  unfold ib
  rw [nI_toInt (by omega)]
  omega
theorem uF_s {α : Type} {f : Nat → α} {i : Nat} {x : α} : uF f i x i = x := if_pos rfl
theorem uF_n {α : Type} {f : Nat → α} {i j : Nat} {x : α} (h : j ≠ i) : uF f i x j = f j := if_neg h
theorem uF_uF {α : Type} {f : Nat → α} {i : Nat} {x y : α} : uF (uF f i x) i y = uF f i y := by
  funext j
  unfold uF
  by_cases h : j = i
  · rw [if_pos h, if_pos h]
  · rw [if_neg h, if_neg h, if_neg h]
theorem uF_cm {α : Type} {f : Nat → α} {i j : Nat} {x y : α} (h : i ≠ j) : uF (uF f i x) j y = uF (uF f j y) i x := by
  funext q
  unfold uF
  by_cases h1 : q = j
  · rw [if_pos h1, if_neg (by omega), if_pos h1]
  · rw [if_neg h1]
    by_cases h2 : q = i
    · rw [if_pos h2, if_pos h2]
    · rw [if_neg h2, if_neg h2, if_neg h1]
theorem uF_id {α : Type} {f : Nat → α} {i : Nat} : uF f i (f i) = f := by
  funext j
  unfold uF
  by_cases h : j = i
  · rw [if_pos h, h]
  · rw [if_neg h]
theorem lp_S {α β : Type} (body : (α → Option β) → α → Option β) (n : Nat) (a : α) : lp body (n + 1) a = body (lp body n) a := rfl
theorem bd_some {α β : Type} (x : α) (g : α → Option β) : Option.bind (some x) g = g x := rfl
/-- a run -/
noncomputable def reF (P : Nat → Bool) : Nat → Nat → Nat
  | 0, i => i
  | n + 1, i => if P i = true then reF P n (i + 1) else i
noncomputable def re (P : Nat → Bool) (L i : Nat) : Nat := reF P (L - i) i
theorem re_t {P : Nat → Bool} {L i : Nat} (h : i < L) (hp : P i = true) : re P L i = re P L (i + 1) := by
  unfold re
  rw [show L - i = (L - (i + 1)) + 1 from by omega]
  show (if P i = true then _ else _) = _
  rw [if_pos hp]
theorem re_f {P : Nat → Bool} {L i : Nat} (hp : P i = false) : re P L i = i := by
  unfold re
  cases L - i with
  | zero => rfl
  | succ n =>
    show (if P i = true then _ else _) = _
    rw [if_neg (by rw [hp]; decide)]
theorem re_bd {P : Nat → Bool} {L : Nat} : ∀ (n i : Nat), L - i = n → i ≤ L → i ≤ re P L i ∧ re P L i ≤ L
  | 0, i, h, hi => by
    unfold re
    rw [h]
    exact ⟨Nat.le_refl _, hi⟩
  | n + 1, i, h, hi => by
    by_cases hp : P i = true
    · rw [re_t (by omega) hp]
      have := re_bd (P := P) (L := L) n (i + 1) (by omega) (by omega)
      omega
    · rw [re_f (by simpa using hp)]
      omega
theorem re_ge {P : Nat → Bool} {L i : Nat} (hi : i ≤ L) : i ≤ re P L i := (re_bd _ i rfl hi).1
theorem re_le {P : Nat → Bool} {L i : Nat} (hi : i ≤ L) : re P L i ≤ L := (re_bd _ i rfl hi).2
theorem re_out {P : Nat → Bool} {L : Nat} (hP : ∀ j, L ≤ j → P j = false) : ∀ (n i : Nat), L - i = n → P (re P L i) = false
  | 0, i, h => by
    unfold re
    rw [h]
    exact hP i (by omega)
  | n + 1, i, h => by
    by_cases hp : P i = true
    · rw [re_t (by omega) hp]
      exact re_out hP n (i + 1) (by omega)
    · have hp : P i = false := by simpa using hp
      rw [re_f hp]
      exact hp
theorem re_in {P : Nat → Bool} {L : Nat} : ∀ (n i : Nat), L - i = n → ∀ j, i ≤ j → j < re P L i → P j = true
  | 0, i, h, j, h1, h2 => by
    unfold re at h2
    rw [h] at h2
    exact absurd h2 (by show ¬ j < i; omega)
  | n + 1, i, h, j, h1, h2 => by
    by_cases hp : P i = true
    · rw [re_t (by omega) hp] at h2
      by_cases e : j = i
      · rw [e]; exact hp
      · exact re_in n (i + 1) (by omega) j (by omega) h2
    · rw [re_f (by simpa using hp)] at h2
      exact absurd h2 (by omega)
/-- a loop over a run -/
theorem lp_run {α β : Type} {body : (α → Option β) → α → Option β} {st : Nat → α} {r : Nat → Option β} {P : Nat → Bool} {L i0 : Nat} (h1 : ∀ k j, i0 ≤ j → j < L → P j = true → body k (st j) = k (st (j + 1))) (h2 : ∀ k j, i0 ≤ j → j ≤ L → (j < L → P j = false) → body k (st j) = r j) : ∀ (n i : Nat), i0 ≤ i → i ≤ L → L - i < n → lp body n (st i) = r (re P L i)
  | 0, i, _, _, h => absurd h (by omega)
  | n + 1, i, h0, hi, h => by
    rw [lp_S]
    by_cases hl : i < L
    · by_cases hp : P i = true
      · rw [h1 _ i h0 hl hp, re_t hl hp]
        exact lp_run h1 h2 n (i + 1) (by omega) (by omega) (by omega)
      · have hp : P i = false := by simpa using hp
        rw [h2 _ i h0 hi (fun _ => hp), re_f hp]
    · rw [h2 _ i h0 hi (fun q => absurd q hl)]
      have : re P L i = i := by
        unfold re
        rw [show L - i = 0 from by omega]
        rfl
      rw [this]
/-- a byte of the tape, as the readers see it -/
noncomputable def cb (B : Nat → Int32) (L i : Nat) : Int32 := if i < L then B i &&& 255 else -1
abbrev isL (x : Int32) : Prop := 97 ≤ x ∧ x ≤ 122
abbrev isD (x : Int32) : Prop := 48 ≤ x ∧ x ≤ 57
theorem isL_i (x : Int32) : isL x ↔ 97 ≤ x.toInt ∧ x.toInt ≤ 122 := by
  unfold isL
  rw [sp_le, sp_le, show (97 : Int32).toInt = 97 from by decide, show (122 : Int32).toInt = 122 from by decide]
theorem isD_i (x : Int32) : isD x ↔ 48 ≤ x.toInt ∧ x.toInt ≤ 57 := by
  unfold isD
  rw [sp_le, sp_le, show (48 : Int32).toInt = 48 from by decide, show (57 : Int32).toInt = 57 from by decide]
theorem cb_out {B : Nat → Int32} {L i : Nat} (h : L ≤ i) : cb B L i = -1 := by
  unfold cb
  rw [if_neg (by omega)]
theorem cb_in {B : Nat → Int32} {L i : Nat} (h : i < L) : cb B L i = B i &&& 255 := by
  unfold cb
  rw [if_pos h]
noncomputable def lB (B : Nat → Int32) (L i : Nat) : Bool := decide (isL (cb B L i))
noncomputable def dB (B : Nat → Int32) (L i : Nat) : Bool := decide (isD (cb B L i))
noncomputable def sB (B : Nat → Int32) (L i : Nat) : Bool := decide (cb B L i = 32)
theorem lB_out {B : Nat → Int32} {L : Nat} : ∀ j, L ≤ j → lB B L j = false := fun j h => by
  unfold lB
  rw [cb_out h]
  decide
theorem dB_out {B : Nat → Int32} {L : Nat} : ∀ j, L ≤ j → dB B L j = false := fun j h => by
  unfold dB
  rw [cb_out h]
  decide
theorem sB_out {B : Nat → Int32} {L : Nat} : ∀ j, L ≤ j → sB B L j = false := fun j h => by
  unfold sB
  rw [cb_out h]
  decide
/-- is it this word? -/
noncomputable def isW (B : Nat → Int32) (L i j w : Nat) : Bool := decide (j - i = xl w) && decide (∀ k, k < xl w → cb B L (i + k) = xc w k &&& 255)
noncomputable def kw (B : Nat → Int32) (L i j : Nat) : Nat → Int32
  | 0 => 258
  | n + 1 => if isW B L i j n = true then nI (260 + n) else kw B L i j n
noncomputable def dv (B : Nat → Int32) (L i : Nat) : Nat → Int32
  | 0 => 0
  | n + 1 => dv B L i n * 10 + cb B L (i + n) - 48
noncomputable def lexE (B : Nat → Int32) (L i : Nat) : Nat := if lB B L i = true then re (lB B L) L i else if dB B L i = true then re (dB B L) L i else if (cb B L i = 60 ∨ cb B L i = 62) ∧ cb B L (i + 1) = 61 then i + 2 else i + 1
noncomputable def lexK (B : Nat → Int32) (L i : Nat) : Int32 := if lB B L i = true then kw B L i (re (lB B L) L i) 18 else if dB B L i = true then 259 else if (cb B L i = 60 ∨ cb B L i = 62) ∧ cb B L (i + 1) = 61 then (if cb B L i = 60 then 256 else 257) else cb B L i
noncomputable def lexV (B : Nat → Int32) (L i : Nat) : Int32 := if lB B L i = true then 0 else if dB B L i = true then (if re (dB B L) L i - i ≤ 5 then dv B L i (re (dB B L) L i - i) else -1) else 0
noncomputable abbrev sk (B : Nat → Int32) (L i : Nat) : Nat := re (sB B L) L i
theorem lexE_gt {B : Nat → Int32} {L i : Nat} (h : i < L) : i < lexE B L i ∧ lexE B L i ≤ L := by
  unfold lexE
  by_cases h1 : lB B L i = true
  · rw [if_pos h1, re_t h h1]
    exact ⟨Nat.lt_of_lt_of_le (Nat.lt_succ_self i) (re_ge (by omega)), re_le (by omega)⟩
  · rw [if_neg h1]
    by_cases h2 : dB B L i = true
    · rw [if_pos h2, re_t h h2]
      exact ⟨Nat.lt_of_lt_of_le (Nat.lt_succ_self i) (re_ge (by omega)), re_le (by omega)⟩
    · rw [if_neg h2]
      by_cases h3 : (cb B L i = 60 ∨ cb B L i = 62) ∧ cb B L (i + 1) = 61
      · rw [if_pos h3]
        have : i + 1 < L := by
          by_cases q : i + 1 < L
          · exact q
          · have e3 := h3.2
            rw [cb_out (by omega)] at e3
            exact absurd e3 (by decide)
        omega
      · rw [if_neg h3]
        omega
theorem lexK_end {B : Nat → Int32} {L i : Nat} (h : L ≤ i) : lexK B L i = -1 := by
  unfold lexK
  rw [if_neg (by rw [lB_out i h]; decide), if_neg (by rw [dB_out i h]; decide), cb_out h, if_neg (fun z => absurd z.1 (by decide))]
theorem lexV_end {B : Nat → Int32} {L i : Nat} (h : L ≤ i) : lexV B L i = 0 := by
  unfold lexV
  rw [if_neg (by rw [lB_out i h]; decide), if_neg (by rw [dB_out i h]; decide)]
/-! the tape's own methods -/
theorem s_byteAt {F : Nat} {tp : OB} {L i : Nat} (hL : tp.1 1 = nI L) (h4 : L ≤ 400) (hi : i < 2 ^ 30) : f_X7_byteAt F (nI i) tp = some (cb (tp.2.1 0) L i) := by
  unfold f_X7_byteAt b_X7_byteAt_25 b_X7_byteAt_26
  rw [if_neg (nI_pos (by omega)), hL]
  by_cases h : i < L
  · rw [if_neg (nI_ge h (by omega)), if_pos (ib_n (by omega) (by decide)), nI_clamp (by omega), cb_in h]
  · rw [if_pos (nI_le (by omega) (by omega)), cb_out (by omega)]
theorem s_isLetter (F : Nat) (x : Int32) : f_X7_isLetter F x = some (if isL x then 1 else 0) := by
  unfold f_X7_isLetter b_X7_isLetter_16 b_X7_isLetter_17
  by_cases h1 : x < 97
  · rw [if_pos h1, if_pos (Or.inl rfl), if_neg (fun h => by
      have := (isL_i x).mp h
      rw [sp_lt, show (97 : Int32).toInt = 97 from by decide] at h1
      omega)]
  · rw [if_neg h1]
    by_cases h2 : 122 < x
    · rw [if_pos h2, if_pos (Or.inl rfl), if_neg (fun h => by
        have := (isL_i x).mp h
        rw [sp_lt, show (122 : Int32).toInt = 122 from by decide] at h2
        omega)]
    · rw [if_neg h2, if_pos (Or.inr rfl), if_pos ((isL_i x).mpr (by
        rw [sp_lt, show (97 : Int32).toInt = 97 from by decide] at h1
        rw [sp_lt, show (122 : Int32).toInt = 122 from by decide] at h2
        omega))]
theorem s_isDigit (F : Nat) (x : Int32) : f_X7_isDigit F x = some (if isD x then 1 else 0) := by
  unfold f_X7_isDigit b_X7_isDigit_16 b_X7_isDigit_17
  by_cases h1 : x < 48
  · rw [if_pos h1, if_pos (Or.inl rfl), if_neg (fun h => by
      have := (isD_i x).mp h
      rw [sp_lt, show (48 : Int32).toInt = 48 from by decide] at h1
      omega)]
  · rw [if_neg h1]
    by_cases h2 : 57 < x
    · rw [if_pos h2, if_pos (Or.inl rfl), if_neg (fun h => by
        have := (isD_i x).mp h
        rw [sp_lt, show (57 : Int32).toInt = 57 from by decide] at h2
        omega)]
    · rw [if_neg h2, if_pos (Or.inr rfl), if_pos ((isD_i x).mpr (by
        rw [sp_lt, show (48 : Int32).toInt = 48 from by decide] at h1
        rw [sp_lt, show (57 : Int32).toInt = 57 from by decide] at h2
        omega))]
/-- the tape while it is cut up -/
noncomputable def tcs (tp : OB) (n : Nat) (K P V : Nat → Int32) : OB := (uF (uF (uF tp.1 5 (nI n)) 6 0) 7 0, uF (uF (uF tp.2.1 2 K) 3 P) 4 V, tp.2.2)
theorem tcs_B {tp : OB} {n : Nat} {K P V : Nat → Int32} : (tcs tp n K P V).2.1 0 = tp.2.1 0 := rfl
theorem s_put {F : Nat} {tp : OB} {n : Nat} {K P V : Nat → Int32} {x y z : Int32} (hn : n ≤ 400) : f_X7_put F x y z (tcs tp n K P V) = some (tcs tp (n + 1) (upd K n x) (upd P n y) (upd V n z)) := by
  unfold f_X7_put b_X7_put_50
  have e5 : (tcs tp n K P V).1 5 = nI n := rfl
  rw [e5, if_neg (show ¬ (400 : Int32) < nI n from by
    rw [sp_lt, nI_toInt (by omega), show (400 : Int32).toInt = 400 from by decide]
    omega), if_pos (ib_n (by omega) (by decide)), nI_clamp (by omega)]
  show some ((uF (uF (uF (uF tp.1 5 (nI n)) 6 0) 7 0) 5 (nI n + 1), uF (uF (uF (uF (uF (uF tp.2.1 2 K) 3 P) 4 V) 2 (upd K n x)) 3 (upd P n y)) 4 (upd V n z), tp.2.2) : OB) = some (tcs tp (n + 1) (upd K n x) (upd P n y) (upd V n z))
  unfold tcs
  rw [uF_cm (i := 7) (j := 5) (by decide), uF_cm (i := 6) (j := 5) (by decide), uF_uF, nI_1]
  rw [uF_cm (i := 4) (j := 2) (by decide), uF_cm (i := 3) (j := 2) (by decide), uF_uF]
  rw [uF_cm (i := 4) (j := 3) (by decide), uF_uF, uF_uF]
theorem s_reads {F : Nat} {tp : OB} {L i j w : Nat} (hF : 600 ≤ F) (hL : tp.1 1 = nI L) (h4 : L ≤ 400) (hw : w < 19) (hi : i ≤ j) (hj : j ≤ L) : f_X7_reads F w (nI i) (nI j) tp = some (if isW (tp.2.1 0) L i j w = true then 1 else 0) := by
  unfold f_X7_reads
  have hx := xl_b w
  rw [if_pos hw, pk_sub hi]
  by_cases e : j - i = xl w
  · rw [if_pos (by rw [e])]
    have main : ∀ (n q : Nat), q ≤ xl w → xl w - q < n → (∀ k, k < q → cb (tp.2.1 0) L (i + k) = xc w k &&& 255) → lp (b_X7_reads_15 F tp) n (w, nI i, nI q) = some (if isW (tp.2.1 0) L i j w = true then 1 else 0) := by
      intro n
      induction n with
      | zero => intro q _ h; exact absurd h (by omega)
      | succ n ih =>
        intro q hq hn hk
        rw [lp_S]
        unfold b_X7_reads_15
        try dsimp only
        rw [if_pos hw]
        by_cases hq2 : q = xl w
        · rw [if_pos (nI_le (by omega) (by omega)), if_pos (by
            unfold isW
            rw [decide_eq_true e, decide_eq_true (by rw [← hq2]; exact hk)]
            rfl)]
        · rw [if_neg (nI_ge (by omega) (by omega)), nI_add, s_byteAt hL h4 (by omega), bd_some, if_pos (ib_n (by omega) (by omega)), nI_clamp (by omega)]
          by_cases hc : cb (tp.2.1 0) L (i + q) = xc w q &&& 255
          · rw [if_pos hc, nI_1]
            exact ih (q + 1) (by omega) (by omega) (fun k hk2 => by
              by_cases ek : k = q
              · rw [ek]; exact hc
              · exact hk k (by omega))
          · rw [if_neg hc, if_neg (by
              unfold isW
              intro h
              rw [Bool.and_eq_true, decide_eq_true_eq, decide_eq_true_eq] at h
              exact hc (h.2 q (by omega)))]
    exact main F 0 (Nat.zero_le _) (by omega) (fun k hk => absurd hk (by omega))
  · rw [if_neg (fun q => e (by
      have := (nI_eq (by omega) (by omega)).mp q
      omega)), if_neg (by
      unfold isW
      intro h
      rw [Bool.and_eq_true, decide_eq_true_eq] at h
      exact e h.1)]
theorem s_wdX {w : Nat} (h : w < 18) : wdX (nI (260 + w)) = w := (show ∀ w, w < 18 → wdX (nI (260 + w)) = w from by decide) w h
theorem s_addWord {F : Nat} {tp : OB} {n L i : Nat} {K P V : Nat → Int32} (hF : 600 ≤ F) (hL : tp.1 1 = nI L) (h4 : L ≤ 400) (hi : i < L) (hn : n ≤ 400) (hl : lB (tp.2.1 0) L i = true) : f_X7_addWord F (nI i) (tcs tp n K P V) = some (nI (re (lB (tp.2.1 0) L) L i) - 1, tcs tp (n + 1) (upd K n (kw (tp.2.1 0) L i (re (lB (tp.2.1 0) L) L i) 18)) (upd P n (nI i)) (upd V n 0)) := by
  unfold f_X7_addWord
  have hL2 : (tcs tp n K P V).1 1 = nI L := hL
  rw [lp_run (st := fun j => (nI i, nI j, tcs tp n K P V)) (r := fun j => b_X7_addWord_27 F (nI i) (nI j) (tcs tp n K P V)) (P := lB (tp.2.1 0) L) (L := L) (i0 := 0) (fun k j _ hj hp => by
      unfold b_X7_addWord_2
      try dsimp only
      rw [hL2, if_neg (nI_ge hj (by omega)), s_byteAt hL2 h4 (by omega), bd_some, s_isLetter, bd_some, tcs_B, if_pos (of_decide_eq_true hp), if_neg (by decide), nI_1])
    (fun k j _ hj hp => by
      unfold b_X7_addWord_2
      try dsimp only
      rw [hL2]
      by_cases h : j < L
      · rw [if_neg (nI_ge h (by omega)), s_byteAt hL2 h4 (by omega), bd_some, s_isLetter, bd_some, tcs_B, if_neg (of_decide_eq_false (hp h)), if_pos rfl]
      · rw [if_pos (nI_le (by omega) (by omega))]) F i (Nat.zero_le _) (by omega) (by omega)]
  have hle := re_le (P := lB (tp.2.1 0) L) (L := L) (i := i) (by omega)
  have hge := re_ge (P := lB (tp.2.1 0) L) (L := L) (i := i) (by omega)
  generalize re (lB (tp.2.1 0) L) L i = j at hle hge ⊢
  unfold b_X7_addWord_27
  have main : ∀ (m w : Nat), w ≤ 18 → 18 - w < m → lp (b_X7_addWord_36 F) m (nI i, nI j, kw (tp.2.1 0) L i j w, nI (260 + w), tcs tp n K P V) = some (nI j - 1, tcs tp (n + 1) (upd K n (kw (tp.2.1 0) L i j 18)) (upd P n (nI i)) (upd V n 0)) := by
    intro m
    induction m with
    | zero => intro w _ h; exact absurd h (by omega)
    | succ m ih =>
      intro w hw hm
      rw [lp_S]
      unfold b_X7_addWord_36 b_X7_addWord_61
      try dsimp only
      by_cases e : w = 18
      · rw [if_pos (by rw [e]; decide), s_put hn, bd_some, e]
      · rw [if_neg (show ¬ (277 : Int32) < nI (260 + w) from by
          rw [sp_lt, nI_toInt (by omega), show (277 : Int32).toInt = 277 from by decide]
          omega), s_wdX (by omega), s_reads hF hL2 h4 (by omega) hge hle, bd_some, tcs_B, nI_1]
        have ek : kw (tp.2.1 0) L i j (w + 1) = if isW (tp.2.1 0) L i j w = true then nI (260 + w) else kw (tp.2.1 0) L i j w := rfl
        by_cases hc : isW (tp.2.1 0) L i j w = true
        · rw [if_pos hc] at ek
          rw [if_pos hc, if_neg (by decide), ← ek]
          exact ih (w + 1) (by omega) (by omega)
        · rw [if_neg hc] at ek
          rw [if_neg hc, if_pos rfl, ← ek]
          exact ih (w + 1) (by omega) (by omega)
  exact main F 0 (Nat.zero_le _) (by omega)
theorem s_le5 {a : Nat} (h : a < 2 ^ 31) : nI a ≤ 5 ↔ a ≤ 5 := by
  rw [sp_le, nI_toInt h, show (5 : Int32).toInt = 5 from by decide]
  omega
theorem s_5le {a : Nat} (h : a < 2 ^ 31) : 5 ≤ nI a ↔ 5 ≤ a := by
  rw [sp_le, nI_toInt h, show (5 : Int32).toInt = 5 from by decide]
  omega
theorem s_addNumber {F : Nat} {tp : OB} {n L i : Nat} {K P V : Nat → Int32} (hF : 600 ≤ F) (hL : tp.1 1 = nI L) (h4 : L ≤ 400) (hi : i < L) (hn : n ≤ 400) : f_X7_addNumber F (nI i) (tcs tp n K P V) = some (nI (re (dB (tp.2.1 0) L) L i) - 1, tcs tp (n + 1) (upd K n 259) (upd P n (nI i)) (upd V n (if re (dB (tp.2.1 0) L) L i - i ≤ 5 then dv (tp.2.1 0) L i (re (dB (tp.2.1 0) L) L i - i) else -1))) := by
  unfold f_X7_addNumber
  have hL2 : (tcs tp n K P V).1 1 = nI L := hL
  have e0 : (0 : Int32) = dv (tp.2.1 0) L i (min 5 (i - i)) := by
    rw [Nat.sub_self]
    rfl
  rw [show ((nI i, nI i, (0 : Int32), tcs tp n K P V) : Int32 × Int32 × Int32 × OB) = (fun q => (nI i, nI q, dv (tp.2.1 0) L i (min 5 (q - i)), tcs tp n K P V)) i from by
    try dsimp only
    rw [← e0]]
  rw [lp_run (st := fun q => (nI i, nI q, dv (tp.2.1 0) L i (min 5 (q - i)), tcs tp n K P V)) (r := fun q => b_X7_addNumber_50 F (nI i) (nI q) (dv (tp.2.1 0) L i (min 5 (q - i))) (tcs tp n K P V)) (P := dB (tp.2.1 0) L) (L := L) (i0 := i) (fun k q h0 hq hp => by
      unfold b_X7_addNumber_4 b_X7_addNumber_44
      try dsimp only
      rw [hL2, if_neg (nI_ge hq (by omega)), s_byteAt hL2 h4 (by omega), bd_some, s_isDigit, bd_some, tcs_B, if_pos (of_decide_eq_true hp), if_neg (by decide), pk_sub h0]
      by_cases h5 : 5 ≤ q - i
      · rw [if_pos ((s_5le (by omega)).mpr h5), nI_1, show min 5 (q + 1 - i) = min 5 (q - i) from by omega]
      · rw [if_neg (fun z => h5 ((s_5le (by omega)).mp z)), bd_some, nI_1, show min 5 (q + 1 - i) = (q - i) + 1 from by omega, show min 5 (q - i) = q - i from by omega]
        show _ = k (nI i, nI (q + 1), dv (tp.2.1 0) L i (q - i) * 10 + cb (tp.2.1 0) L (i + (q - i)) - 48, tcs tp n K P V)
        rw [show i + (q - i) = q from by omega])
    (fun k q h0 hq hp => by
      unfold b_X7_addNumber_4
      try dsimp only
      rw [hL2]
      by_cases h : q < L
      · rw [if_neg (nI_ge h (by omega)), s_byteAt hL2 h4 (by omega), bd_some, s_isDigit, bd_some, tcs_B, if_neg (of_decide_eq_false (hp h)), if_pos rfl]
      · rw [if_pos (nI_le (by omega) (by omega))]) F i (Nat.le_refl _) (by omega) (by omega)]
  have hle := re_le (P := dB (tp.2.1 0) L) (L := L) (i := i) (by omega)
  have hge := re_ge (P := dB (tp.2.1 0) L) (L := L) (i := i) (by omega)
  generalize re (dB (tp.2.1 0) L) L i = j at hle hge ⊢
  unfold b_X7_addNumber_50 b_X7_addNumber_67
  rw [pk_sub hge]
  by_cases h5 : j - i ≤ 5
  · rw [if_pos ((s_le5 (by omega)).mpr h5), s_put hn, bd_some, if_pos h5, show min 5 (j - i) = j - i from by omega]
  · rw [if_neg (fun z => h5 ((s_le5 (by omega)).mp z)), s_put hn, bd_some, if_neg h5]
theorem s_pred {j : Nat} (h : 0 < j) : nI j - 1 = nI (j - 1) := by
  rw [← nI_pred (j - 1), show j - 1 + 1 = j from by omega]
theorem s_addPiece {F : Nat} {tp : OB} {n L i : Nat} {K P V : Nat → Int32} (hF : 600 ≤ F) (hL : tp.1 1 = nI L) (h4 : L ≤ 400) (hi : i < L) (hn : n ≤ 400) : f_X7_addPiece F (nI i) (tcs tp n K P V) = some (nI (lexE (tp.2.1 0) L i - 1), tcs tp (n + 1) (upd K n (lexK (tp.2.1 0) L i)) (upd P n (nI i)) (upd V n (lexV (tp.2.1 0) L i))) := by
  unfold f_X7_addPiece
  have hL2 : (tcs tp n K P V).1 1 = nI L := hL
  have hE := lexE_gt (B := tp.2.1 0) hi
  rw [s_byteAt hL2 h4 (by omega), bd_some, s_isLetter, bd_some, tcs_B]
  unfold lexE at hE ⊢
  unfold lexK lexV
  by_cases h1 : lB (tp.2.1 0) L i = true
  · rw [if_pos h1] at hE
    rw [if_pos (of_decide_eq_true h1), if_neg (by decide), s_addWord hF hL h4 hi hn h1, bd_some, if_pos h1, if_pos h1, if_pos h1, s_pred (by omega)]
  · rw [if_neg h1] at hE
    rw [if_neg (fun z9 => h1 (decide_eq_true z9)), if_pos rfl, s_isDigit, bd_some, if_neg h1, if_neg h1, if_neg h1]
    by_cases h2 : dB (tp.2.1 0) L i = true
    · rw [if_pos h2] at hE
      rw [if_pos (of_decide_eq_true h2), if_neg (by decide), s_addNumber hF hL h4 hi hn, bd_some, if_pos h2, if_pos h2, if_pos h2, s_pred (by omega)]
    · rw [if_neg h2] at hE
      rw [if_neg (fun z9 => h2 (decide_eq_true z9)), if_pos rfl, if_neg h2, if_neg h2, if_neg h2]
      have tail : b_X7_addPiece_81 F (nI i) (cb (tp.2.1 0) L i) (tcs tp n K P V) = some (nI i, tcs tp (n + 1) (upd K n (cb (tp.2.1 0) L i)) (upd P n (nI i)) (upd V n 0)) := by
        unfold b_X7_addPiece_81
        rw [s_put hn, bd_some]
      have two : cb (tp.2.1 0) L i = 60 ∨ cb (tp.2.1 0) L i = 62 → b_X7_addPiece_44 F (nI i) (cb (tp.2.1 0) L i) (tcs tp n K P V) = some (nI ((if (cb (tp.2.1 0) L i = 60 ∨ cb (tp.2.1 0) L i = 62) ∧ cb (tp.2.1 0) L (i + 1) = 61 then i + 2 else i + 1) - 1), tcs tp (n + 1) (upd K n (if (cb (tp.2.1 0) L i = 60 ∨ cb (tp.2.1 0) L i = 62) ∧ cb (tp.2.1 0) L (i + 1) = 61 then (if cb (tp.2.1 0) L i = 60 then 256 else 257) else cb (tp.2.1 0) L i)) (upd P n (nI i)) (upd V n 0)) := by
        intro h3
        unfold b_X7_addPiece_44
        rw [nI_1, s_byteAt hL2 h4 (by omega), bd_some, tcs_B]
        by_cases h4 : cb (tp.2.1 0) L (i + 1) = 61
        · have h34 := And.intro h3 h4
          rw [if_pos h4, if_pos h34, if_pos h34]
          unfold b_X7_addPiece_72
          by_cases h5 : cb (tp.2.1 0) L i = 60
          · rw [if_pos h5, if_pos h5, s_put hn, bd_some, nI_1]
            rfl
          · rw [if_neg h5, if_neg h5, s_put hn, bd_some, nI_1]
            rfl
        · rw [if_neg h4, tail, if_neg (fun z => h4 z.2), if_neg (fun z => h4 z.2)]
          rfl
      by_cases h3 : cb (tp.2.1 0) L i = 60
      · rw [if_pos h3, two (Or.inl h3)]
      · rw [if_neg h3]
        by_cases h4 : cb (tp.2.1 0) L i = 62
        · rw [if_pos h4, two (Or.inr h4)]
        · rw [if_neg h4, tail, if_neg (fun z => z.1.elim h3 h4), if_neg (fun z => z.1.elim h3 h4)]
          rfl
/-- pieces from the n-th on, up to the m-th, which is the end -/
noncomputable def Tab (B : Nat → Int32) (L : Nat) (K P V : Nat → Int32) (n m i : Nat) : Prop := n < m ∧ P n = nI (sk B L i) ∧ ∀ t, n ≤ t → t < m → ∃ q, q ≤ L ∧ P t = nI q ∧ K t = lexK B L q ∧ V t = lexV B L q ∧ (q = L → t + 1 = m) ∧ (q < L → t + 1 < m ∧ P (t + 1) = nI (sk B L (lexE B L q)))
theorem s_cutLoop {F : Nat} {tp : OB} {L : Nat} (hF : 600 ≤ F) (hL : tp.1 1 = nI L) (h4 : L ≤ 400) : ∀ (f i n : Nat) (K P V : Nat → Int32), i ≤ L → L - i < f → n ≤ i → ∃ (m : Nat) (K2 P2 V2 : Nat → Int32), lp (b_X7_cutUp_17 F) f (nI i, tcs tp n K P V) = some (tcs tp m K2 P2 V2) ∧ m ≤ L + 1 ∧ Tab (tp.2.1 0) L K2 P2 V2 n m i ∧ ∀ t, t < n → K2 t = K t ∧ P2 t = P t ∧ V2 t = V t
  | 0, _, _, _, _, _, _, h, _ => absurd h (by omega)
  | f + 1, i, n, K, P, V, hi, hf, hn => by
    have hL2 : (tcs tp n K P V).1 1 = nI L := hL
    rw [lp_S]
    unfold b_X7_cutUp_17 b_X7_cutUp_45
    try dsimp only
    rw [hL2]
    by_cases h : i < L
    · rw [if_neg (nI_ge h (by omega)), s_byteAt hL2 h4 (by omega), bd_some, tcs_B]
      by_cases hb : cb (tp.2.1 0) L i = 32
      · rw [if_pos hb, nI_1]
        obtain ⟨m, K2, P2, V2, e, hm, ⟨t1, t2, t3⟩, hk⟩ := s_cutLoop hF hL h4 f (i + 1) n K P V (by omega) (by omega) (by omega)
        refine ⟨m, K2, P2, V2, e, hm, ⟨t1, ?_, t3⟩, hk⟩
        rw [t2]
        show nI (re _ _ _) = nI (re _ _ _)
        rw [re_t (P := sB (tp.2.1 0) L) h (decide_eq_true hb)]
      · have hE := lexE_gt (B := tp.2.1 0) h
        rw [if_neg hb, s_addPiece hF hL h4 h (by omega), bd_some]
        have eE : (if nI i < nI (lexE (tp.2.1 0) L i - 1) then nI (lexE (tp.2.1 0) L i - 1) else nI i) + 1 = nI (lexE (tp.2.1 0) L i) := by
          by_cases hq : i < lexE (tp.2.1 0) L i - 1
          · rw [if_pos (nI_lt hq (by omega)), nI_1, show lexE (tp.2.1 0) L i - 1 + 1 = lexE (tp.2.1 0) L i from by omega]
          · rw [if_neg (nI_nlt (by omega) (by omega)), nI_1, show i + 1 = lexE (tp.2.1 0) L i from by omega]
        try dsimp only
        rw [eE]
        obtain ⟨m, K2, P2, V2, e, hm, ⟨t1, t2, t3⟩, hk⟩ := s_cutLoop hF hL h4 f (lexE (tp.2.1 0) L i) (n + 1) (upd K n (lexK (tp.2.1 0) L i)) (upd P n (nI i)) (upd V n (lexV (tp.2.1 0) L i)) (by omega) (by omega) (by omega)
        obtain ⟨k1, k2, k3⟩ := hk n (by omega)
        rw [pk_us] at k1 k2 k3
        have eS : sk (tp.2.1 0) L i = i := re_f (decide_eq_false hb)
        refine ⟨m, K2, P2, V2, e, hm, ⟨by omega, by rw [k2, eS], fun t h1 h2 => ?_⟩, fun t ht => ?_⟩
        · by_cases et : t = n
          · subst et
            exact ⟨i, by omega, k2, k1, k3, fun q => absurd q (by omega), fun _ => ⟨t1, t2⟩⟩
          · exact t3 t (by omega) h2
        · obtain ⟨k4, k5, k6⟩ := hk t (by omega)
          rw [pk_un (by omega)] at k4 k5 k6
          exact ⟨k4, k5, k6⟩
    · have ei : i = L := by omega
      rw [if_pos (nI_le (by omega) (by omega)), s_put (by omega), bd_some]
      have eS : sk (tp.2.1 0) L i = L := by
        rw [ei]
        exact re_f (sB_out L (Nat.le_refl _))
      refine ⟨n + 1, _, _, _, rfl, by omega, ⟨by omega, by rw [pk_us, eS], fun t h1 h2 => ⟨L, Nat.le_refl _, ?_, ?_, ?_, fun _ => by omega, fun q => absurd q (by omega)⟩⟩, fun t ht => ⟨pk_un (by omega), pk_un (by omega), pk_un (by omega)⟩⟩
      · rw [show t = n from by omega, pk_us]
      · rw [show t = n from by omega, pk_us, lexK_end (Nat.le_refl _)]
      · rw [show t = n from by omega, pk_us, lexV_end (Nat.le_refl _)]
theorem s_cutUp {F : Nat} {tp : OB} {L : Nat} (hF : 600 ≤ F) (hL : tp.1 1 = nI L) (h4 : L ≤ 400) : ∃ (m : Nat) (K P V : Nat → Int32), f_X7_cutUp F tp = some (tcs tp m K P V) ∧ m ≤ L + 1 ∧ Tab (tp.2.1 0) L K P V 0 m 0 := by
  obtain ⟨m, K, P, V, e, hm, ht, _⟩ := s_cutLoop hF hL h4 F 0 0 (tp.2.1 2) (tp.2.1 3) (tp.2.1 4) (Nat.zero_le _) (by omega) (Nat.le_refl _)
  refine ⟨m, K, P, V, ?_, hm, ht⟩
  rw [← e]
  unfold f_X7_cutUp tcs
  rw [uF_id (f := tp.2.1) (i := 2), uF_id (f := tp.2.1) (i := 3), uF_id (f := tp.2.1) (i := 4), nI_0]
