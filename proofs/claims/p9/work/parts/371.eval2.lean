/-! what a rule comes to: steps of both -/
theorem k1_inv {σ υ : List Bool} (h : k1_ σ = some υ) : ∃ τ, σ = false :: τ ∧ υ = false :: τ := by
  match σ, h with
  | false :: τ, h =>
    cases h
    exact ⟨τ, rfl, rfl⟩
theorem k2_inv {x y : Bool} {σ υ : List Bool} (h : k2_ x y σ = some υ) : ∃ τ, σ = x :: x :: τ ∧ υ = y :: τ := by
  match σ, h with
  | u :: v :: τ, h =>
    have h : (if u = x ∧ v = x then some (y :: τ) else none) = some υ := h
    by_cases c : u = x ∧ v = x
    · rw [if_pos c] at h
      cases h
      exact ⟨τ, by rw [c.1, c.2], rfl⟩
    · rw [if_neg c] at h
      cases h
theorem tr_op {q : Nat} (h : op2 q) (b : Int32) : tr (nI q) b = cd2 q := by
  rcases op2_c h with e | e | e | e | e | e | e | e | e | e | e | e <;> subst e <;> rfl
theorem cd2_n {q : Nat} (h : op2 q) : ¬ 1000 ≤ cd2 q ∧ (cd2 q < 260 ∨ 270 < cd2 q) ∧ ¬ cd2 q = 277 ∧ cd2 q < 1000 ∧ ¬ vaK (cd2 q) := by
  rcases op2_c h with e | e | e | e | e | e | e | e | e | e | e | e <;> subst e <;> decide
theorem op_kinds {q : Nat} {σ υ : List Bool} (h : op2 q) (hk : kst (cd2 q) σ = some υ) : ∃ (κ κ' : Bool) (τ : List Bool), σ = κ :: κ :: τ ∧ υ = κ' :: τ ∧ (κ' = false → (4 ≤ q ∧ q ≤ 8) ∨ ((q = 10 ∨ q = 11) ∧ κ = false)) := by
  rcases op2_c h with e | e | e | e | e | e | e | e | e | e | e | e <;> subst e
  · obtain ⟨τ, a, b⟩ := k2_inv (x := true) (y := true) hk
    exact ⟨true, true, τ, a, b, fun z => by cases z⟩
  · obtain ⟨τ, a, b⟩ := k2_inv (x := true) (y := true) hk
    exact ⟨true, true, τ, a, b, fun z => by cases z⟩
  · obtain ⟨τ, a, b⟩ := k2_inv (x := true) (y := false) hk
    exact ⟨true, false, τ, a, b, fun _ => Or.inl (by omega)⟩
  · obtain ⟨τ, a, b⟩ := k2_inv (x := true) (y := false) hk
    exact ⟨true, false, τ, a, b, fun _ => Or.inl (by omega)⟩
  · obtain ⟨τ, a, b⟩ := k2_inv (x := true) (y := false) hk
    exact ⟨true, false, τ, a, b, fun _ => Or.inl (by omega)⟩
  · obtain ⟨τ, a, b⟩ := k2_inv (x := true) (y := false) hk
    exact ⟨true, false, τ, a, b, fun _ => Or.inl (by omega)⟩
  · obtain ⟨τ, a, b⟩ := k2_inv (x := true) (y := false) hk
    exact ⟨true, false, τ, a, b, fun _ => Or.inl (by omega)⟩
  · obtain ⟨τ, a, b⟩ := k2_inv (x := false) (y := false) hk
    exact ⟨false, false, τ, a, b, fun _ => Or.inr ⟨Or.inl rfl, rfl⟩⟩
  · obtain ⟨τ, a, b⟩ := k2_inv (x := false) (y := false) hk
    exact ⟨false, false, τ, a, b, fun _ => Or.inr ⟨Or.inr rfl, rfl⟩⟩
  · obtain ⟨τ, a, b⟩ := k2_inv (x := true) (y := true) hk
    exact ⟨true, true, τ, a, b, fun z => by cases z⟩
  · obtain ⟨τ, a, b⟩ := k2_inv (x := true) (y := true) hk
    exact ⟨true, true, τ, a, b, fun z => by cases z⟩
  · obtain ⟨τ, a, b⟩ := k2_inv (x := true) (y := true) hk
    exact ⟨true, true, τ, a, b, fun z => by cases z⟩
section EVS
variable {F : Nat} {rm ru mo : OB} {cs rs : Nat → Int64} {t : Nat} {v2 v3 v6 : Int32}
theorem pushC {K : (Int32 × Int32 × Int32 × Int32 × OB) → Option (Int64 × OB)} {v : Int64} (ht : t < 60) : b_X4_reckon_103 F rm K v2 v3 (nI t) v6 v (nI t) (rst ru cs) = K (v2, v3, nI (t + 1), v6 + 1, rst ru (vp_updL cs t v)) := by
  unfold b_X4_reckon_103 b_X4_reckon_185
  rw [if_pos (ib_n ht (by decide)), nI_clamp (by omega), nI_1, show (rst ru cs).2.2 4 = cs from rfl, rst_up]
theorem pushR {K : (Int32 × Int32 × Int32 × Int32 × OB) → Option (Int64 × OB)} {v : Int64} (ht : t < 300) : b_X9_answer_77 F K v2 v3 (nI t) v6 v (nI t) (mst mo rs) = K (v2, v3, nI (t + 1), v6 + 1, mst mo (vp_updL rs t v)) := by
  unfold b_X9_answer_77 b_X9_answer_147
  rw [if_pos (ib_n ht (by decide)), nI_clamp (by omega), nI_1, show (mst mo rs).2.2 37 = rs from rfl, mst_up]
theorem binC {K : (Int32 × Int32 × Int32 × Int32 × OB) → Option (Int64 × OB)} {c : Int32} {x : Int64} (hc : ¬ c = 277) (ht : t + 2 ≤ 60) (hx : f_X4_combine F c (cs t) (cs (t + 1)) = some x) : b_X4_reckon_110 F rm K v2 v3 (nI (t + 2)) v6 c (rst ru cs) = K (v2, v3, nI (t + 1), v6 + 1, rst ru (vp_updL cs t x)) := by
  unfold b_X4_reckon_110 b_X4_reckon_185
  rw [if_neg hc, if_neg (show ¬ nI (t + 2) ≤ 1 from nI_ge (a := 1) (b := t + 2) (by omega) (by omega)), show nI (t + 2) + (-1) = nI (t + 1) from pk_m1 (t + 1), nI_pred, if_pos (ib_n (show t < 60 by omega) (by decide)), if_pos (ib_n (show t + 1 < 60 by omega) (by decide)), nI_clamp (show t < 2 ^ 31 by omega), nI_clamp (show t + 1 < 2 ^ 31 by omega), show (rst ru cs).2.2 4 = cs from rfl, hx, bd_some, rst_up]
theorem notC {K : (Int32 × Int32 × Int32 × Int32 × OB) → Option (Int64 × OB)} (ht : t + 1 ≤ 60) : b_X4_reckon_110 F rm K v2 v3 (nI (t + 1)) v6 277 (rst ru cs) = K (v2, v3, nI (t + 1), v6 + 1, rst ru (vp_updL cs t (1 - cs t))) := by
  unfold b_X4_reckon_110 b_X4_reckon_185
  rw [if_pos rfl, if_neg (nI_nle (by omega) (by omega)), nI_pred, if_pos (ib_n (show t < 60 by omega) (by decide)), nI_clamp (show t < 2 ^ 31 by omega), show (rst ru cs).2.2 4 = cs from rfl, rst_up]
end EVS
section EVL
variable {F : Nat} {rm ru mo : OB} {s len k : Nat} {wv : Nat → Nat}
theorem ev_loop (hF : 600 ≤ F) (hs : s < 6) (h5 : ru.1 5 = nI len) (hlen : len ≤ 280) (hce : CE s len (ru.2.1 0) (mo.2.1 29) (mo.2.1 30)) (hw : ∀ w, w < 11 → f_X3_wordOf F (nI (260 + w)) (nI k) rm = some (nI (wv w)) ∧ mo.2.2 36 w = (nI (wv w)).toInt64) : ∀ (n a b : Nat) (σ τ : List Bool) (vs : List Int64) (cs rs : Nat → Int64) (gc gr : Nat), a + n = b → b ≤ len → hgt (ru.2.1 0) n a σ = some τ → σ.length + nvR (ru.2.1 0) a n ≤ 60 → SK σ vs cs rs → n < gc → n < gr → ∃ cs2 rs2, lp (b_X4_reckon_6 F rm) gc (nI b, nI k, nI σ.length, nI a, rst ru cs) = b_X4_reckon_191 F rm (nI τ.length) (rst ru cs2) ∧ lp (b_X9_answer_6 F) gr (nI s, nI b, nI σ.length, nI a, mst mo rs) = some (rs2 0, mst mo rs2) ∧ SK τ (evS (mo.2.1 29) (mo.2.1 30) (300 * s) wv n a vs) cs2 rs2
  | 0, a, b, σ, τ, vs, cs, rs, gc, gr, h1, h2, h3, h4, h6, g1, g2 => by
    obtain ⟨gc, rfl⟩ : ∃ g', gc = g' + 1 := ⟨gc - 1, by omega⟩
    obtain ⟨gr, rfl⟩ : ∃ g', gr = g' + 1 := ⟨gr - 1, by omega⟩
    have h3 : some σ = some τ := h3
    cases h3
    refine ⟨cs, rs, ?_, ?_, h6⟩
    · rw [lp_S, b_X4_reckon_6]
      dsimp only
      rw [if_pos (nI_le (by omega) (by omega))]
    · rw [lp_S, b_X9_answer_6]
      dsimp only
      rw [if_pos (nI_le (by omega) (by omega))]
      rfl
  | n + 1, a, b, σ, τ, vs, cs, rs, gc, gr, h1, h2, h3, h4, h6, g1, g2 => by
    obtain ⟨gc, rfl⟩ : ∃ g', gc = g' + 1 := ⟨gc - 1, by omega⟩
    obtain ⟨gr, rfl⟩ : ∃ g', gr = g' + 1 := ⟨gr - 1, by omega⟩
    have hx : 300 * s + a < 1800 := by omega
    obtain ⟨est, hv⟩ := hce a (by omega)
    have h3 : (kst (ru.2.1 0 a) σ).bind (fun υ => hgt (ru.2.1 0) n (a + 1) υ) = some τ := h3
    obtain ⟨υ, hk, h3⟩ : ∃ υ, kst (ru.2.1 0 a) σ = some υ ∧ hgt (ru.2.1 0) n (a + 1) υ = some τ := by
      cases hz : kst (ru.2.1 0 a) σ with
      | none =>
        rw [hz] at h3
        cases h3
      | some υ =>
        rw [hz] at h3
        exact ⟨υ, rfl, h3⟩
    have h4 : σ.length + ((if vaK (ru.2.1 0 a) then 1 else 0) + nvR (ru.2.1 0) (a + 1) n) ≤ 60 := h4
    have cl : lp (b_X4_reckon_6 F rm) (gc + 1) (nI b, nI k, nI σ.length, nI a, rst ru cs) = if ru.2.1 0 a < 1000 then b_X4_reckon_43 F rm (lp (b_X4_reckon_6 F rm) gc) (nI b) (nI k) (nI σ.length) (nI a) (ru.2.1 0 a) 0 (rst ru cs) else b_X4_reckon_43 F rm (lp (b_X4_reckon_6 F rm) gc) (nI b) (nI k) (nI σ.length) (nI a) (ru.2.1 0 a) 1 (rst ru cs) := by
      rw [lp_S, b_X4_reckon_6]
      dsimp only
      rw [if_neg (nI_ge (by omega) (by omega)), show (rst ru cs).1 5 = nI len from h5, if_neg (nI_ge (by omega) (by omega)), if_pos (ib_n (show a < 400 by omega) (by decide)), nI_clamp (by omega)]
      rfl
    have eX : (300 : Int32) * nI s + nI a = nI (300 * s + a) := by
      rw [show (300 : Int32) = nI 300 from rfl, pk_mul, nI_add]
    have rl : lp (b_X9_answer_6 F) (gr + 1) (nI s, nI b, nI σ.length, nI a, mst mo rs) = if mo.2.1 29 (300 * s + a) = 0 then b_X9_answer_53 F (lp (b_X9_answer_6 F) gr) (nI s) (nI b) (nI σ.length) (nI a) (mo.2.1 29 (300 * s + a)) (mo.2.1 30 (300 * s + a)) (mst mo rs) else if mo.2.1 29 (300 * s + a) = 1 then b_X9_answer_53 F (lp (b_X9_answer_6 F) gr) (nI s) (nI b) (nI σ.length) (nI a) (mo.2.1 29 (300 * s + a)) (mo.2.1 30 (300 * s + a)) (mst mo rs) else if mo.2.1 29 (300 * s + a) = 9 then (if ib (nI σ.length - 1) 300 then (b_X9_answer_147 F (lp (b_X9_answer_6 F) gr) (nI s) (nI b) (nI σ.length) (nI a) ((mst mo rs).1, (mst mo rs).2.1, (uF (mst mo rs).2.2 37 (vp_updL rs (Int32.toNatClampNeg (nI σ.length - 1)) (1 - (rs (Int32.toNatClampNeg (nI σ.length - 1)))))))) else none) else (if ib ((nI σ.length + (-1)) - 1) 300 then (if ib (nI σ.length + (-1)) 300 then (Option.bind (f_X9_both F (mo.2.1 29 (300 * s + a)) (rs (Int32.toNatClampNeg ((nI σ.length + (-1)) - 1))) (rs (Int32.toNatClampNeg (nI σ.length + (-1))))) (fun q11 => (b_X9_answer_147 F (lp (b_X9_answer_6 F) gr) (nI s) (nI b) (nI σ.length + (-1)) (nI a) ((mst mo rs).1, (mst mo rs).2.1, (uF (mst mo rs).2.2 37 (vp_updL rs (Int32.toNatClampNeg ((nI σ.length + (-1)) - 1)) q11)))))) else none) else none) := by
      rw [lp_S, b_X9_answer_6]
      dsimp only
      rw [if_neg (nI_ge (by omega) (by omega)), eX, if_pos (ib_n hx (by decide)), nI_clamp (by omega)]
      rfl
    have ih := ev_loop hF hs h5 hlen hce hw n (a + 1) b
    have eS : evS (mo.2.1 29) (mo.2.1 30) (300 * s) wv (n + 1) a vs = evS (mo.2.1 29) (mo.2.1 30) (300 * s) wv n (a + 1) (stpS wv (mo.2.1 29 (300 * s + a)) (mo.2.1 30 (300 * s + a)) vs) := rfl
    rw [eS]
    rcases hv with ⟨v1, v, hv1, hv2⟩ | ⟨v1, w, hv1, hv2⟩ | ⟨q, v1, q2, q15, q12⟩
    · -- a number
      have ek : ru.2.1 0 a = nI (1000 + v) := by
        rw [est, v1, hv2]
        show (1000 : Int32) + nI v = _
        rw [show (1000 : Int32) = nI 1000 from rfl, nI_add]
      have hge : (1000 : Int32) ≤ ru.2.1 0 a := by
        rw [ek]
        exact nI_le (a := 1000) (b := 1000 + v) (by omega) (by omega)
      have hva : vaK (ru.2.1 0 a) := Or.inl hge
      rw [if_pos hva] at h4
      have eυ : υ = true :: σ := by
        unfold kst at hk
        rw [if_pos hva] at hk
        exact (Option.some.inj hk).symm
      subst eυ
      have eP : stpS wv (mo.2.1 29 (300 * s + a)) (mo.2.1 30 (300 * s + a)) vs = (nI v).toInt64 :: vs := by
        unfold stpS
        rw [if_pos v1, hv2]
      rw [eP]
      obtain ⟨cs2, rs2, i1, i2, i3⟩ := ih (true :: σ) τ ((nI v).toInt64 :: vs) (vp_updL cs σ.length (nI v).toInt64) (vp_updL rs σ.length (nI v).toInt64) gc gr (by omega) h2 h3 (by show σ.length + 1 + _ ≤ 60; omega) ⟨⟨pk_uLs, pk_uLs, fun z => by cases z⟩, h6.up (Nat.le_refl _)⟩ (by omega) (by omega)
      refine ⟨cs2, rs2, ?_, ?_, i3⟩
      · rw [cl, if_neg (fun z => by rw [ek] at z; exact nI_nlt (a := 1000 + v) (b := 1000) (by omega) (by omega) z)]
        unfold b_X4_reckon_43 b_X4_reckon_66
        rw [if_neg (show ¬ (1 : Int32) = 0 by decide), if_neg (show ¬ (60 : Int32) ≤ nI σ.length from nI_ge (a := σ.length) (b := 60) (by omega) (by decide)), if_neg (show ¬ (1 : Int32) = 0 by decide), pushC (by omega), ek, show (1000 : Int32) = nI 1000 from rfl, pk_sub (by omega), show 1000 + v - 1000 = v by omega, nI_1]
        exact i1
      · rw [rl, if_pos v1]
        unfold b_X9_answer_53
        rw [if_pos v1, pushR (by omega), hv2, nI_1]
        exact i2
    · -- a word
      have ek : ru.2.1 0 a = nI (260 + w) := by
        rw [est, v1, hv2]
        show (260 : Int32) + nI w = _
        rw [show (260 : Int32) = nI 260 from rfl, nI_add]
      have hva : vaK (ru.2.1 0 a) := Or.inr (by
        rw [ek]
        exact ⟨nI_le (a := 260) (b := 260 + w) (by omega) (by omega), nI_le (a := 260 + w) (b := 270) (by omega) (by decide)⟩)
      rw [if_pos hva] at h4
      have eυ : υ = true :: σ := by
        unfold kst at hk
        rw [if_pos hva] at hk
        exact (Option.some.inj hk).symm
      subst eυ
      have eP : stpS wv (mo.2.1 29 (300 * s + a)) (mo.2.1 30 (300 * s + a)) vs = (nI (wv w)).toInt64 :: vs := by
        unfold stpS
        rw [if_neg (by rw [v1]; decide), if_pos v1, hv2, (nat_n rfl (show w < 2 ^ 31 by omega)).1]
      rw [eP]
      obtain ⟨cs2, rs2, i1, i2, i3⟩ := ih (true :: σ) τ ((nI (wv w)).toInt64 :: vs) (vp_updL cs σ.length (nI (wv w)).toInt64) (vp_updL rs σ.length (nI (wv w)).toInt64) gc gr (by omega) h2 h3 (by show σ.length + 1 + _ ≤ 60; omega) ⟨⟨pk_uLs, pk_uLs, fun z => by cases z⟩, h6.up (Nat.le_refl _)⟩ (by omega) (by omega)
      refine ⟨cs2, rs2, ?_, ?_, i3⟩
      · rw [cl, ek, if_pos (show nI (260 + w) < 1000 from nI_lt (a := 260 + w) (b := 1000) (by omega) (by decide))]
        unfold b_X4_reckon_43 b_X4_reckon_66
        rw [if_pos rfl, if_neg (show ¬ nI (260 + w) < 260 from nI_nlt (a := 260 + w) (b := 260) (by omega) (by omega)), if_neg (show ¬ (270 : Int32) < nI (260 + w) from nI_nlt (a := 270) (b := 260 + w) (by omega) (by omega)), if_neg (show ¬ (60 : Int32) ≤ nI σ.length from nI_ge (a := σ.length) (b := 60) (by omega) (by decide)), if_pos rfl, (hw w hv1).1, bd_some, pushC (by omega), nI_1]
        exact i1
      · rw [rl, if_neg (by rw [v1]; decide), if_pos v1]
        unfold b_X9_answer_53
        rw [if_neg (by rw [v1]; decide), hv2, if_pos (ib_n hv1 (by decide)), nI_clamp (by omega), show (mst mo rs).2.2 36 = mo.2.2 36 from rfl, (hw w hv1).2, pushR (by omega), nI_1]
        exact i2
    · by_cases q9 : q = 9
      · -- not
        subst q9
        have ek : ru.2.1 0 a = 277 := by
          rw [est, v1]
          rfl
        have hva : ¬ vaK (ru.2.1 0 a) := by
          rw [ek]
          decide
        rw [if_neg hva] at h4
        rw [ek] at hk
        have hk : k1_ σ = some υ := hk
        obtain ⟨σ', rfl, rfl⟩ := k1_inv hk
        cases vs with
        | nil => exact h6.elim
        | cons x vs =>
          obtain ⟨⟨g3, g4, g5⟩, g6⟩ := h6
          have hsg : (1 : Int64) - x = 0 ∨ (1 : Int64) - x = 1 := by
            rcases g5 rfl with z | z
            · rw [z]
              exact Or.inr (by decide)
            · rw [z]
              exact Or.inl (by decide)
          have eP : stpS wv (mo.2.1 29 (300 * s + a)) (mo.2.1 30 (300 * s + a)) (x :: vs) = (1 - x) :: vs := by
            unfold stpS
            rw [if_neg (by rw [v1]; decide), if_neg (by rw [v1]; decide), if_pos (show mo.2.1 29 (300 * s + a) = 9 from v1)]
          rw [eP]
          have h4' : σ'.length + 1 + (0 + nvR (ru.2.1 0) (a + 1) n) ≤ 60 := h4
          obtain ⟨cs2, rs2, i1, i2, i3⟩ := ih (false :: σ') τ ((1 - x) :: vs) (vp_updL cs σ'.length (1 - cs σ'.length)) (vp_updL rs σ'.length (1 - rs σ'.length)) gc gr (by omega) h2 h3 (by show σ'.length + 1 + _ ≤ 60; omega) ⟨⟨by rw [pk_uLs, g3], by rw [pk_uLs, g4], fun _ => hsg⟩, g6.up (Nat.le_refl _)⟩ (by omega) (by omega)
          refine ⟨cs2, rs2, ?_, ?_, i3⟩
          · rw [cl, ek, if_pos (by decide)]
            unfold b_X4_reckon_43
            rw [if_pos rfl, if_neg (by decide), if_pos (by decide), show (false :: σ').length = σ'.length + 1 from rfl, notC (by omega), nI_1]
            exact i1
          · rw [rl, if_neg (by rw [v1]; decide), if_neg (by rw [v1]; decide), if_pos (show mo.2.1 29 (300 * s + a) = 9 from v1), show (false :: σ').length = σ'.length + 1 from rfl, nI_pred, if_pos (ib_n (show σ'.length < 300 by omega) (by decide)), nI_clamp (by omega), mst_up]
            unfold b_X9_answer_147
            rw [nI_1]
            exact i2
      · -- one of two
        have ho : op2 q := ⟨q2, q15, q12, q9⟩
        have ek : ru.2.1 0 a = cd2 q := by
          rw [est, v1, tr_op ho]
        obtain ⟨n1, n2, n3, n4, n5⟩ := cd2_n ho
        rw [if_neg (by rw [ek]; exact n5)] at h4
        rw [ek] at hk
        obtain ⟨κ, κ', σ', rfl, rfl, hκ⟩ := op_kinds ho hk
        match vs, h6 with
        | y :: x :: vs, h6 =>
        obtain ⟨⟨g3, g4, g5⟩, ⟨g6, g7, g8⟩, g9⟩ := h6
        have g3 : cs (σ'.length + 1) = y := g3
        have g4 : rs (σ'.length + 1) = y := g4
        rw [v1, stpS_op ho]
        have h4' : σ'.length + 2 + (0 + nvR (ru.2.1 0) (a + 1) n) ≤ 60 := h4
        obtain ⟨cs2, rs2, i1, i2, i3⟩ := ih (κ' :: σ') τ (cmb q x y :: vs) (vp_updL cs σ'.length (cmb q (cs σ'.length) (cs (σ'.length + 1)))) (vp_updL rs σ'.length (cmb q (rs σ'.length) (rs (σ'.length + 1)))) gc gr (by omega) h2 h3 (by show σ'.length + 1 + _ ≤ 60; omega) ⟨⟨by rw [pk_uLs, g3, g6], by rw [pk_uLs, g4, g7], fun z => by
          refine cmb_b ?_
          rcases hκ z with w | w
          · exact Or.inl w
          · exact Or.inr ⟨w.1, g8 w.2, g5 w.2⟩⟩, g9.up (Nat.le_refl _)⟩ (by omega) (by omega)
        have nq : ∀ j : Nat, j < 16 → q ≠ j → ¬ nI q = nI j := fun j hj hne z => hne ((nI_eq (by omega) (by omega)).mp z)
        refine ⟨cs2, rs2, ?_, ?_, i3⟩
        · have e43 : ∀ y0 : Int32, y0 = 0 → b_X4_reckon_43 F rm (lp (b_X4_reckon_6 F rm) gc) (nI b) (nI k) (nI (σ'.length + 2)) (nI a) (cd2 q) y0 (rst ru cs) = b_X4_reckon_110 F rm (lp (b_X4_reckon_6 F rm) gc) (nI b) (nI k) (nI (σ'.length + 2)) (nI a) (cd2 q) (rst ru cs) := fun y0 hy => by
            unfold b_X4_reckon_43
            rw [if_pos hy]
            rcases n2 with z | z
            · rw [if_pos z]
            · by_cases z2 : cd2 q < 260
              · rw [if_pos z2]
              · rw [if_neg z2, if_pos z]
          rw [cl, ek, if_pos n4, show (κ :: κ :: σ').length = σ'.length + 2 from rfl, e43 0 rfl, binC n3 (by omega) (s_comb ho), nI_1]
          exact i1
        · rw [rl]
          rw [v1, if_neg (show ¬ nI q = 0 from nq 0 (by decide) (by omega)), if_neg (show ¬ nI q = 1 from nq 1 (by decide) (by omega)), if_neg (show ¬ nI q = 9 from nq 9 (by decide) q9), show (κ :: κ :: σ').length = σ'.length + 2 from rfl, show nI (σ'.length + 2) + (-1) = nI (σ'.length + 1) from pk_m1 (σ'.length + 1), nI_pred, if_pos (ib_n (show σ'.length < 300 by omega) (by decide)), if_pos (ib_n (show σ'.length + 1 < 300 by omega) (by decide)), nI_clamp (show σ'.length < 2 ^ 31 by omega), nI_clamp (show σ'.length + 1 < 2 ^ 31 by omega), s_both ho, bd_some, mst_up]
          unfold b_X9_answer_147
          rw [nI_1]
          exact i2
/-- a sum or a test, by both -/
theorem ev_seg {κ : Bool} {a b : Nat} {cs rs : Nat → Int64} (hF : 600 ≤ F) (hs : s < 6) (h5 : ru.1 5 = nI len) (hlen : len ≤ 280) (hnv : nvS (ru.2.1 0) len ≤ 60) (hce : CE s len (ru.2.1 0) (mo.2.1 29) (mo.2.1 30)) (hw : ∀ w, w < 11 → f_X3_wordOf F (nI (260 + w)) (nI k) rm = some (nI (wv w)) ∧ mo.2.2 36 w = (nI (wv w)).toInt64) (hS : Seg κ (ru.2.1 0) a b 1) (hb : b ≤ len) : ∃ (cs2 rs2 : Nat → Int64), f_X4_reckon F (nI a) (nI b) (nI k) (rst ru cs) rm = some (evH (mo.2.1 29) (mo.2.1 30) (300 * s) wv a b, rst ru cs2) ∧ f_X9_answer F (nI s) (nI a) (nI b) (mst mo rs) = some (evH (mo.2.1 29) (mo.2.1 30) (300 * s) wv a b, mst mo rs2) ∧ (κ = false → evH (mo.2.1 29) (mo.2.1 30) (300 * s) wv a b = 0 ∨ evH (mo.2.1 29) (mo.2.1 30) (300 * s) wv a b = 1) := by
  have hab := hS.1
  have n1 := nvR_S (st := ru.2.1 0) (b - a) a
  have n2 := nvR_S (st := ru.2.1 0) (len - b) b
  rw [show a + (b - a) = b by omega] at n1
  rw [show b + (len - b) = len by omega] at n2
  obtain ⟨cs2, rs2, i1, i2, i3⟩ := ev_loop (F := F) (rm := rm) (ru := ru) (mo := mo) (k := k) (wv := wv) hF hs h5 hlen hce hw (b - a) a b [] [κ] [] cs rs F F (by omega) hb (hS.2 []) (by show 0 + _ ≤ 60; omega) trivial (by omega) (by omega)
  have i1 : f_X4_reckon F (nI a) (nI b) (nI k) (rst ru cs) rm = b_X4_reckon_191 F rm (nI 1) (rst ru cs2) := i1
  unfold evH
  generalize evS (mo.2.1 29) (mo.2.1 30) (300 * s) wv (b - a) a [] = l at i3 ⊢
  match l, i3 with
  | [v], i3 =>
    have e0 : cs2 0 = v := i3.1.1
    have e1 : rs2 0 = v := i3.1.2.1
    rw [e1] at i2
    refine ⟨cs2, rs2, ?_, i2, i3.1.2.2⟩
    rw [i1]
    unfold b_X4_reckon_191 b_X4_reckon_209
    rw [if_neg (nI_nle (by decide) (by decide)), show nI 1 - 1 = nI 0 from nI_pred 0, if_pos (ib_n (show 0 < 60 by decide) (by decide)), nI_clamp (by decide), show (rst ru cs2).2.2 4 = cs2 from rfl, e0]
    rfl
end EVL
