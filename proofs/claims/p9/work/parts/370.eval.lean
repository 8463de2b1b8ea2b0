/-! what a rule comes to: by both -/
/-- both stacks hold these values, of these kinds -/
noncomputable def SK : List Bool → List Int64 → (Nat → Int64) → (Nat → Int64) → Prop
  | [], [], _, _ => True
  | κ :: τ, v :: vs, cs, rs => (cs τ.length = v ∧ rs τ.length = v ∧ (κ = false → v = 0 ∨ v = 1)) ∧ SK τ vs cs rs
  | _, _, _, _ => False
theorem SK.up {v w : Int64} {i : Nat} {cs rs : Nat → Int64} : ∀ {τ : List Bool} {vs : List Int64}, SK τ vs cs rs → τ.length ≤ i → SK τ vs (vp_updL cs i v) (vp_updL rs i w)
  | [], [], _, _ => trivial
  | κ :: τ, x :: vs, h, hi => by
    have hi : τ.length + 1 ≤ i := hi
    refine ⟨?_, SK.up h.2 (by omega)⟩
    rw [pk_uLn (by omega), pk_uLn (by omega)]
    exact h.1
  | [], _ :: _, h, _ => h.elim
  | _ :: _, [], h, _ => h.elim
noncomputable def nvR (st : Nat → Int32) : Nat → Nat → Nat
  | _, 0 => 0
  | a, n + 1 => (if vaK (st a) then 1 else 0) + nvR st (a + 1) n
theorem nvR_S {st : Nat → Int32} : ∀ (n a : Nat), nvS st (a + n) = nvS st a + nvR st a n
  | 0, a => rfl
  | n + 1, a => by
    have e := nvR_S (st := st) n (a + 1)
    rw [show a + (n + 1) = a + 1 + n by omega, e]
    show nvS st a + (if vaK (st a) then 1 else 0) + nvR st (a + 1) n = nvS st a + ((if vaK (st a) then 1 else 0) + nvR st (a + 1) n)
    omega
noncomputable def rst (ru : OB) (cs : Nat → Int64) : OB := (ru.1, ru.2.1, uF ru.2.2 4 cs)
noncomputable def mst (mo : OB) (rs : Nat → Int64) : OB := (mo.1, mo.2.1, uF mo.2.2 37 rs)
theorem rst_up {ru : OB} {cs cs2 : Nat → Int64} : (((rst ru cs).1, (rst ru cs).2.1, uF (rst ru cs).2.2 4 cs2) : OB) = rst ru cs2 := by
  unfold rst
  dsimp only
  rw [uF_uF]
theorem mst_up {mo : OB} {rs rs2 : Nat → Int64} : (((mst mo rs).1, (mst mo rs).2.1, uF (mst mo rs).2.2 37 rs2) : OB) = mst mo rs2 := by
  unfold mst
  dsimp only
  rw [uF_uF]
/-- one of two numbers -/
noncomputable def cmb (q : Nat) (l r : Int64) : Int64 := if q = 2 then l + r else if q = 3 then l - r else if q = 4 then (if 0 ≤ lg_cmp l r then 0 else 1) else if q = 5 then (if 0 < lg_cmp l r then 0 else 1) else if q = 6 then (if lg_cmp l r = 0 then 1 else 0) else if q = 7 then (if lg_cmp l r < 0 then 0 else 1) else if q = 8 then (if lg_cmp l r ≤ 0 then 0 else 1) else if q = 10 then l &&& r else if q = 11 then l ||| r else if q = 13 then l * r else if q = 14 then (if lg_cmp r 0 = 0 then 0 else l / r) else (if lg_cmp r 0 = 0 then 0 else l - l / r * r)
theorem cmp0 {r : Int64} (h : ¬ lg_cmp r 0 = 0) : ¬ r = 0 := fun e => h (by rw [e]; decide)
/-- the codes of what is made of two -/
noncomputable def cd2 (q : Nat) : Int32 := if q = 2 then 43 else if q = 3 then 45 else if q = 4 then 60 else if q = 5 then 256 else if q = 6 then 61 else if q = 7 then 257 else if q = 8 then 62 else if q = 10 then 276 else if q = 11 then 275 else if q = 13 then 42 else if q = 14 then 47 else 37
abbrev op2 (q : Nat) : Prop := 2 ≤ q ∧ q ≤ 15 ∧ q ≠ 12 ∧ q ≠ 9
theorem op2_c {q : Nat} (h : op2 q) : q = 2 ∨ q = 3 ∨ q = 4 ∨ q = 5 ∨ q = 6 ∨ q = 7 ∨ q = 8 ∨ q = 10 ∨ q = 11 ∨ q = 13 ∨ q = 14 ∨ q = 15 := by
  obtain ⟨h1, h2, h3, h4⟩ := h
  omega
theorem s_comb {F q : Nat} {l r : Int64} (h : op2 q) : f_X4_combine F (cd2 q) l r = some (cmb q l r) := by
  unfold f_X4_combine b_X4_combine_133 b_X4_combine_147 b_X4_combine_159 b_X4_combine_171 b_X4_combine_183 b_X4_combine_195 b_X4_combine_207
  rcases op2_c h with e | e | e | e | e | e | e | e | e | e | e | e <;> subst e
  · rfl
  · rfl
  · show (if 0 ≤ lg_cmp l r then some 0 else some 1) = some (if 0 ≤ lg_cmp l r then 0 else 1)
    split <;> rfl
  · show (if 0 < lg_cmp l r then some 0 else some 1) = some (if 0 < lg_cmp l r then 0 else 1)
    split <;> rfl
  · show (if lg_cmp l r = 0 then some 1 else some 0) = some (if lg_cmp l r = 0 then 1 else 0)
    split <;> rfl
  · show (if lg_cmp l r < 0 then some 0 else some 1) = some (if lg_cmp l r < 0 then 0 else 1)
    split <;> rfl
  · show (if lg_cmp l r ≤ 0 then some 0 else some 1) = some (if lg_cmp l r ≤ 0 then 0 else 1)
    split <;> rfl
  · rfl
  · rfl
  · rfl
  · show (if lg_cmp r 0 = 0 then some 0 else (if ¬ r = 0 then some (l / r) else none)) = some (if lg_cmp r 0 = 0 then 0 else l / r)
    by_cases z : lg_cmp r 0 = 0
    · rw [if_pos z, if_pos z]
    · rw [if_neg z, if_neg z, if_pos (cmp0 z)]
  · show (if lg_cmp r 0 = 0 then some 0 else (if ¬ r = 0 then some (l - l / r * r) else none)) = some (if lg_cmp r 0 = 0 then 0 else l - l / r * r)
    by_cases z : lg_cmp r 0 = 0
    · rw [if_pos z, if_pos z]
    · rw [if_neg z, if_neg z, if_pos (cmp0 z)]
theorem s_both {F q : Nat} {l r : Int64} (h : op2 q) : f_X9_both F (nI q) l r = some (cmb q l r) := by
  unfold f_X9_both b_X9_both_97 b_X9_both_111 b_X9_both_123 b_X9_both_138 b_X9_both_153 b_X9_both_168 b_X9_both_183 f_X9_truth b_X9_truth_9
  rcases op2_c h with e | e | e | e | e | e | e | e | e | e | e | e <;> subst e
  · rfl
  · rfl
  · show (if 0 ≤ lg_cmp l r then some (0 : Int64) else some 1) = some (if 0 ≤ lg_cmp l r then 0 else 1)
    split <;> rfl
  · show (if 0 < lg_cmp l r then some (0 : Int64) else some 1) = some (if 0 < lg_cmp l r then 0 else 1)
    split <;> rfl
  · show (if lg_cmp l r = 0 then some (1 : Int64) else some 0) = some (if lg_cmp l r = 0 then 1 else 0)
    split <;> rfl
  · show (if lg_cmp l r < 0 then some (0 : Int64) else some 1) = some (if lg_cmp l r < 0 then 0 else 1)
    split <;> rfl
  · show (if lg_cmp l r ≤ 0 then some (0 : Int64) else some 1) = some (if lg_cmp l r ≤ 0 then 0 else 1)
    split <;> rfl
  · rfl
  · rfl
  · rfl
  · show (if lg_cmp r 0 = 0 then some 0 else (if ¬ r = 0 then some (l / r) else none)) = some (if lg_cmp r 0 = 0 then 0 else l / r)
    by_cases z : lg_cmp r 0 = 0
    · rw [if_pos z, if_pos z]
    · rw [if_neg z, if_neg z, if_pos (cmp0 z)]
  · show (if lg_cmp r 0 = 0 then some 0 else (if ¬ r = 0 then some (l - l / r * r) else none)) = some (if lg_cmp r 0 = 0 then 0 else l - l / r * r)
    by_cases z : lg_cmp r 0 = 0
    · rw [if_pos z, if_pos z]
    · rw [if_neg z, if_neg z, if_pos (cmp0 z)]
/-- what is compared or joined is 0 or 1 -/
theorem cmb_b {q : Nat} {l r : Int64} (h : (4 ≤ q ∧ q ≤ 8) ∨ ((q = 10 ∨ q = 11) ∧ (l = 0 ∨ l = 1) ∧ (r = 0 ∨ r = 1))) : cmb q l r = 0 ∨ cmb q l r = 1 := by
  have it : ∀ (c : Prop) [Decidable c], (if c then (0 : Int64) else 1) = 0 ∨ (if c then (0 : Int64) else 1) = 1 := fun c _ => by
    split
    · exact Or.inl rfl
    · exact Or.inr rfl
  have it2 : ∀ (c : Prop) [Decidable c], (if c then (1 : Int64) else 0) = 0 ∨ (if c then (1 : Int64) else 0) = 1 := fun c _ => by
    split
    · exact Or.inr rfl
    · exact Or.inl rfl
  rcases h with ⟨h1, h2⟩ | ⟨h1, h2, h3⟩
  · rcases (show q = 4 ∨ q = 5 ∨ q = 6 ∨ q = 7 ∨ q = 8 by omega) with e | e | e | e | e <;> subst e
    · exact it _
    · exact it _
    · exact it2 _
    · exact it _
    · exact it _
  · rcases h1 with e | e <;> subst e <;> rcases h2 with e | e <;> subst e <;> rcases h3 with e | e <;> subst e <;> decide
/-- what entries of the reference come to: a step, steps, a sum or a test -/
noncomputable def stpS (wv : Nat → Nat) (o v : Int32) (vs : List Int64) : List Int64 := if o = 0 then v.toInt64 :: vs else if o = 1 then (nI (wv (nat_ v))).toInt64 :: vs else if o = 9 then (match vs with | x :: t => (1 - x) :: t | [] => []) else (match vs with | y :: x :: t => cmb (nat_ o) x y :: t | _ => [])
noncomputable def evS (so nu : Nat → Int32) (X : Nat) (wv : Nat → Nat) : Nat → Nat → List Int64 → List Int64
  | 0, _, vs => vs
  | n + 1, a, vs => evS so nu X wv n (a + 1) (stpS wv (so (X + a)) (nu (X + a)) vs)
noncomputable def evH (so nu : Nat → Int32) (X : Nat) (wv : Nat → Nat) (a b : Nat) : Int64 := (evS so nu X wv (b - a) a []).headD 0
theorem stpS_op {wv : Nat → Nat} {q : Nat} {v : Int32} {y x : Int64} {t : List Int64} (h : op2 q) : stpS wv (nI q) v (y :: x :: t) = cmb q x y :: t := by
  have e : nat_ (nI q) = q := (nat_n rfl (by have := h.2.1; omega)).1
  have nq : ∀ j : Nat, j < 16 → q ≠ j → ¬ nI q = nI j := fun j hj hne z => hne ((nI_eq (by have := h.2.1; omega) (by omega)).mp z)
  unfold stpS
  rw [if_neg (show ¬ nI q = 0 from nq 0 (by decide) (by have := h.1; omega)), if_neg (show ¬ nI q = 1 from nq 1 (by decide) (by have := h.1; omega)), if_neg (show ¬ nI q = 9 from nq 9 (by decide) h.2.2.2), e]
