/-! no more values than units: the class's reader -/
noncomputable def nvS (st : Nat → Int32) : Nat → Nat
  | 0 => 0
  | n + 1 => nvS st n + (if vaK (st n) then 1 else 0)
theorem nvS_cg {st st2 : Nat → Int32} : ∀ n, (∀ j, j < n → st2 j = st j) → nvS st2 n = nvS st n
  | 0, _ => rfl
  | n + 1, h => by
    show nvS st2 n + (if vaK (st2 n) then 1 else 0) = nvS st n + (if vaK (st n) then 1 else 0)
    rw [nvS_cg n (fun j hj => h j (by omega)), h n (by omega)]
theorem nvS_up {st : Nat → Int32} {n : Nat} {k : Int32} : nvS (upd st n k) (n + 1) = nvS st n + (if vaK k then 1 else 0) := by
  show nvS (upd st n k) n + (if vaK (upd st n k n) then 1 else 0) = _
  rw [nvS_cg n (fun j hj => pk_un (by omega)), pk_us]
noncomputable def UVm (m : Nat) (ru : OB) : Prop := ∃ (y : OB) (len u : Nat) (st : Nat → Int32), ru = rus y (nI len) (nI u) st ∧ len ≤ 400 ∧ u ≤ 60 ∧ nvS st len + m ≤ u
abbrev UV (ru : OB) : Prop := UVm 0 ru
theorem UV_add {F : Nat} {ru R : OB} {k : Int32} {m : Nat} (h : UVm m ru) (hm : ¬ vaK k ∨ 1 ≤ m) (e : f_X4_add F k ru = some R) : UV R := by
  obtain ⟨y, len, u, st, rfl, h1, h2, h3⟩ := h
  by_cases hl : len < 400
  · rw [s_add hl] at e
    cases e
    refine ⟨y, len + 1, u, upd st len k, rfl, by omega, h2, ?_⟩
    rw [nvS_up]
    by_cases hk : vaK k
    · rw [if_pos hk]
      have := hm.resolve_left (fun z => z hk)
      omega
    · rw [if_neg hk]
      omega
  · unfold f_X4_add b_X4_add_30 at e
    rw [show (rus y (nI len) (nI u) st).1 5 = nI len from rfl, if_pos (show (400 : Int32) ≤ nI len from nI_le (a := 400) (b := len) (by omega) (by omega))] at e
    cases e
    exact ⟨y, len, u, st, rfl, h1, h2, by omega⟩
noncomputable def Pv (o : Option (Int32 × OB × OB)) : Prop := ∀ r T R, o = some (r, T, R) → UV R
theorem Pv.bind {α : Type} {o : Option α} {g : α → Option (Int32 × OB × OB)} (h : ∀ q, o = some q → Pv (g q)) : Pv (Option.bind o g) := by
  cases o with
  | none =>
    intro r T R e
    cases e
  | some q => exact h q rfl
theorem Pv.ite {c : Prop} [Decidable c] {a b : Option (Int32 × OB × OB)} (h1 : c → Pv a) (h2 : ¬ c → Pv b) : Pv (if c then a else b) := by
  by_cases e : c
  · rw [if_pos e]
    exact h1 e
  · rw [if_neg e]
    exact h2 e
theorem Pv.so {r : Int32} {T R : OB} (h : UV R) : Pv (some (r, T, R)) := by
  intro r2 T2 R2 e
  cases e
  exact h
theorem Pv.no : Pv none := by
  intro r T R e
  cases e
section UNI
variable {F : Nat} {tp ru : OB}
theorem pv_fl {k : Int32} (h : UV ru) : Pv (Option.bind (f_X7_fail F k tp) (fun q => (if bo q.1 then (some (q.1, q.2, ru)) else none))) := Pv.bind (fun q _ => Pv.ite (fun _ => Pv.so h) (fun _ => Pv.no))
theorem UV_unit (h : UV ru) (h60 : ru.1 7 < 60) : UVm 1 (uF ru.1 7 (ru.1 7 + 1), ru.2.1, ru.2.2) := by
  obtain ⟨y, len, u, st, rfl, h1, h2, h3⟩ := h
  have h60 : nI u < 60 := h60
  have hu := (l60 (by omega)).mp h60
  refine ⟨y, len, u + 1, st, ?_, h1, by omega, by omega⟩
  rw [show (rus y (nI len) (nI u) st).1 7 = nI u from rfl, nI_1]
  exact rus_u
theorem pv_55 {v2 v3 : Int32} (h : UV ru) : Pv (b_X5_readValue_55 F v2 v3 tp ru) := by
  unfold b_X5_readValue_55 b_X5_readValue_101
  exact Pv.ite (fun c => Pv.bind (fun q _ => Pv.ite (fun _ => Pv.bind (fun q3 e => Pv.so (UV_add (UV_unit h c) (Or.inr (Nat.le_refl _)) e))) (fun _ => Pv.bind (fun q3 e => Pv.so (UV_add (UV_unit h c) (Or.inr (Nat.le_refl _)) e))))) (fun _ => pv_fl h)
theorem pv_value (h : UV ru) : Pv (f_X5_readValue F tp ru) := by
  have h37 : ∀ v2 v3, Pv (b_X5_readValue_37 F v2 v3 tp ru) := fun v2 v3 => by
    unfold b_X5_readValue_37
    exact Pv.ite (fun _ => Pv.ite (fun _ => pv_fl h) (fun _ => pv_55 h)) (fun _ => pv_55 h)
  unfold f_X5_readValue b_X5_readValue_31
  exact Pv.bind (fun q _ => Pv.bind (fun q2 _ => Pv.ite (fun _ => h37 _ _) (fun _ => Pv.ite (fun _ => pv_fl h) (fun _ => Pv.ite (fun _ => h37 _ _) (fun _ => pv_fl h)))))
theorem oneOf {a b c r : Int32} {T : OB} (e : f_X5_takeOneOf F a b c tp = some (r, T)) : r = a ∨ r = b ∨ r = c ∨ r = -1 := by
  unfold f_X5_takeOneOf b_X5_takeOneOf_26 at e
  cases h1 : f_X7_kind F tp with
  | none =>
    rw [h1] at e
    cases e
  | some k =>
    rw [h1, bd_some] at e
    have tk : ∀ {r : Int32} {T : OB}, Option.bind (f_X7_skip F tp) (fun q1 => some (k, q1)) = some (r, T) → r = k := fun {r T} z => by
      cases h2 : f_X7_skip F tp with
      | none =>
        rw [h2] at z
        cases z
      | some q =>
        rw [h2, bd_some] at z
        cases z
        rfl
    by_cases c1 : k = a
    · rw [if_pos c1] at e
      exact Or.inl ((tk e).trans c1)
    · rw [if_neg c1] at e
      by_cases c2 : k = b
      · rw [if_pos c2] at e
        exact Or.inr (Or.inl ((tk e).trans c2))
      · rw [if_neg c2] at e
        by_cases c3 : k = c
        · rw [if_pos c3] at e
          exact Or.inr (Or.inr (Or.inl ((tk e).trans c3)))
        · rw [if_neg c3] at e
          cases e
          exact Or.inr (Or.inr (Or.inr rfl))
theorem op_m {r : Int32} {T : OB} (e : f_X5_takeOneOf F 42 47 37 tp = some (r, T)) : ¬ vaK r := by
  rcases oneOf e with z | z | z | z <;> rw [z] <;> decide
theorem op_a {r : Int32} {T : OB} (e : f_X5_takeOneOf F 43 45 45 tp = some (r, T)) : ¬ vaK r := by
  rcases oneOf e with z | z | z | z <;> rw [z] <;> decide
theorem pv_sumL : ∀ (g : Nat) (v2 v3 v4 : Int32) (tp ru : OB), UV ru → ¬ vaK v2 → ¬ vaK v3 → Pv (lp (b_X5_readSum_7 F) g (v2, v3, v4, tp, ru))
  | 0, _, _, _, _, _, _, _, _ => Pv.no
  | g + 1, v2, v3, v4, tp, ru, h, h2, h3 => by
    have ih := pv_sumL g
    have h61 : ∀ {v3 v4 : Int32} {tp ru : OB}, UV ru → ¬ vaK v3 → Pv (b_X5_readSum_61 F (lp (b_X5_readSum_7 F) g) v3 v4 tp ru) := fun {v3 v4 tp ru} h h3 => by
      unfold b_X5_readSum_61 b_X5_readSum_79
      exact Pv.bind (fun q e => Pv.ite (fun _ => Pv.so h) (fun _ => ih _ _ _ _ _ h (op_a (r := q.1) (T := q.2) e) h3))
    have h35 : ∀ {v2 v4 : Int32} {tp ru : OB}, UV ru → ¬ vaK v2 → Pv (b_X5_readSum_35 F (lp (b_X5_readSum_7 F) g) v2 v4 tp ru) := fun {v2 v4 tp ru} h h2 => by
      unfold b_X5_readSum_35 b_X5_readSum_79
      exact Pv.bind (fun q e => Pv.ite (fun _ => Pv.ite (fun _ => h61 h (op_m (r := q.1) (T := q.2) e)) (fun _ => Pv.bind (fun q6 e6 => h61 (UV_add h (Or.inl h2) e6) (op_m (r := q.1) (T := q.2) e)))) (fun _ => ih _ _ _ _ _ h h2 (op_m (r := q.1) (T := q.2) e)))
    rw [lp_S, b_X5_readSum_7]
    exact Pv.ite (fun _ => Pv.so h) (fun _ => Pv.bind (fun q e => by
      have hq := pv_value h q.1 q.2.1 q.2.2 e
      exact Pv.ite (fun _ => Pv.so hq) (fun _ => Pv.ite (fun _ => h35 hq h2) (fun _ => Pv.bind (fun q11 e11 => h35 (UV_add hq (Or.inl h3) e11) h2)))))
theorem pv_sum (h : UV ru) : Pv (f_X5_readSum F tp ru) := pv_sumL F _ _ _ _ _ h (by decide) (by decide)
theorem UV_unit0 (h : UV ru) (h60 : ru.1 7 < 60) : UV (uF ru.1 7 (ru.1 7 + 1), ru.2.1, ru.2.2) := by
  obtain ⟨y, len, u, st, e, h1, h2, h3⟩ := UV_unit h h60
  exact ⟨y, len, u, st, e, h1, h2, by omega⟩
theorem pv_53 {v2 : Int32} {tp ru : OB} (h : UV ru) (hv : ¬ vaK v2) : Pv (b_X5_readComparison_53 F v2 tp ru) := by
  unfold b_X5_readComparison_53
  exact Pv.ite (fun c => Pv.bind (fun q2 _ => Pv.bind (fun q3 e3 => by
    have hq := pv_sum (UV_unit0 h c) q3.1 q3.2.1 q3.2.2 e3
    exact Pv.ite (fun _ => Pv.so hq) (fun _ => Pv.bind (fun q5 e5 => Pv.so (UV_add hq (Or.inl hv) e5)))))) (fun _ => pv_fl h)
theorem pv_cmp (h : UV ru) : Pv (f_X5_readComparison F tp ru) := by
  unfold f_X5_readComparison
  exact Pv.bind (fun q e => by
    have hq := pv_sum h q.1 q.2.1 q.2.2 e
    exact Pv.ite (fun _ => Pv.so hq) (fun _ => Pv.bind (fun q10 _ => Pv.ite (fun c => pv_53 hq (by rw [c]; decide)) (fun _ => Pv.ite (fun c => pv_53 hq (by rw [c]; decide)) (fun _ => Pv.ite (fun c => pv_53 hq (by rw [c]; decide)) (fun _ => Pv.ite (fun c => pv_53 hq (by rw [c]; decide)) (fun _ => Pv.ite (fun c => pv_53 hq (by rw [c]; decide)) (fun _ => pv_fl hq))))))))
abbrev PvF (g : Nat → Int32 → OB → OB → Option (Int32 × OB × OB)) : Prop := ∀ (F : Nat) (x : Int32) (tp ru : OB), UV ru → Pv (g F x tp ru)
theorem pv_testL {gF : Nat → Int32 → OB → OB → Option (Int32 × OB × OB)} (hg : PvF gF) : ∀ (g : Nat) (v2 v3 v4 v5 : Int32) (tp ru : OB), UV ru → Pv (lp (b_X5_readTest_o_8 F gF) g (v2, v3, v4, v5, tp, ru))
  | 0, _, _, _, _, _, _, _ => Pv.no
  | g + 1, v2, v3, v4, v5, tp, ru, h => by
    have ih := pv_testL hg g
    have h64 : ∀ {v2 v4 v5 : Int32} {tp ru : OB}, UV ru → Pv (b_X5_readTest_o_64 F gF (lp (b_X5_readTest_o_8 F gF) g) v2 v4 v5 tp ru) := fun {v2 v4 v5 tp ru} h => by
      unfold b_X5_readTest_o_64 b_X5_readTest_o_78
      exact Pv.bind (fun q _ => Pv.ite (fun _ => Pv.so h) (fun _ => ih _ _ _ _ _ _ h))
    have h39 : ∀ {v2 v3 v5 : Int32} {tp ru : OB}, UV ru → Pv (b_X5_readTest_o_39 F gF (lp (b_X5_readTest_o_8 F gF) g) v2 v3 v5 tp ru) := fun {v2 v3 v5 tp ru} h => by
      unfold b_X5_readTest_o_39 b_X5_readTest_o_78
      exact Pv.bind (fun q _ => Pv.ite (fun _ => Pv.ite (fun _ => h64 h) (fun _ => Pv.bind (fun q6 e6 => h64 (UV_add h (Or.inl (by decide)) e6)))) (fun _ => ih _ _ _ _ _ _ h))
    rw [lp_S, b_X5_readTest_o_8]
    exact Pv.ite (fun _ => Pv.so h) (fun _ => Pv.bind (fun q e => by
      have hq := hg F _ _ _ h q.1 q.2.1 q.2.2 e
      exact Pv.ite (fun _ => Pv.so hq) (fun _ => Pv.ite (fun _ => h39 hq) (fun _ => Pv.bind (fun q11 e11 => h39 (UV_add hq (Or.inl (by decide)) e11))))))
theorem pv_test_o {gF : Nat → Int32 → OB → OB → Option (Int32 × OB × OB)} (hg : PvF gF) : PvF (f_X5_readTest_o_ gF) := fun F x tp ru h => pv_testL hg F x 0 0 0 tp ru h
theorem pv_fact_o {gT gF : Nat → Int32 → OB → OB → Option (Int32 × OB × OB)} (hT : PvF gT) (hG : PvF gF) : PvF (fun F x tp ru => f_X5_readFact_o F gT gF x tp ru) := fun F x tp ru h => by
  have h78 : ∀ {tp ru : OB}, UV ru → Pv (b_X5_readFact_o_78 F gT gF tp ru) := fun h => by
    unfold b_X5_readFact_o_78 b_X5_readFact_o_79
    exact Pv.ite (fun _ => Pv.so h) (fun _ => Pv.no)
  have h74 : ∀ {tp ru : OB}, UV ru → Pv (b_X5_readFact_o_74 F gT gF tp ru) := fun h => by
    unfold b_X5_readFact_o_74 b_X5_readFact_o_79
    exact Pv.ite (fun _ => Pv.so h) (fun _ => Pv.no)
  have h24 : ∀ v2 v3, Pv (b_X5_readFact_o_24 F gT gF v2 v3 tp ru) := fun v2 v3 => by
    unfold b_X5_readFact_o_24
    exact Pv.ite (fun _ => Pv.bind (fun q3 _ => Pv.ite (fun _ => Pv.bind (fun q8 e8 => by
      have hq := hT F _ _ _ h q8.1 q8.2.1 q8.2.2 e8
      exact Pv.ite (fun _ => h78 hq) (fun _ => Pv.bind (fun q10 _ => Pv.ite (fun _ => Pv.bind (fun q12 _ => Pv.ite (fun _ => h78 hq) (fun _ => h74 hq))) (fun _ => h74 hq))))) (fun _ => Pv.bind (fun q5 e5 => by
      have hq := hG F _ _ _ h q5.1 q5.2.1 q5.2.2 e5
      exact Pv.ite (fun _ => Pv.so hq) (fun _ => Pv.bind (fun q7 e7 => Pv.so (UV_add hq (Or.inl (by decide)) e7))))))) (fun _ => pv_fl h)
  show Pv (f_X5_readFact_o F gT gF x tp ru)
  unfold f_X5_readFact_o
  exact Pv.bind (fun q _ => Pv.ite (fun _ => h24 _ _) (fun _ => Pv.ite (fun _ => h24 _ _) (fun _ => Pv.bind (fun q19 e => by
    have hq := pv_cmp h q19.1 q19.2.1 q19.2.2 e
    exact Pv.ite (fun _ => Pv.so hq) (fun _ => Pv.no)))))
end UNI
theorem rus_self (R : OB) : R = rus R (R.1 5) (R.1 7) (R.2.1 0) := by
  unfold rus
  rw [uF_id (f := R.2.1) (i := 0), uF_id (f := R.1) (i := 5), uF_id (f := R.1) (i := 7)]
theorem UV_mk {R : OB} {len u : Nat} (h5 : R.1 5 = nI len) (h7 : R.1 7 = nI u) (h1 : len ≤ 400) (h2 : u ≤ 60) (h3 : nvS (R.2.1 0) len ≤ u) : UV R := ⟨R, len, u, R.2.1 0, by rw [← h5, ← h7]; exact rus_self R, h1, h2, h3⟩
theorem UV_of {R : OB} (h : UV R) : ∃ len u : Nat, R.1 5 = nI len ∧ R.1 7 = nI u ∧ len ≤ 400 ∧ u ≤ 60 ∧ nvS (R.2.1 0) len ≤ u := by
  obtain ⟨y, len, u, st, rfl, h1, h2, h3⟩ := h
  exact ⟨len, u, rfl, rfl, h1, h2, h3⟩
theorem UV_close {F : Nat} {a b : Int32} {ru R : OB} (h : UV ru) (e : f_X4_closeClause F a b ru = some R) : UV R := by
  obtain ⟨len, u, e5, e7, h1, h2, h3⟩ := UV_of h
  unfold f_X4_closeClause b_X4_closeClause_52 at e
  by_cases c1 : 12 ≤ ru.1 6
  · rw [if_pos c1] at e
    cases e
    exact h
  · rw [if_neg c1] at e
    by_cases c2 : ib (ru.1 6) 12
    · rw [if_pos c2] at e
      cases e
      exact UV_mk (len := len) (u := u) e5 e7 h1 h2 h3
    · rw [if_neg c2] at e
      cases e
theorem pv_RF : ∀ n, PvF (f_RF n)
  | 0 => fun _ _ _ _ _ => Pv.no
  | n + 1 => pv_fact_o (pv_test_o (pv_RF n)) (pv_RF n)
theorem pv_test {F : Nat} {x : Int32} {tp ru : OB} (h : UV ru) : Pv (f_X5_readTest F x tp ru) := pv_test_o (pv_RF 11) F x tp ru h
theorem pv_readL {F : Nat} : ∀ (g : Nat) (v : Int32) (tp ru : OB), UV ru → Pv (lp (b_X5_read_10 F) g (v, tp, ru))
  | 0, _, _, _, _ => Pv.no
  | g + 1, v, tp, ru, h => by
    have ih := pv_readL (F := F) g
    have h66 : ∀ {v2 v3 v4 : Int32} {tp ru : OB}, UV ru → Pv (b_X5_read_66 F (lp (b_X5_read_10 F) g) v2 v3 v4 tp ru) := fun {v2 v3 v4 tp ru} h => by
      unfold b_X5_read_66
      exact Pv.bind (fun q1 e1 => by
        have hq := UV_close h e1
        exact Pv.bind (fun q2 _ => Pv.ite (fun _ => Pv.so hq) (fun _ => Pv.bind (fun q4 _ => Pv.ite (fun _ => pv_fl hq) (fun _ => ih _ _ _ hq)))))
    have h37 : ∀ {tp ru : OB}, UV ru → Pv (b_X5_read_37 F tp ru) := fun h => Pv.so h
    rw [lp_S, b_X5_read_10]
    exact Pv.ite (fun _ => Pv.so h) (fun _ => Pv.bind (fun q9 _ => Pv.ite (fun _ => h37 h) (fun _ => Pv.bind (fun q11 e11 => by
      have hq := pv_sum h q11.1 q11.2.1 q11.2.2 e11
      exact Pv.ite (fun _ => h37 hq) (fun _ => Pv.bind (fun q13 _ => Pv.ite (fun _ => h66 hq) (fun _ => Pv.bind (fun q15 e15 => by
        have hq2 := pv_test hq q15.1 q15.2.1 q15.2.2 e15
        exact Pv.ite (fun _ => Pv.so hq2) (fun _ => h66 hq2)))))))))
theorem pv_read {F : Nat} {tp ru T R : OB} {r : Int32} (e : f_X5_read F tp ru = some (r, T, R)) : UV R := by
  have : Pv (f_X5_read F tp ru) := by
    unfold f_X5_read f_X4_clear
    exact Pv.bind (fun q _ => Pv.bind (fun q2 e2 => pv_readL F _ _ _ (by
      cases e2
      exact UV_mk (len := 0) (u := 0) rfl rfl (by decide) (by decide) (Nat.le_refl _))))
  exact this r T R e
