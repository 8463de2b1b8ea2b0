/-! acts that are kept: by the reference -/
theorem lp_fr {α β : Type} {body : (α → Option β) → α → Option β} {st : Nat → α} {k0 q : Nat} {res : Option β} (hs : ∀ kk k, k0 ≤ k → k < q → body kk (st k) = kk (st (k + 1))) (he : ∀ kk, body kk (st q) = res) : ∀ (r g k : Nat), k0 ≤ k → k + r = q → r < g → lp body g (st k) = res
  | 0, g, k, h0, h1, h2 => by
    obtain ⟨g, rfl⟩ : ∃ g', g = g' + 1 := ⟨g - 1, by omega⟩
    rw [lp_S, show k = q by omega, he]
  | r + 1, g, k, h0, h1, h2 => by
    obtain ⟨g, rfl⟩ : ∃ g', g = g' + 1 := ⟨g - 1, by omega⟩
    rw [lp_S, hs _ k h0 (by omega)]
    exact lp_fr hs he r g (k + 1) (by omega) (by omega) (by omega)
theorem uF_e {α : Type} {f : Nat → α} {i : Nat} {x : α} (h : x = f i) : uF f i x = f := by
  subst h
  exact uF_id
theorem upd_id {f : Nat → Int32} {k : Nat} {x : Int32} (h : f k = x) : upd f k x = f := funext (fun j => by
  by_cases e : j = k
  · rw [e, pk_us, h]
  · rw [pk_un e])
/-- the reference's acts: the j-th newest -/
noncomputable def PKd (h : HLd) (rc : Nat → Rc) (n : Nat) (mo : OB) : Prop := mo.1 41 = nI n ∧ n ≤ 20 ∧ ∀ j, j < n → mo.2.1 39 (13 * (n - 1 - j)) = nI (rc j).2.2.1 ∧ (∀ i, i < h.1 1 → mo.2.1 39 (13 * (n - 1 - j) + 1 + i) = nI ((rc j).2.2.2 i)) ∧ ∀ i, i < h.1 3 → mo.2.1 39 (13 * (n - 1 - j) + 5 + i) = nI (stt (rc j).1 (rc j).2.1 i)
section MVS
variable {F : Nat} {mi pr fr : Nat → Int32} {p fn : Nat}
theorem mv0 {v : Int32} (h42 : mi 42 = nI p) (h43 : mi 43 = 0) (hp : p < 260) : f_X9_moves F v mi pr = some (v, uF mi 42 (nI (p + 1)), upd pr p v) := by
  unfold f_X9_moves b_X9_moves_20
  rw [if_pos h43, h42, if_pos (ib_n hp (by decide)), nI_clamp (by omega), nI_1]
theorem mv1 {v : Int32} (h42 : mi 42 = nI p) (h43 : mi 43 = 1) (hp : p < 260) : f_X9_moves F v mi pr = some (pr p, uF mi 42 (nI (p + 1)), pr) := by
  unfold f_X9_moves b_X9_moves_20
  rw [if_neg (by rw [h43]; decide), h42, if_pos (ib_n hp (by decide)), if_pos (ib_n hp (by decide)), nI_clamp (by omega), nI_1, upd_id rfl]
theorem mvr0 (h42 : mi 42 = nI p) (h43 : mi 43 = 0) (hp : p + fn ≤ 260) (hF : 600 ≤ F) : f_X9_movesRow F fn mi pr fr = some (uF mi 42 (nI (p + fn)), fun j => if p ≤ j ∧ j < p + fn then fr (j - p) else pr j, fr) := by
  have e : lp (b_X9_movesRow_2 F fn) F (nI 0, uF mi 42 (nI (p + 0)), (fun j => if p ≤ j ∧ j < p + 0 then fr (j - p) else pr j), fr) = some (uF mi 42 (nI (p + fn)), fun j => if p ≤ j ∧ j < p + fn then fr (j - p) else pr j, fr) := by
    refine lp_for (st := fun i => (nI i, uF mi 42 (nI (p + i)), (fun j => if p ≤ j ∧ j < p + i then fr (j - p) else pr j), fr)) (q := fn) (fun kk i hi => ?_) (fun kk => ?_) fn F 0 (by omega) (by omega)
    · unfold b_X9_movesRow_2
      dsimp only
      rw [if_neg (show ¬ Int32.ofNat fn ≤ nI i from nI_ge (a := i) (b := fn) hi (by omega)), if_pos (ib_n hi (by omega)), nI_clamp (by omega), mv0 (p := p + i) uF_s h43 (by omega), bd_some]
      dsimp only
      rw [uF_uF, upd_id rfl, nI_1]
      rw [show upd (fun j => if p ≤ j ∧ j < p + i then fr (j - p) else pr j) (p + i) (fr i) = (fun j => if p ≤ j ∧ j < p + (i + 1) then fr (j - p) else pr j) from funext (fun j => by
        by_cases z : j = p + i
        · rw [z, pk_us, if_pos ⟨by omega, by omega⟩, show p + i - p = i by omega]
        · rw [pk_un z]
          by_cases w : p ≤ j ∧ j < p + i
          · rw [if_pos w, if_pos ⟨w.1, by omega⟩]
          · rw [if_neg w, if_neg (fun u => w ⟨u.1, by omega⟩)])]
      rfl
    · unfold b_X9_movesRow_2
      dsimp only
      rw [if_pos (show Int32.ofNat fn ≤ nI fn from nI_le (Nat.le_refl _) (by omega))]
  rw [← e]
  unfold f_X9_movesRow
  rw [show (fun j => if p ≤ j ∧ j < p + 0 then fr (j - p) else pr j) = pr from funext (fun j => if_neg (fun z => by omega)), Nat.add_zero, ← h42, uF_id]
  rfl
theorem mvr1 (h42 : mi 42 = nI p) (h43 : mi 43 = 1) (hp : p + fn ≤ 260) (hF : 600 ≤ F) : f_X9_movesRow F fn mi pr fr = some (uF mi 42 (nI (p + fn)), pr, fun j => if j < fn then pr (p + j) else fr j) := by
  have e : lp (b_X9_movesRow_2 F fn) F (nI 0, uF mi 42 (nI (p + 0)), pr, (fun j => if j < 0 then pr (p + j) else fr j)) = some (uF mi 42 (nI (p + fn)), pr, fun j => if j < fn then pr (p + j) else fr j) := by
    refine lp_for (st := fun i => (nI i, uF mi 42 (nI (p + i)), pr, (fun j => if j < i then pr (p + j) else fr j))) (q := fn) (fun kk i hi => ?_) (fun kk => ?_) fn F 0 (by omega) (by omega)
    · unfold b_X9_movesRow_2
      dsimp only
      rw [if_neg (show ¬ Int32.ofNat fn ≤ nI i from nI_ge (a := i) (b := fn) hi (by omega)), if_pos (ib_n hi (by omega)), nI_clamp (by omega), mv1 (p := p + i) uF_s h43 (by omega), bd_some]
      dsimp only
      rw [uF_uF, nI_1]
      rw [show upd (fun j => if j < i then pr (p + j) else fr j) i (pr (p + i)) = (fun j => if j < i + 1 then pr (p + j) else fr j) from funext (fun j => by
        by_cases z : j = i
        · rw [z, pk_us, if_pos (by omega)]
        · rw [pk_un z]
          by_cases w : j < i
          · rw [if_pos w, if_pos (by omega)]
          · rw [if_neg w, if_neg (by omega)])]
      rfl
    · unfold b_X9_movesRow_2
      dsimp only
      rw [if_pos (show Int32.ofNat fn ≤ nI fn from nI_le (Nat.le_refl _) (by omega))]
  rw [← e]
  unfold f_X9_movesRow
  rw [show (fun j => if j < 0 then pr (p + j) else fr j) = fr from funext (fun j => if_neg (Nat.not_lt_zero _)), Nat.add_zero, ← h42, uF_id]
  rfl
end MVS
/-- what of the reference stays when an act is kept -/
noncomputable def KAd (mo mo2 : OB) : Prop := (∀ j, j ≠ 41 → j ≠ 42 → j ≠ 43 → mo2.1 j = mo.1 j) ∧ (∀ j, j ≠ 39 → mo2.2.1 j = mo.2.1 j) ∧ mo2.2.2 = mo.2.2
section PKS
variable {F : Nat} {h : HLd} {cn : Nat → Nat} {S D mi : Nat} {mo : OB} {rc : Nat → Rc} {n : Nat}
theorem MDd.ka {mo2 : OB} (M : MDd h cn S D mi mo) (k : ∀ j, j ≠ 39 → mo2.2.1 j = mo.2.1 j) : MDd h cn S D mi mo2 := by
  unfold MDd MKd
  rw [k 1 (by decide), k 11 (by decide), k 6 (by decide), k 4 (by decide), k 7 (by decide), k 5 (by decide), k 2 (by decide), k 3 (by decide)]
  exact M
theorem keep50 (H : HOK h) (M : MDd h cn S D mi mo) (hF : 600 ≤ F) (P : PKd h rc n mo) (hn : n < 20) : ∃ mo2, b_X9_keepsAct_50 F mo = some mo2 ∧ PKd h (rcK (S, D, mi, cn) rc) (n + 1) mo2 ∧ KAd mo mo2 := by
  obtain ⟨h41, hn20, hp⟩ := P
  have h4 := H.2.1
  have hq := H.q8
  have e13 : (13 : Int32) * nI n = nI (13 * n) := by
    rw [show (13 : Int32) = nI 13 from rfl, pk_mul]
  have r1 : uF mo.2.1 1 (upd (mo.2.1 1) 4 (mo.2.1 1 4)) = mo.2.1 := by
    rw [upd_id rfl, uF_id]
  -- the rows
  have m1 := mv0 (F := F) (mi := uF (uF mo.1 42 (nI (13 * n))) 43 0) (pr := mo.2.1 39) (p := 13 * n) (v := mo.2.1 1 4) rfl rfl (by omega)
  have m2 := mvr0 (F := F) (mi := uF (uF (uF mo.1 42 (nI (13 * n))) 43 0) 42 (nI (13 * n + 1))) (pr := upd (mo.2.1 39) (13 * n) (mo.2.1 1 4)) (fr := mo.2.1 2) (p := 13 * n + 1) (fn := 4) rfl rfl (by omega) hF
  have m3 := mvr0 (F := F) (mi := uF (uF (uF (uF mo.1 42 (nI (13 * n))) 43 0) 42 (nI (13 * n + 1))) 42 (nI (13 * n + 1 + 4))) (pr := fun j => if 13 * n + 1 ≤ j ∧ j < 13 * n + 1 + 4 then mo.2.1 2 (j - (13 * n + 1)) else upd (mo.2.1 39) (13 * n) (mo.2.1 1 4) j) (fr := mo.2.1 3) (p := 13 * n + 5) (fn := 8) rfl rfl (by omega) hF
  have e : f_X9_movesAll F (nI n) 0 mo = some (uF (uF (uF (uF (uF mo.1 42 (nI (13 * n))) 43 0) 42 (nI (13 * n + 1))) 42 (nI (13 * n + 1 + 4))) 42 (nI (13 * n + 5 + 8)), uF mo.2.1 39 (fun j => if 13 * n + 5 ≤ j ∧ j < 13 * n + 5 + 8 then mo.2.1 3 (j - (13 * n + 5)) else if 13 * n + 1 ≤ j ∧ j < 13 * n + 1 + 4 then mo.2.1 2 (j - (13 * n + 1)) else upd (mo.2.1 39) (13 * n) (mo.2.1 1 4) j), mo.2.2) := by
    unfold f_X9_movesAll
    rw [if_pos (Or.inl rfl), e13, show Int32.toNatClampNeg 4 = 4 from by decide, m1, bd_some]
    dsimp only
    rw [m2, bd_some]
    dsimp only
    rw [m3, bd_some]
    dsimp only
    rw [r1, uF_id (f := mo.2.1) (i := 2), uF_id (f := mo.2.1) (i := 3)]
  refine ⟨(uF (uF (uF (uF (uF (uF mo.1 42 (nI (13 * n))) 43 0) 42 (nI (13 * n + 1))) 42 (nI (13 * n + 1 + 4))) 42 (nI (13 * n + 5 + 8))) 41 ((uF (uF (uF (uF (uF mo.1 42 (nI (13 * n))) 43 0) 42 (nI (13 * n + 1))) 42 (nI (13 * n + 1 + 4))) 42 (nI (13 * n + 5 + 8))) 41 + 1), uF mo.2.1 39 (fun j => if 13 * n + 5 ≤ j ∧ j < 13 * n + 5 + 8 then mo.2.1 3 (j - (13 * n + 5)) else if 13 * n + 1 ≤ j ∧ j < 13 * n + 1 + 4 then mo.2.1 2 (j - (13 * n + 1)) else upd (mo.2.1 39) (13 * n) (mo.2.1 1 4) j), mo.2.2), by unfold b_X9_keepsAct_50; rw [h41, e, bd_some], ⟨?_, by omega, fun j hj => ?_⟩, ⟨fun j a b c => ?_, fun j a => ?_, rfl⟩⟩
  · show uF (uF (uF (uF (uF (uF mo.1 42 (nI (13 * n))) 43 0) 42 (nI (13 * n + 1))) 42 (nI (13 * n + 1 + 4))) 42 (nI (13 * n + 5 + 8))) 41 ((uF (uF (uF (uF (uF mo.1 42 (nI (13 * n))) 43 0) 42 (nI (13 * n + 1))) 42 (nI (13 * n + 1 + 4))) 42 (nI (13 * n + 5 + 8))) 41 + 1) 41 = _
    rw [uF_s, show (uF (uF (uF (uF (uF mo.1 42 (nI (13 * n))) 43 0) 42 (nI (13 * n + 1))) 42 (nI (13 * n + 1 + 4))) 42 (nI (13 * n + 5 + 8))) 41 = mo.1 41 from rfl, h41, nI_1]
  · have row : ∀ x, (uF mo.2.1 39 (fun j => if 13 * n + 5 ≤ j ∧ j < 13 * n + 5 + 8 then mo.2.1 3 (j - (13 * n + 5)) else if 13 * n + 1 ≤ j ∧ j < 13 * n + 1 + 4 then mo.2.1 2 (j - (13 * n + 1)) else upd (mo.2.1 39) (13 * n) (mo.2.1 1 4) j)) 39 x = (if 13 * n + 5 ≤ x ∧ x < 13 * n + 5 + 8 then mo.2.1 3 (x - (13 * n + 5)) else if 13 * n + 1 ≤ x ∧ x < 13 * n + 1 + 4 then mo.2.1 2 (x - (13 * n + 1)) else upd (mo.2.1 39) (13 * n) (mo.2.1 1 4) x) := fun x => by rw [uF_s]
    cases j with
    | zero =>
      rw [show n + 1 - 1 - 0 = n by omega]
      refine ⟨?_, fun i hi => ?_, fun i hi => ?_⟩
      · refine (row _).trans ?_
        rw [if_neg (fun z => by omega), if_neg (fun z => by omega), pk_us]
        exact M.2.1
      · refine (row _).trans ?_
        rw [if_neg (fun z => by omega), if_pos ⟨by omega, by omega⟩, show 13 * n + 1 + i - (13 * n + 1) = i by omega]
        exact M.2.2.1 i hi
      · refine (row _).trans ?_
        rw [if_pos ⟨by omega, by omega⟩, show 13 * n + 5 + i - (13 * n + 5) = i by omega]
        exact M.2.2.2 i hi
    | succ j =>
      obtain ⟨b1, b2, b3⟩ := hp j (by omega)
      rw [show n + 1 - 1 - (j + 1) = n - 1 - j by omega]
      have hb : 13 * (n - 1 - j) + 13 ≤ 13 * n := by omega
      refine ⟨?_, fun i hi => ?_, fun i hi => ?_⟩
      · refine (row _).trans ?_
        rw [if_neg (fun z => by omega), if_neg (fun z => by omega), pk_un (by omega)]
        exact b1
      · refine (row _).trans ?_
        rw [if_neg (fun z => by omega), if_neg (fun z => by omega), pk_un (by omega)]
        exact b2 i hi
      · refine (row _).trans ?_
        rw [if_neg (fun z => by omega), if_neg (fun z => by omega), pk_un (by omega)]
        exact b3 i hi
  · show uF (uF (uF (uF (uF (uF mo.1 42 (nI (13 * n))) 43 0) 42 (nI (13 * n + 1))) 42 (nI (13 * n + 1 + 4))) 42 (nI (13 * n + 5 + 8))) 41 ((uF (uF (uF (uF (uF mo.1 42 (nI (13 * n))) 43 0) 42 (nI (13 * n + 1))) 42 (nI (13 * n + 1 + 4))) 42 (nI (13 * n + 5 + 8))) 41 + 1) j = mo.1 j
    rw [uF_n a, uF_n b, uF_n b, uF_n b, uF_n c, uF_n b]
  · exact uF_n a
theorem s_keeps9 (H : HOK h) (M : MDd h cn S D mi mo) (hF : 600 ≤ F) (P : PKd h rc n mo) : ∃ mo2, f_X9_keepsAct F mo = some mo2 ∧ PKd h (rcK (S, D, mi, cn) rc) (min (n + 1) 20) mo2 ∧ MDd h cn S D mi mo2 ∧ KAd mo mo2 := by
  have h20 : nI n = 20 ↔ n = 20 := nI_eq (b := 20) (by have := P.2.1; omega) (by decide)
  unfold f_X9_keepsAct
  by_cases e : n = 20
  · subst e
    rw [if_pos (by rw [P.1]; rfl)]
    have z : lp (b_X9_keepsAct_12 F) F (nI 13, (mo.1, uF mo.2.1 39 (fun j => if j + 13 < 13 then mo.2.1 39 (j + 13) else mo.2.1 39 j), mo.2.2)) = b_X9_keepsAct_50 F ((uF mo.1 41 (nI 20 - 1)), uF mo.2.1 39 (fun j => if j + 13 < 260 then mo.2.1 39 (j + 13) else mo.2.1 39 j), mo.2.2) := by
      refine lp_fr (st := fun i => (nI i, (mo.1, uF mo.2.1 39 (fun j => if j + 13 < i then mo.2.1 39 (j + 13) else mo.2.1 39 j), mo.2.2))) (k0 := 13) (q := 260) (fun kk i h0 hi => ?_) (fun kk => ?_) 247 F 13 (by omega) (by omega) (by omega)
      · unfold b_X9_keepsAct_12
        dsimp only
        rw [if_neg (show ¬ (260 : Int32) ≤ nI i from nI_ge (a := i) (b := 260) hi (by decide)), if_pos (ib_n hi (by decide)), show (13 : Int32) = nI 13 from rfl, pk_sub h0, if_pos (ib_n (show i - 13 < 260 by omega) (by decide)), nI_clamp (show i < 2 ^ 31 by omega), nI_clamp (show i - 13 < 2 ^ 31 by omega), nI_1, uF_uF, uF_s, if_neg (show ¬ i + 13 < i by omega)]
        rw [show upd (fun j => if j + 13 < i then mo.2.1 39 (j + 13) else mo.2.1 39 j) (i - 13) (mo.2.1 39 i) = (fun j => if j + 13 < i + 1 then mo.2.1 39 (j + 13) else mo.2.1 39 j) from funext (fun j => by
          by_cases w : j = i - 13
          · rw [w, pk_us, if_pos (by omega), show i - 13 + 13 = i by omega]
          · rw [pk_un w]
            by_cases u : j + 13 < i
            · rw [if_pos u, if_pos (by omega)]
            · rw [if_neg u, if_neg (by omega)])]
      · unfold b_X9_keepsAct_12
        dsimp only
        rw [if_pos (show (260 : Int32) ≤ nI 260 by decide), P.1]
    rw [show (fun j => if j + 13 < 13 then mo.2.1 39 (j + 13) else mo.2.1 39 j) = mo.2.1 39 from funext (fun j => if_neg (by omega)), uF_id] at z
    have z : lp (b_X9_keepsAct_12 F) F (13, mo) = _ := z
    rw [z]
    have M2 : MDd h cn S D mi ((uF mo.1 41 (nI 20 - 1)), uF mo.2.1 39 (fun j => if j + 13 < 260 then mo.2.1 39 (j + 13) else mo.2.1 39 j), mo.2.2) := M
    have P2 : PKd h rc 19 ((uF mo.1 41 (nI 20 - 1)), uF mo.2.1 39 (fun j => if j + 13 < 260 then mo.2.1 39 (j + 13) else mo.2.1 39 j), mo.2.2) := by
      refine ⟨nI_pred 19, by decide, fun j hj => ?_⟩
      obtain ⟨b1, b2, b3⟩ := P.2.2 j (by omega)
      have h4 := H.2.1
      have hq := H.q8
      have row : ∀ x, x + 13 < 260 → (uF mo.2.1 39 (fun j => if j + 13 < 260 then mo.2.1 39 (j + 13) else mo.2.1 39 j)) 39 x = mo.2.1 39 (x + 13) := fun x hx => by
        rw [uF_s, if_pos hx]
      refine ⟨?_, fun i hi => ?_, fun i hi => ?_⟩
      · refine (row _ (by omega)).trans ?_
        rw [show 13 * (19 - 1 - j) + 13 = 13 * (20 - 1 - j) by omega]
        exact b1
      · refine (row _ (by omega)).trans ?_
        rw [show 13 * (19 - 1 - j) + 1 + i + 13 = 13 * (20 - 1 - j) + 1 + i by omega]
        exact b2 i hi
      · refine (row _ (by omega)).trans ?_
        rw [show 13 * (19 - 1 - j) + 5 + i + 13 = 13 * (20 - 1 - j) + 5 + i by omega]
        exact b3 i hi
    obtain ⟨mo2, k1, k2, k3⟩ := keep50 (F := F) H M2 hF P2 (by decide)
    refine ⟨mo2, k1, k2, M2.ka k3.2.1, fun j a b c => ?_, fun j a => ?_, k3.2.2⟩
    · rw [k3.1 j a b c]
      exact uF_n a
    · rw [k3.2.1 j a]
      exact uF_n a
  · have hn : n < 20 := by
      have := P.2.1
      omega
    rw [if_neg (by rw [P.1]; exact fun z => e (h20.mp z))]
    obtain ⟨mo2, k1, k2, k3⟩ := keep50 (F := F) H M hF P hn
    rw [show min (n + 1) 20 = n + 1 by omega]
    exact ⟨mo2, k1, k2, M.ka k3.2.1, k3⟩
/-- what of the reference stays when an act is taken back -/
noncomputable def KUd (mo mo2 : OB) : Prop := (∀ j, j ≠ 41 → j ≠ 42 → j ≠ 43 → mo2.1 j = mo.1 j) ∧ (∀ j, j ≠ 1 → j ≠ 2 → j ≠ 3 → mo2.2.1 j = mo.2.1 j) ∧ (∀ j, j ≠ 4 → mo2.2.1 1 j = mo.2.1 1 j) ∧ mo2.2.2 = mo.2.2
theorem s_undo9 (H : HOK h) (M : MDd h cn S D mi mo) (hF : 600 ≤ F) (P : PKd h rc (n + 1) mo) : ∃ mo2, f_X9_undo F mo = some (nI n, mo2) ∧ PKd h (fun j => rc (j + 1)) n mo2 ∧ MDd h (rc 0).2.2.2 (rc 0).1 (rc 0).2.1 (rc 0).2.2.1 mo2 ∧ KUd mo mo2 := by
  obtain ⟨h41, hn20, hp⟩ := P
  have h4 := H.2.1
  have hq := H.q8
  obtain ⟨b1, b2, b3⟩ := hp 0 (by omega)
  rw [show n + 1 - 1 - 0 = n by omega] at b1 b2 b3
  have e13 : (13 : Int32) * nI n = nI (13 * n) := by
    rw [show (13 : Int32) = nI 13 from rfl, pk_mul]
  have m1 := mv1 (F := F) (mi := uF (uF (uF mo.1 41 (nI n)) 42 (nI (13 * n))) 43 1) (pr := mo.2.1 39) (p := 13 * n) (v := mo.2.1 1 4) rfl rfl (by omega)
  have m2 := mvr1 (F := F) (mi := uF (uF (uF (uF mo.1 41 (nI n)) 42 (nI (13 * n))) 43 1) 42 (nI (13 * n + 1))) (pr := mo.2.1 39) (fr := mo.2.1 2) (p := 13 * n + 1) (fn := 4) rfl rfl (by omega) hF
  have m3 := mvr1 (F := F) (mi := uF (uF (uF (uF (uF mo.1 41 (nI n)) 42 (nI (13 * n))) 43 1) 42 (nI (13 * n + 1))) 42 (nI (13 * n + 1 + 4))) (pr := mo.2.1 39) (fr := mo.2.1 3) (p := 13 * n + 5) (fn := 8) rfl rfl (by omega) hF
  obtain ⟨⟨⟨a0, a1, a2, a3⟩, M4, M5, M6⟩, M7, M8, M9⟩ := M
  have e : f_X9_movesAll F (nI n) 1 ((uF mo.1 41 (nI n)), mo.2.1, mo.2.2) = some (uF (uF (uF (uF (uF (uF mo.1 41 (nI n)) 42 (nI (13 * n))) 43 1) 42 (nI (13 * n + 1))) 42 (nI (13 * n + 1 + 4))) 42 (nI (13 * n + 5 + 8)), uF (uF (uF mo.2.1 1 (upd (mo.2.1 1) 4 (mo.2.1 39 (13 * n)))) 2 (fun j => if j < 4 then mo.2.1 39 (13 * n + 1 + j) else mo.2.1 2 j)) 3 (fun j => if j < 8 then mo.2.1 39 (13 * n + 5 + j) else mo.2.1 3 j), mo.2.2) := by
    unfold f_X9_movesAll
    rw [if_pos (Or.inr rfl), e13, show Int32.toNatClampNeg 4 = 4 from by decide]
    dsimp only
    rw [m1, bd_some]
    dsimp only
    rw [m2, bd_some]
    dsimp only
    rw [m3, bd_some]
    dsimp only
    refine congrArg some (Prod.ext rfl (Prod.ext ?_ rfl))
    exact uF_e rfl
  have g1 : (uF (uF (uF mo.2.1 1 (upd (mo.2.1 1) 4 (mo.2.1 39 (13 * n)))) 2 (fun j => if j < 4 then mo.2.1 39 (13 * n + 1 + j) else mo.2.1 2 j)) 3 (fun j => if j < 8 then mo.2.1 39 (13 * n + 5 + j) else mo.2.1 3 j) : Nat → Nat → Int32) 1 = upd (mo.2.1 1) 4 (mo.2.1 39 (13 * n)) := rfl
  have u4 : ∀ j, j ≠ 4 → (uF (uF (uF mo.2.1 1 (upd (mo.2.1 1) 4 (mo.2.1 39 (13 * n)))) 2 (fun j => if j < 4 then mo.2.1 39 (13 * n + 1 + j) else mo.2.1 2 j)) 3 (fun j => if j < 8 then mo.2.1 39 (13 * n + 5 + j) else mo.2.1 3 j) : Nat → Nat → Int32) 1 j = mo.2.1 1 j := fun j hj => by
    rw [g1]
    exact pk_un hj
  have u5 : (uF (uF (uF mo.2.1 1 (upd (mo.2.1 1) 4 (mo.2.1 39 (13 * n)))) 2 (fun j => if j < 4 then mo.2.1 39 (13 * n + 1 + j) else mo.2.1 2 j)) 3 (fun j => if j < 8 then mo.2.1 39 (13 * n + 5 + j) else mo.2.1 3 j) : Nat → Nat → Int32) 1 4 = mo.2.1 39 (13 * n) := by
    rw [g1]
    exact pk_us
  refine ⟨(uF (uF (uF (uF (uF (uF mo.1 41 (nI n)) 42 (nI (13 * n))) 43 1) 42 (nI (13 * n + 1))) 42 (nI (13 * n + 1 + 4))) 42 (nI (13 * n + 5 + 8)), uF (uF (uF mo.2.1 1 (upd (mo.2.1 1) 4 (mo.2.1 39 (13 * n)))) 2 (fun j => if j < 4 then mo.2.1 39 (13 * n + 1 + j) else mo.2.1 2 j)) 3 (fun j => if j < 8 then mo.2.1 39 (13 * n + 5 + j) else mo.2.1 3 j), mo.2.2), ?_, ⟨rfl, by omega, fun j hj => ?_⟩, ⟨⟨⟨(u4 0 (by decide)).trans a0, (u4 1 (by decide)).trans a1, (u4 2 (by decide)).trans a2, (u4 3 (by decide)).trans a3⟩, M4, M5, M6⟩, u5.trans b1, fun i hi => (if_pos (by omega)).trans (b2 i hi), fun i hi => (if_pos (by omega)).trans (b3 i hi)⟩, fun j a b c => ?_, fun j a b c => ?_, fun j a => u4 j a, rfl⟩
  · unfold f_X9_undo
    rw [h41, if_neg (nI_ne0 (by omega) (by omega)), nI_pred, e, bd_some]
    rfl
  · obtain ⟨d1, d2, d3⟩ := hp (j + 1) (by omega)
    rw [show n + 1 - 1 - (j + 1) = n - 1 - j by omega] at d1 d2 d3
    exact ⟨d1, d2, d3⟩
  · show (uF (uF (uF (uF (uF (uF mo.1 41 (nI n)) 42 (nI (13 * n))) 43 1) 42 (nI (13 * n + 1))) 42 (nI (13 * n + 1 + 4))) 42 (nI (13 * n + 5 + 8))) j = mo.1 j
    rw [uF_n b, uF_n b, uF_n b, uF_n c, uF_n b, uF_n a]
  · show (uF (uF (uF mo.2.1 1 (upd (mo.2.1 1) 4 (mo.2.1 39 (13 * n)))) 2 (fun j => if j < 4 then mo.2.1 39 (13 * n + 1 + j) else mo.2.1 2 j)) 3 (fun j => if j < 8 then mo.2.1 39 (13 * n + 5 + j) else mo.2.1 3 j)) j = mo.2.1 j
    rw [uF_n c, uF_n b, uF_n a]
end PKS
