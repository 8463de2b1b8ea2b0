/-! whom a rule seats: by both -/
/-- a rule of the class is a rule of the reference, in a slot -/
noncomputable def RLk (s : Nat) (ru mo : OB) : Prop := ∃ c len : Nat, c ≤ 12 ∧ len ≤ 280 ∧ ru.1 5 = nI len ∧ ru.1 6 = nI c ∧ mo.2.1 31 s = nI c ∧ nvS (ru.2.1 0) len ≤ 60 ∧ CE s len (ru.2.1 0) (mo.2.1 29) (mo.2.1 30) ∧ ClT s c len (ru.2.1 0) (ru.2.1 1) (ru.2.1 2) (ru.2.1 3) (mo.2.1 32) (mo.2.1 33) (mo.2.1 34)
/-- what the first clause that holds comes to -/
noncomputable def wnS (R : Nat → Nat → Int32) (s : Nat) (wv : Nat → Nat) : Nat → Nat → Int64
  | 0, _ => 0
  | r + 1, j => if nat_ (R 33 (12 * s + j)) = nat_ (R 34 (12 * s + j)) ∨ evH (R 29) (R 30) (300 * s) wv (nat_ (R 33 (12 * s + j))) (nat_ (R 34 (12 * s + j))) = 1 then evH (R 29) (R 30) (300 * s) wv (nat_ (R 32 (12 * s + j))) (nat_ (R 33 (12 * s + j))) else wnS R s wv r (j + 1)
/-- what a rule says of one -/
noncomputable def wnt (R : Nat → Nat → Int32) (s : Nat) (wv : Nat → Nat) : Int64 := wnS R s wv (nat_ (R 31 s)) 0
section SEA
variable {F : Nat} {rm ru mo : OB} {s k : Nat} {wv : Nat → Nat}
theorem seats_loop {c len : Nat} (hF : 600 ≤ F) (hs : s < 6) (hc : c ≤ 12) (hlen : len ≤ 280) (h5 : ru.1 5 = nI len) (h6 : ru.1 6 = nI c) (h31 : mo.2.1 31 s = nI c) (hnv : nvS (ru.2.1 0) len ≤ 60) (hce : CE s len (ru.2.1 0) (mo.2.1 29) (mo.2.1 30)) (hcl : ClT s c len (ru.2.1 0) (ru.2.1 1) (ru.2.1 2) (ru.2.1 3) (mo.2.1 32) (mo.2.1 33) (mo.2.1 34)) (hw : ∀ w, w < 11 → f_X3_wordOf F (nI (260 + w)) (nI k) rm = some (nI (wv w)) ∧ mo.2.2 36 w = (nI (wv w)).toInt64) : ∀ (r j gc gr : Nat) (cs rs : Nat → Int64), j + r = c → r < gc → r < gr → ∃ cs2 rs2, lp (b_X4_seats_2 F rm) gc (nI k, nI j, rst ru cs) = some (if lg_cmp (wnS mo.2.1 s wv r j) 0 ≤ 0 then 0 else 1, rst ru cs2) ∧ lp (b_X9_wanted_13 F) gr (nI s, nI (12 * s + j), mst mo rs) = some (wnS mo.2.1 s wv r j, mst mo rs2)
  | 0, j, gc, gr, cs, rs, h1, h2, h3 => by
    obtain ⟨gc, rfl⟩ : ∃ g', gc = g' + 1 := ⟨gc - 1, by omega⟩
    obtain ⟨gr, rfl⟩ : ∃ g', gr = g' + 1 := ⟨gr - 1, by omega⟩
    refine ⟨cs, rs, ?_, ?_⟩
    · rw [lp_S, b_X4_seats_2]
      dsimp only
      rw [show (rst ru cs).1 6 = nI c from h6, if_pos (nI_le (by omega) (by omega))]
      rfl
    · rw [lp_S, b_X9_wanted_13]
      dsimp only
      rw [if_pos (ib_n hs (by decide)), nI_clamp (show s < 2 ^ 31 by omega), show (mst mo rs).2.1 31 s = nI c from h31, show (12 : Int32) = nI 12 from rfl, pk_mul, nI_add, if_pos (nI_le (by omega) (by omega))]
      rfl
  | r + 1, j, gc, gr, cs, rs, h1, h2, h3 => by
    obtain ⟨gc, rfl⟩ : ∃ g', gc = g' + 1 := ⟨gc - 1, by omega⟩
    obtain ⟨gr, rfl⟩ : ∃ g', gr = g' + 1 := ⟨gr - 1, by omega⟩
    obtain ⟨a, b, d, q1, q2, q3, q4, q5, q6, q7, q8, q9, q10, q11⟩ := hcl j (by omega)
    have n4 : nat_ (mo.2.1 32 (12 * s + j)) = a := (nat_n q4 (by omega)).1
    have n5 : nat_ (mo.2.1 33 (12 * s + j)) = b := (nat_n q5 (by omega)).1
    have n6 : nat_ (mo.2.1 34 (12 * s + j)) = d := (nat_n q6 (by omega)).1
    have eW : wnS mo.2.1 s wv (r + 1) j = if b = d ∨ evH (mo.2.1 29) (mo.2.1 30) (300 * s) wv b d = 1 then evH (mo.2.1 29) (mo.2.1 30) (300 * s) wv a b else wnS mo.2.1 s wv r (j + 1) := by
      show (if nat_ (mo.2.1 33 (12 * s + j)) = nat_ (mo.2.1 34 (12 * s + j)) ∨ evH (mo.2.1 29) (mo.2.1 30) (300 * s) wv (nat_ (mo.2.1 33 (12 * s + j))) (nat_ (mo.2.1 34 (12 * s + j))) = 1 then evH (mo.2.1 29) (mo.2.1 30) (300 * s) wv (nat_ (mo.2.1 32 (12 * s + j))) (nat_ (mo.2.1 33 (12 * s + j))) else wnS mo.2.1 s wv r (j + 1)) = _
      rw [n4, n5, n6]
    have c60 : ∀ cs : Nat → Int64, ∃ cs2, b_X4_seats_60 F rm (nI k) (nI j) (rst ru cs) = some (if lg_cmp (evH (mo.2.1 29) (mo.2.1 30) (300 * s) wv a b) 0 ≤ 0 then 0 else 1, rst ru cs2) := fun cs => by
      obtain ⟨cs2, rs2, i1, i2, -⟩ := ev_seg (F := F) (rm := rm) (k := k) (cs := cs) (rs := rs) hF hs h5 hlen hnv hce hw q10 (by omega)
      refine ⟨cs2, ?_⟩
      unfold b_X4_seats_60 b_X4_seats_88
      rw [if_pos (ib_n (show j < 12 by omega) (by decide)), nI_clamp (show j < 2 ^ 31 by omega), show (rst ru cs).2.1 1 j = nI a from q1, show (rst ru cs).2.1 2 j = nI b from q2, i1, bd_some]
      dsimp only
      rw [if_pos (Or.inl rfl), if_pos (Or.inr rfl)]
      split <;> rfl
    have r65 : ∀ rs : Nat → Int64, ∃ rs2, b_X9_wanted_65 F (nI s) (nI (12 * s + j)) (mst mo rs) = some (evH (mo.2.1 29) (mo.2.1 30) (300 * s) wv a b, mst mo rs2) := fun rs => by
      obtain ⟨cs2, rs2, i1, i2, -⟩ := ev_seg (F := F) (rm := rm) (k := k) (cs := cs) (rs := rs) hF hs h5 hlen hnv hce hw q10 (by omega)
      refine ⟨rs2, ?_⟩
      unfold b_X9_wanted_65
      rw [if_pos (ib_n (show 12 * s + j < 72 by omega) (by decide)), nI_clamp (show 12 * s + j < 2 ^ 31 by omega), show (mst mo rs).2.1 32 (12 * s + j) = nI a from q4, show (mst mo rs).2.1 33 (12 * s + j) = nI b from q5, i2, bd_some]
    have cl : lp (b_X4_seats_2 F rm) (gc + 1) (nI k, nI j, rst ru cs) = if nI d ≤ nI b then b_X4_seats_30 F rm (lp (b_X4_seats_2 F rm) gc) (nI k) (nI j) 0 (rst ru cs) else b_X4_seats_30 F rm (lp (b_X4_seats_2 F rm) gc) (nI k) (nI j) 1 (rst ru cs) := by
      rw [lp_S, b_X4_seats_2]
      dsimp only
      rw [show (rst ru cs).1 6 = nI c from h6, if_neg (nI_ge (by omega) (by omega)), if_pos (ib_n (show j < 12 by omega) (by decide)), nI_clamp (show j < 2 ^ 31 by omega), show (rst ru cs).2.1 3 j = nI d from q3, show (rst ru cs).2.1 2 j = nI b from q2]
    have rl : lp (b_X9_wanted_13 F) (gr + 1) (nI s, nI (12 * s + j), mst mo rs) = if nI b = nI d then b_X9_wanted_65 F (nI s) (nI (12 * s + j)) (mst mo rs) else Option.bind (f_X9_answer F (nI s) (nI b) (nI d) (mst mo rs)) (fun q7 => (if (lg_cmp q7.1 1) = 0 then (b_X9_wanted_65 F (nI s) (nI (12 * s + j)) q7.2) else (lp (b_X9_wanted_13 F) gr (nI s, nI (12 * s + j) + 1, q7.2)))) := by
      rw [lp_S, b_X9_wanted_13]
      dsimp only
      rw [if_pos (ib_n hs (by decide)), nI_clamp (show s < 2 ^ 31 by omega), show (mst mo rs).2.1 31 s = nI c from h31, show (12 : Int32) = nI 12 from rfl, pk_mul, nI_add, if_neg (nI_ge (by omega) (by omega)), if_pos (ib_n (show 12 * s + j < 72 by omega) (by decide)), nI_clamp (show 12 * s + j < 2 ^ 31 by omega), show (mst mo rs).2.1 33 (12 * s + j) = nI b from q5, show (mst mo rs).2.1 34 (12 * s + j) = nI d from q6]
    rw [eW]
    by_cases hbd : b = d
    · obtain ⟨cs2, i1⟩ := c60 cs
      obtain ⟨rs2, i2⟩ := r65 rs
      rw [if_pos (Or.inl hbd)]
      refine ⟨cs2, rs2, ?_, ?_⟩
      · rw [cl, if_pos (nI_le (by omega) (by omega))]
        unfold b_X4_seats_30
        rw [if_pos rfl]
        exact i1
      · rw [rl, if_pos (by rw [hbd])]
        exact i2
    · have hlt : b < d := by omega
      obtain ⟨cs1, rs1, j1, j2, j3⟩ := ev_seg (F := F) (rm := rm) (k := k) (cs := cs) (rs := rs) hF hs h5 hlen hnv hce hw (q11 hlt) (by omega)
      have hv := j3 rfl
      have nbd : ¬ nI b = nI d := fun z => hbd ((nI_eq (by omega) (by omega)).mp z)
      have c30 : b_X4_seats_30 F rm (lp (b_X4_seats_2 F rm) gc) (nI k) (nI j) 1 (rst ru cs) = if lg_cmp (evH (mo.2.1 29) (mo.2.1 30) (300 * s) wv b d) 0 = 0 then lp (b_X4_seats_2 F rm) gc (nI k, nI j + 1, rst ru cs1) else b_X4_seats_60 F rm (nI k) (nI j) (rst ru cs1) := by
        unfold b_X4_seats_30
        rw [if_neg (show ¬ (1 : Int32) = 0 by decide), if_pos (ib_n (show j < 12 by omega) (by decide)), nI_clamp (show j < 2 ^ 31 by omega), show (rst ru cs).2.1 2 j = nI b from q2, show (rst ru cs).2.1 3 j = nI d from q3, j1, bd_some]
      rw [j2, bd_some] at rl
      dsimp only at rl
      rw [if_neg nbd] at rl
      rw [if_neg (nI_ge hlt (by omega)), c30] at cl
      rcases hv with hv | hv
      · rw [hv] at rl cl
        rw [if_neg (show ¬ lg_cmp (0 : Int64) 1 = 0 by decide), nI_1] at rl
        rw [if_pos (show lg_cmp (0 : Int64) 0 = 0 by decide), nI_1] at cl
        have nz : ¬ (b = d ∨ evH (mo.2.1 29) (mo.2.1 30) (300 * s) wv b d = 1) := fun z => by
          rcases z with z | z
          · exact hbd z
          · rw [hv] at z
            exact absurd z (by decide)
        rw [if_neg nz]
        obtain ⟨cs2, rs2, i1, i2⟩ := seats_loop hF hs hc hlen h5 h6 h31 hnv hce hcl hw r (j + 1) gc gr cs1 rs1 (by omega) (by omega) (by omega)
        exact ⟨cs2, rs2, cl.trans i1, rl.trans i2⟩
      · rw [hv] at rl cl
        rw [if_pos (show lg_cmp (1 : Int64) 1 = 0 by decide)] at rl
        rw [if_neg (show ¬ lg_cmp (1 : Int64) 0 = 0 by decide)] at cl
        rw [if_pos (Or.inr hv)]
        obtain ⟨cs2, i1⟩ := c60 cs1
        obtain ⟨rs2, i2⟩ := r65 rs1
        exact ⟨cs2, rs2, cl.trans i1, rl.trans i2⟩
theorem rst_id {ru : OB} : rst ru (ru.2.2 4) = ru := by
  unfold rst
  rw [uF_id]
theorem mst_id {mo : OB} : mst mo (mo.2.2 37) = mo := by
  unfold mst
  rw [uF_id]
/-- a rule, by both, of one -/
theorem seats_both {cs rs : Nat → Int64} (hF : 600 ≤ F) (hs : s < 6) (hR : RLk s ru mo) (h7 : mo.2.1 1 7 = nI s) (hw : ∀ w, w < 11 → f_X3_wordOf F (nI (260 + w)) (nI k) rm = some (nI (wv w)) ∧ mo.2.2 36 w = (nI (wv w)).toInt64) : ∃ cs2 rs2, f_X4_seats F (nI k) (rst ru cs) rm = some (if lg_cmp (wnt mo.2.1 s wv) 0 ≤ 0 then 0 else 1, rst ru cs2) ∧ f_X9_wanted F (mst mo rs) = some (wnt mo.2.1 s wv, mst mo rs2) := by
  obtain ⟨c, len, a1, a2, a3, a4, a5, a6, a7, a8⟩ := hR
  obtain ⟨cs2, rs2, i1, i2⟩ := seats_loop (F := F) (rm := rm) (k := k) hF hs a1 a2 a3 a4 a5 a6 a7 a8 hw c 0 F F cs rs (by omega) (by omega) (by omega)
  have e : wnt mo.2.1 s wv = wnS mo.2.1 s wv c 0 := by
    unfold wnt
    rw [(nat_n a5 (by omega)).1]
  rw [e]
  refine ⟨cs2, rs2, i1, ?_⟩
  unfold f_X9_wanted
  rw [show (mst mo rs).2.1 1 = mo.2.1 1 from rfl, show Int32.toNatClampNeg 7 = 7 from by decide, h7, show (12 : Int32) = nI 12 from rfl, pk_mul]
  exact i2
end SEA
