/-! a minute: by both -/
/-- what one does in a minute -/
noncomputable def chS (R : Nat → Nat → Int32) (rl : Option Nat) (He Hd : Nat) (h : HLd) (cn : Nat → Nat) (D mi k S : Nat) : Bool := if bS He k then decide (bS Hd k) else match rl with
  | none => decide (bS S k)
  | some s => decide (¬ lg_cmp (wnt R s (wvS h cn S D mi k)) 0 ≤ 0)
noncomputable def spN (ch : Nat → Nat → Bool) (D : Nat) : Nat → Nat → Nat
  | 0, S => S
  | n + 1, S => sT1 D n (ch n (spN ch D n S)) (spN ch D n S)
theorem spN_bd {ch : Nat → Nat → Bool} {q D S : Nat} (B : BDd q S D) : ∀ n, n ≤ q → BDd q (spN ch D n S) D
  | 0, _ => B
  | n + 1, h => sT1_bd (spN_bd B n (by omega)) (by omega)
/-- a minute: who sits, who is dropped, who was dropped in it -/
noncomputable def mnS (R : Nat → Nat → Int32) (rl : Option Nat) (He Hd : Nat) (h : HLd) (cn : Nat → Nat) (S D mi : Nat) : Nat × Nat × Nat := stl h cn 9 (spN (chS R rl He Hd h cn D mi) D (h.1 3) S) D 0
theorem mn_bd {R : Nat → Nat → Int32} {rl : Option Nat} {He Hd : Nat} {h : HLd} {cn : Nat → Nat} {S D mi : Nat} (H : HOK h) (B : BDd (h.1 3) S D) : BDd (h.1 3) (mnS R rl He Hd h cn S D mi).1 (mnS R rl He Hd h cn S D mi).2.1 ∧ (mnS R rl He Hd h cn S D mi).2.2 < 2 ^ h.1 3 := stl_bd H 9 _ _ _ (spN_bd B _ (Nat.le_refl _)) (Nat.pow_pos (by decide))
theorem sT1_id {D k S : Nat} : sT1 D k (decide (bS S k)) S = S := by
  unfold sT1
  by_cases hd : bS D k
  · rw [if_pos hd]
  · rw [if_neg hd, if_pos (by rw [decide_eq_true_eq])]
theorem sT1_dr {D k S : Nat} {b : Bool} (hd : bS D k) : sT1 D k b S = S := if_pos hd
theorem wnt_cg {R R2 : Nat → Nat → Int32} {s : Nat} {wv : Nat → Nat} (h : ∀ j, 29 ≤ j → j ≤ 34 → R2 j = R j) : wnt R2 s wv = wnt R s wv := by
  have e : ∀ r j, wnS R2 s wv r j = wnS R s wv r j := fun r => by
    induction r with
    | zero => intro j; rfl
    | succ r ih =>
      intro j
      show (if nat_ (R2 33 (12 * s + j)) = nat_ (R2 34 (12 * s + j)) ∨ evH (R2 29) (R2 30) (300 * s) wv (nat_ (R2 33 (12 * s + j))) (nat_ (R2 34 (12 * s + j))) = 1 then evH (R2 29) (R2 30) (300 * s) wv (nat_ (R2 32 (12 * s + j))) (nat_ (R2 33 (12 * s + j))) else wnS R2 s wv r (j + 1)) = _
      rw [ih (j + 1), h 29 (by decide) (by decide), h 30 (by decide) (by decide), h 32 (by decide) (by decide), h 33 (by decide) (by decide), h 34 (by decide) (by decide)]
      rfl
  unfold wnt
  rw [h 31 (by decide) (by decide), e]
theorem RLk.cg {s : Nat} {ru ru2 mo mo2 : OB} (hR : RLk s ru mo) (h1 : ru2.1 = ru.1) (h2 : ru2.2.1 = ru.2.1) (h3 : ∀ j, 29 ≤ j → j ≤ 34 → mo2.2.1 j = mo.2.1 j) : RLk s ru2 mo2 := by
  unfold RLk
  rw [h1, h2, h3 29 (by decide) (by decide), h3 30 (by decide) (by decide), h3 31 (by decide) (by decide), h3 32 (by decide) (by decide), h3 33 (by decide) (by decide), h3 34 (by decide) (by decide)]
  exact hR
/-- a room that holds just this -/
noncomputable def rmC (h : HLd) (cn : Nat → Nat) (S D mi : Nat) : OB := (fun i => if i < 4 then nI (h.1 i) else if i = 10 then nI S else if i = 11 then nI D else if i = 12 then nI mi else 0, fun j k => if j = 9 then nI (cn k) else if j = 13 then nI (ldS h S k) else if j = 14 then nI (hdS h S k) else nI (h.2 j k), fun _ _ => 0)
theorem rmC_cd {h : HLd} {cn : Nat → Nat} {S D mi : Nat} : CDd h cn S D mi (rmC h cn S D mi) := ⟨⟨⟨rfl, rfl, rfl, rfl⟩, fun _ _ => rfl, fun _ _ => ⟨rfl, rfl⟩, fun _ _ => ⟨rfl, rfl⟩⟩, ⟨rfl, rfl, rfl⟩, fun _ _ => rfl, fun _ _ => ⟨rfl, rfl⟩⟩
section MIN
variable {F : Nat} {h : HLd} {cn : Nat → Nat} {S D mi : Nat}
theorem seats_c {s k : Nat} {ru rm mo : OB} {cs : Nat → Int64} (H : HOK h) (hc : ∀ k, k < h.1 1 → cn k ≤ 99) (hF : 600 ≤ F) (hs : s < 6) (hR : RLk s ru mo) (C : CDd h cn S D mi rm) (B : BDd (h.1 3) S D) (hk : k < h.1 3) : ∃ cs2, f_X4_seats F (nI k) (rst ru cs) rm = some (if lg_cmp (wnt mo.2.1 s (wvS h cn S D mi k)) 0 ≤ 0 then 0 else 1, rst ru cs2) := by
  have hS8 := l28 B.1 H.q8
  have hD8 := l28 B.2.1 H.q8
  obtain ⟨c, len, a1, a2, a3, a4, a5, a6, a7, a8⟩ := hR
  obtain ⟨cs2, rs2, i1, i2⟩ := seats_loop (F := F) (rm := rm) (k := k) (mo := mas mo (fun w => (nI (wvS h cn S D mi k w)).toInt64)) (wv := wvS h cn S D mi k) hF hs a1 a2 a3 a4 a5 a6 a7 a8 (fun w hw => ⟨s_wordOf H hc C (by omega) hD8 hk hw, rfl⟩) c 0 F F cs cs (by omega) (by omega) (by omega)
  refine ⟨cs2, i1.trans ?_⟩
  unfold wnt
  rw [(nat_n a5 (by omega)).1]
  rfl
theorem wanted_r {s k : Nat} {ru mo : OB} {A : Nat → Int64} (H : HOK h) (hc : ∀ k, k < h.1 1 → cn k ≤ 99) (hF : 600 ≤ F) (hs : s < 6) (hR : RLk s ru mo) (h7 : mo.2.1 1 7 = nI s) (B : BDd (h.1 3) S D) (hk : k < h.1 3) (hA : ∀ w, w < 11 → A w = (nI (wvS h cn S D mi k w)).toInt64) : ∃ rs2, f_X9_wanted F (mas mo A) = some (wnt mo.2.1 s (wvS h cn S D mi k), mst (mas mo A) rs2) := by
  have hS8 := l28 B.1 H.q8
  have hD8 := l28 B.2.1 H.q8
  obtain ⟨cs2, rs2, i1, i2⟩ := seats_both (F := F) (rm := rmC h cn S D mi) (ru := ru) (k := k) (mo := mas mo A) (wv := wvS h cn S D mi k) (cs := ru.2.2 4) (rs := (mas mo A).2.2 37) hF hs hR h7 (fun w hw => ⟨s_wordOf H hc rmC_cd (by omega) hD8 hk hw, hA w hw⟩)
  rw [mst_id] at i2
  exact ⟨rs2, i2⟩
/-! the class's minute -/
theorem CDd.min {rm : OB} (C : CDd h cn S D mi rm) : CDd h cn S D (mi + 1) (uF rm.1 12 (rm.1 12 + 1), rm.2.1, rm.2.2) ∧ KRd rm (uF rm.1 12 (rm.1 12 + 1), rm.2.1, rm.2.2) := by
  have k : KRd rm (uF rm.1 12 (rm.1 12 + 1), rm.2.1, rm.2.2) := ⟨fun j _ _ r => uF_n r, fun _ _ _ => rfl, rfl⟩
  refine ⟨⟨C.1.kr k, ⟨C.2.1.1, C.2.1.2.1, ?_⟩, C.2.2.1, C.2.2.2⟩, k⟩
  show uF rm.1 12 (rm.1 12 + 1) 12 = _
  rw [uF_s, C.2.1.2.2, nI_1]
theorem pass_end {rm : OB} (H : HOK h) (hc : ∀ k, k < h.1 1 → cn k ≤ 99) (hF : 600 ≤ F) (C : CDd h cn S D mi rm) (B : BDd (h.1 3) S D) : ∃ rm2 rm3, f_X3_settle F rm = some (nI (stl h cn 9 S D 0).2.2, rm2) ∧ rm3 = (uF rm2.1 12 (rm2.1 12 + 1), rm2.2.1, rm2.2.2) ∧ CDd h cn (stl h cn 9 S D 0).1 (stl h cn 9 S D 0).2.1 (mi + 1) rm3 ∧ KRd rm rm3 := by
  obtain ⟨rm2, e1, e2, e3⟩ := s_settle H hc hF C B
  obtain ⟨m1, m2⟩ := e2.min
  exact ⟨rm2, _, e1, rfl, m1, e3.tr m2⟩
/-- those who are held: the mask and who of them sit -/
noncomputable def Hld (He Hd : Nat) (rm : OB) : Prop := rm.1 15 = nI He ∧ He < 2 ^ 31 ∧ Hd < 2 ^ 31 ∧ ∀ j, bS He j → rm.1 16 = nI Hd
theorem Hld.kr {He Hd : Nat} {rm rm2 : OB} (L : Hld He Hd rm) (k : KRd rm rm2) : Hld He Hd rm2 := ⟨(k.1 15 (by decide) (by decide) (by decide)).trans L.1, L.2.1, L.2.2.1, fun j hj => (k.1 16 (by decide) (by decide) (by decide)).trans (L.2.2.2 j hj)⟩
theorem pmn_loop {R : Nat → Nat → Int32} {He Hd : Nat} (H : HOK h) (hF : 600 ≤ F) (B : BDd (h.1 3) S D) : ∀ (r k g : Nat) (rm : OB), k + r = h.1 3 → r < g → CDd h cn (spN (chS R none He Hd h cn D mi) D k S) D mi rm → Hld He Hd rm → ∃ rm2, lp (b_X3_passMinute_n_2 F) g (nI k, rm) = Option.bind (f_X3_settle F rm2) (fun q3 => some (q3.1, (uF q3.2.1 12 (q3.2.1 12 + 1), q3.2.2.1, q3.2.2.2))) ∧ CDd h cn (spN (chS R none He Hd h cn D mi) D (h.1 3) S) D mi rm2 ∧ KRd rm rm2
  | 0, k, g, rm, h1, h2, C, L => by
    obtain ⟨g, rfl⟩ : ∃ g', g = g' + 1 := ⟨g - 1, by omega⟩
    have hq := H.q8
    have ek : k = h.1 3 := by omega
    subst ek
    refine ⟨rm, ?_, C, KRd.rf⟩
    rw [lp_S, b_X3_passMinute_n_2]
    dsimp only
    rw [C.1.1.2.2.2, if_pos (nI_le (Nat.le_refl _) (by omega))]
  | r + 1, k, g, rm, h1, h2, C, L => by
    obtain ⟨g, rfl⟩ : ∃ g', g = g' + 1 := ⟨g - 1, by omega⟩
    have hq := H.q8
    have hk : k < h.1 3 := by omega
    have Bk := spN_bd (ch := chS R none He Hd h cn D mi) B k (by omega)
    have st : ∀ b rm2, CDd h cn (sT1 D k b (spN (chS R none He Hd h cn D mi) D k S)) D mi rm2 → chS R none He Hd h cn D mi k (spN (chS R none He Hd h cn D mi) D k S) = b → CDd h cn (spN (chS R none He Hd h cn D mi) D (k + 1) S) D mi rm2 := fun b rm2 C2 e => by
      show CDd h cn (sT1 D k (chS R none He Hd h cn D mi k (spN (chS R none He Hd h cn D mi) D k S)) (spN (chS R none He Hd h cn D mi) D k S)) D mi rm2
      rw [e]
      exact C2
    rw [lp_S, b_X3_passMinute_n_2]
    dsimp only
    rw [C.1.1.2.2.2, if_neg (nI_ge hk (by omega)), L.1]
    by_cases hb : bS He k
    · have seat : ∀ (x : Int32) (b : Bool), x = (if b = true then 1 else 0) → decide (bS Hd k) = b → ∃ rm2, b_X3_passMinute_n_39 F (lp (b_X3_passMinute_n_2 F) g) (nI k) x (nI k) rm = Option.bind (f_X3_settle F rm2) (fun q3 => some (q3.1, (uF q3.2.1 12 (q3.2.1 12 + 1), q3.2.2.1, q3.2.2.2))) ∧ CDd h cn (spN (chS R none He Hd h cn D mi) D (h.1 3) S) D mi rm2 ∧ KRd rm rm2 := fun x b hx hb2 => by
        obtain ⟨rm2, e1, e2, e3⟩ := s_seat (F := F) (k := k) (b := b) (x := x) H C Bk hk hx
        obtain ⟨rm3, f1, f2, f3⟩ := pmn_loop H hF B r (k + 1) g rm2 (by omega) (by omega) (st b rm2 e2 (by
          unfold chS
          rw [if_pos hb]
          exact hb2)) (L.kr e3)
        refine ⟨rm3, ?_, f2, e3.tr f3⟩
        unfold b_X3_passMinute_n_39 b_X3_passMinute_n_68
        rw [e1, bd_some, nI_1]
        exact f1
      rw [if_neg (fun z => (r_bit0 L.2.1 (by omega)).mp z hb), L.2.2.2 k hb]
      by_cases hd : bS Hd k
      · rw [if_neg (fun z => (r_bit0 L.2.2.1 (by omega)).mp z hd)]
        exact seat 1 true rfl (decide_eq_true hd)
      · rw [if_pos ((r_bit0 L.2.2.1 (by omega)).mpr hd)]
        exact seat 0 false rfl (decide_eq_false hd)
    · rw [if_pos ((r_bit0 L.2.1 (by omega)).mpr hb)]
      unfold b_X3_passMinute_n_68
      rw [nI_1]
      exact pmn_loop H hF B r (k + 1) g rm (by omega) (by omega) (st (decide (bS (spN (chS R none He Hd h cn D mi) D k S) k)) rm (by rw [sT1_id]; exact C) (by
        unfold chS
        rw [if_neg hb])) L
theorem pmr_loop {He Hd s : Nat} {ru mo : OB} (H : HOK h) (hc : ∀ k, k < h.1 1 → cn k ≤ 99) (hF : 600 ≤ F) (hs : s < 6) (hR : RLk s ru mo) (B : BDd (h.1 3) S D) : ∀ (r k g : Nat) (rm : OB) (cs : Nat → Int64), k + r = h.1 3 → r < g → CDd h cn (spN (chS mo.2.1 (some s) He Hd h cn D mi) D k S) D mi rm → Hld He Hd rm → ∃ rm2 cs2, lp (b_X3_passMinute_r_2 F) g (nI k, rm, rst ru cs) = Option.bind (f_X3_settle F rm2) (fun q3 => some (q3.1, (uF q3.2.1 12 (q3.2.1 12 + 1), q3.2.2.1, q3.2.2.2), rst ru cs2)) ∧ CDd h cn (spN (chS mo.2.1 (some s) He Hd h cn D mi) D (h.1 3) S) D mi rm2 ∧ KRd rm rm2
  | 0, k, g, rm, cs, h1, h2, C, L => by
    obtain ⟨g, rfl⟩ : ∃ g', g = g' + 1 := ⟨g - 1, by omega⟩
    have hq := H.q8
    have ek : k = h.1 3 := by omega
    subst ek
    refine ⟨rm, cs, ?_, C, KRd.rf⟩
    rw [lp_S, b_X3_passMinute_r_2]
    dsimp only
    rw [C.1.1.2.2.2, if_pos (nI_le (Nat.le_refl _) (by omega))]
  | r + 1, k, g, rm, cs, h1, h2, C, L => by
    obtain ⟨g, rfl⟩ : ∃ g', g = g' + 1 := ⟨g - 1, by omega⟩
    have hq := H.q8
    have hk : k < h.1 3 := by omega
    have Bk := spN_bd (ch := chS mo.2.1 (some s) He Hd h cn D mi) B k (by omega)
    have hD8 := l28 B.2.1 hq
    have st : ∀ b rm2, CDd h cn (sT1 D k b (spN (chS mo.2.1 (some s) He Hd h cn D mi) D k S)) D mi rm2 → chS mo.2.1 (some s) He Hd h cn D mi k (spN (chS mo.2.1 (some s) He Hd h cn D mi) D k S) = b → CDd h cn (spN (chS mo.2.1 (some s) He Hd h cn D mi) D (k + 1) S) D mi rm2 := fun b rm2 C2 e => by
      show CDd h cn (sT1 D k (chS mo.2.1 (some s) He Hd h cn D mi k (spN (chS mo.2.1 (some s) He Hd h cn D mi) D k S)) (spN (chS mo.2.1 (some s) He Hd h cn D mi) D k S)) D mi rm2
      rw [e]
      exact C2
    have seat : ∀ (x : Int32) (b : Bool) (cs : Nat → Int64), x = (if b = true then 1 else 0) → chS mo.2.1 (some s) He Hd h cn D mi k (spN (chS mo.2.1 (some s) He Hd h cn D mi) D k S) = b → ∃ rm2 cs2, b_X3_passMinute_r_39 F (lp (b_X3_passMinute_r_2 F) g) (nI k) x (nI k) rm (rst ru cs) = Option.bind (f_X3_settle F rm2) (fun q3 => some (q3.1, (uF q3.2.1 12 (q3.2.1 12 + 1), q3.2.2.1, q3.2.2.2), rst ru cs2)) ∧ CDd h cn (spN (chS mo.2.1 (some s) He Hd h cn D mi) D (h.1 3) S) D mi rm2 ∧ KRd rm rm2 := fun x b cs hx hb2 => by
      obtain ⟨rm2, e1, e2, e3⟩ := s_seat (F := F) (k := k) (b := b) (x := x) H C Bk hk hx
      obtain ⟨rm3, cs3, f1, f2, f3⟩ := pmr_loop H hc hF hs hR B r (k + 1) g rm2 cs (by omega) (by omega) (st b rm2 e2 hb2) (L.kr e3)
      refine ⟨rm3, cs3, ?_, f2, e3.tr f3⟩
      unfold b_X3_passMinute_r_39 b_X3_passMinute_r_68
      rw [e1, bd_some, nI_1]
      exact f1
    rw [lp_S, b_X3_passMinute_r_2]
    dsimp only
    rw [C.1.1.2.2.2, if_neg (nI_ge hk (by omega)), L.1]
    by_cases hb : bS He k
    · rw [if_neg (fun z => (r_bit0 L.2.1 (by omega)).mp z hb), L.2.2.2 k hb]
      by_cases hd : bS Hd k
      · rw [if_neg (fun z => (r_bit0 L.2.2.1 (by omega)).mp z hd)]
        exact seat 1 true cs rfl (by
          unfold chS
          rw [if_pos hb]
          exact decide_eq_true hd)
      · rw [if_pos ((r_bit0 L.2.2.1 (by omega)).mpr hd)]
        exact seat 0 false cs rfl (by
          unfold chS
          rw [if_pos hb]
          exact decide_eq_false hd)
    · rw [if_pos ((r_bit0 L.2.1 (by omega)).mpr hb), s_isUp C.1.1.2.2.2 C.2.1.2.1 (by omega) hk hq, bd_some]
      by_cases hd : bS D k
      · rw [if_pos hd, if_pos rfl]
        unfold b_X3_passMinute_r_68
        rw [nI_1]
        exact pmr_loop H hc hF hs hR B r (k + 1) g rm cs (by omega) (by omega) (st _ rm (by rw [sT1_dr hd]; exact C) rfl) L
      · obtain ⟨cs2, e1⟩ := seats_c (F := F) (cs := cs) H hc hF hs hR C Bk hk
        rw [if_neg hd, if_neg (show ¬ (1 : Int32) = 0 by decide), e1, bd_some]
        obtain ⟨rm2, cs3, g1, g2, g3⟩ := seat (if lg_cmp (wnt mo.2.1 s (wvS h cn (spN (chS mo.2.1 (some s) He Hd h cn D mi) D k S) D mi k)) 0 ≤ 0 then 0 else 1) (decide (¬ lg_cmp (wnt mo.2.1 s (wvS h cn (spN (chS mo.2.1 (some s) He Hd h cn D mi) D k S) D mi k)) 0 ≤ 0)) cs2 (by
          by_cases z : lg_cmp (wnt mo.2.1 s (wvS h cn (spN (chS mo.2.1 (some s) He Hd h cn D mi) D k S) D mi k)) 0 ≤ 0
          · rw [if_pos z, if_neg (by rw [decide_eq_true_eq]; exact fun w => w z)]
          · rw [if_neg z, if_pos (decide_eq_true z)]) (by
          show (if bS He k then decide (bS Hd k) else decide (¬ lg_cmp (wnt mo.2.1 s (wvS h cn (spN (chS mo.2.1 (some s) He Hd h cn D mi) D k S) D mi k)) 0 ≤ 0)) = _
          rw [if_neg hb])
        exact ⟨rm2, cs3, g1, g2, g3⟩
/-- rules whose stacks alone have changed -/
noncomputable def RZk (rz rz2 : Nat → OB) : Prop := ∀ i, (rz2 i).1 = (rz i).1 ∧ (rz2 i).2.1 = (rz i).2.1
theorem RZk.rf {rz : Nat → OB} : RZk rz rz := fun _ => ⟨rfl, rfl⟩
theorem RZk.tr {a b c : Nat → OB} (h1 : RZk a b) (h2 : RZk b c) : RZk a c := fun i => ⟨(h2 i).1.trans (h1 i).1, (h2 i).2.trans (h1 i).2⟩
/-- which rule is told to the class's minute -/
noncomputable def RLx (rl : Option Nat) (x : Int32) (rz : Nat → OB) (mo : OB) : Prop := (rl = none ∧ x = -1) ∨ ∃ s, rl = some s ∧ x = nI s ∧ s < 6 ∧ RLk s (rz s) mo
theorem RLx.kz {rl : Option Nat} {x : Int32} {rz rz2 : Nat → OB} {mo : OB} (h : RLx rl x rz mo) (k : RZk rz rz2) : RLx rl x rz2 mo := by
  rcases h with h | ⟨s, h1, h2, h3, h4⟩
  · exact Or.inl h
  · exact Or.inr ⟨s, h1, h2, h3, h4.cg (k s).1 (k s).2 (fun _ _ _ => rfl)⟩
theorem s_pass {rl : Option Nat} {x : Int32} {He Hd : Nat} {rm mo : OB} {rz : Nat → OB} (H : HOK h) (hc : ∀ k, k < h.1 1 → cn k ≤ 99) (hF : 600 ≤ F) (hx : RLx rl x rz mo) (C : CDd h cn S D mi rm) (B : BDd (h.1 3) S D) (L : Hld He Hd rm) : ∃ rm2 rz2, f_X3_passMinute F x rm rz = some (nI (mnS mo.2.1 rl He Hd h cn S D mi).2.2, rm2, rz2) ∧ CDd h cn (mnS mo.2.1 rl He Hd h cn S D mi).1 (mnS mo.2.1 rl He Hd h cn S D mi).2.1 (mi + 1) rm2 ∧ KRd rm rm2 ∧ RZk rz rz2 := by
  have hq := H.q8
  unfold f_X3_passMinute
  rcases hx with ⟨h1, h2⟩ | ⟨s, h1, h2, h3, h4⟩
  · subst h1
    rw [h2, if_neg (show ¬ (0 ≤ (-1 : Int32).toInt ∧ (-1 : Int32).toInt < 6) by decide)]
    obtain ⟨rm2, e1, e2, e3⟩ := pmn_loop (F := F) (R := mo.2.1) (He := He) (Hd := Hd) H hF B (h.1 3) 0 F rm (by omega) (by omega) C L
    obtain ⟨rm3, rm4, f1, f2, f3, f4⟩ := pass_end H hc hF e2 (spN_bd B _ (Nat.le_refl _))
    refine ⟨rm4, rz, ?_, f3, e3.tr f4, RZk.rf⟩
    have e1 : f_X3_passMinute_n F rm = _ := e1
    rw [e1, f1, bd_some, bd_some, f2]
    rfl
  · subst h1
    have t1 : (nI s).toInt = (s : Int) := nI_toInt (by omega)
    rw [h2, if_pos (show 0 ≤ (nI s).toInt ∧ (nI s).toInt < 6 by rw [t1]; omega), show (nI s).toInt.toNat = s by rw [t1]; rfl]
    obtain ⟨rm2, cs2, e1, e2, e3⟩ := pmr_loop (F := F) (He := He) (Hd := Hd) H hc hF h3 h4 B (h.1 3) 0 F rm ((rz s).2.2 4) (by omega) (by omega) C L
    rw [rst_id] at e1
    obtain ⟨rm3, rm4, f1, f2, f3, f4⟩ := pass_end H hc hF e2 (spN_bd B _ (Nat.le_refl _))
    refine ⟨rm4, uF rz s (rst (rz s) cs2), ?_, f3, e3.tr f4, fun i => ?_⟩
    · have e1 : f_X3_passMinute_r F rm (rz s) = _ := e1
      rw [e1, f1, bd_some, bd_some, f2]
      rfl
    · by_cases e : i = s
      · rw [e, uF_s]
        exact ⟨rfl, rfl⟩
      · rw [uF_n e]
        exact ⟨rfl, rfl⟩
end MIN
