/-! a test, pure: the reference's stack -/
section ST
variable {F : Nat} {m : OB} {L s : Nat} {f e c : Int32} {so nu op : Nat → Int32}
theorem s_top {pp d : Int32} {ol : Nat} (h : ol ≤ 402) : f_X9_top F (ps m pp f e d c (nI ol) so nu op) = some (if ol = 0 then -1 else op (ol - 1)) := by
  unfold f_X9_top b_X9_top_22
  rw [show (ps m pp f e d c (nI ol) so nu op).1 26 = nI ol from rfl, show (ps m pp f e d c (nI ol) so nu op).2.1 35 = op from rfl]
  by_cases h0 : ol = 0
  · rw [h0, if_pos nI_0, if_pos rfl]
  · rw [if_neg (nI_ne0 (by omega) (by omega)), if_neg h0, s_pred (by omega), if_pos (ib_n (by omega) (by decide)), nI_clamp (by omega)]
theorem en26 {a b : Int32} {mo q : OB} (h : f_X9_entry F a b mo = some q) : q.1 26 = mo.1 26 := by
  unfold f_X9_entry b_X9_entry_55 at h
  by_cases h1 : mo.1 20 = 0
  · rw [if_pos h1] at h
    obtain ⟨_, h⟩ := fw_g h
    cases h
    rfl
  · rw [if_neg h1] at h
    cases h
    rfl
theorem ans_fu {k : Int32} (hk : ¬ k = -1) : ∀ (ol g g2 : Nat) (mo : OB), mo.1 26 = nI ol → ol ≤ 402 → ol < g → ol < g2 → lp (b_X9_answers_0 F) g (k, mo) = lp (b_X9_answers_0 F) g2 (k, mo)
  | ol, 0, _, _, _, _, h, _ => absurd h (by omega)
  | ol, _ + 1, 0, _, _, _, _, h => absurd h (by omega)
  | 0, g + 1, g2 + 1, mo, e26, _, _, _ => by
    rw [lp_S, lp_S, b_X9_answers_0, b_X9_answers_0]
    unfold f_X9_top b_X9_top_22
    try dsimp only
    have hk' : ¬ (-1 : Int32) = k := fun q => hk q.symm
    rw [e26, if_pos nI_0, bd_some, bd_some, if_neg hk', if_neg hk']
  | ol + 1, g + 1, g2 + 1, mo, e26, h4, h1, h2 => by
    rw [lp_S, lp_S, b_X9_answers_0, b_X9_answers_0]
    unfold b_X9_answers_47
    try dsimp only
    cases ht : f_X9_top F mo with
    | none => rfl
    | some v =>
      rw [bd_some, bd_some]
      by_cases q : v = k
      · rw [if_pos q, if_pos q]
        by_cases q2 : mo.1 20 = 0
        · rw [if_pos q2, if_pos q2]
          cases hq : f_X9_entry F k 0 mo with
          | none => rfl
          | some w =>
            rw [bd_some, bd_some]
            have e2 : w.1 26 = nI (ol + 1) := (en26 hq).trans e26
            by_cases q3 : k = 9
            · rw [if_pos q3, if_pos q3]
              exact ans_fu hk ol g g2 _ (show w.1 26 - 1 = nI ol by rw [e2, nI_pred]) (by omega) (by omega) (by omega)
            · rw [if_neg q3, if_neg q3]
              exact ans_fu hk ol g g2 _ (show w.1 26 - 1 = nI ol by rw [e2, nI_pred]) (by omega) (by omega) (by omega)
        · rw [if_neg q2, if_neg q2]
      · rw [if_neg q, if_neg q]
theorem ans_no {k pp d : Int32} {ol : Nat} (hk : ¬ k = -1) (hF : 0 < F) (h : ol ≤ 402) (ht : ol = 0 ∨ ¬ op (ol - 1) = k) : f_X9_answers F k (ps m pp f e d c (nI ol) so nu op) = some (ps m pp f e d c (nI ol) so nu op) := by
  obtain ⟨g, rfl⟩ : ∃ g, F = g + 1 := ⟨F - 1, by omega⟩
  unfold f_X9_answers
  rw [lp_S, b_X9_answers_0]
  unfold b_X9_answers_54
  try dsimp only
  rw [s_top h, bd_some]
  by_cases h0 : ol = 0
  · rw [if_pos h0, if_neg (fun q => hk q.symm)]
  · rw [if_neg h0, if_neg (ht.resolve_left h0)]
theorem ans_st {k pp : Int32} {ol len dp g : Nat} (hr : RB m L s) (hl : len < 300) (h : ol < 402) (hd : k = 9 → 0 < dp) (ht : op ol = k) : lp (b_X9_answers_0 F) (g + 1) (k, ps m pp 0 (nI len) (nI dp) c (nI (ol + 1)) so nu op) = lp (b_X9_answers_0 F) g (k, ps m pp 0 (nI (len + 1)) (nI (if k = 9 then dp - 1 else dp)) c (nI ol) (upd so (300 * s + len) k) (upd nu (300 * s + len) 0) op) := by
  rw [lp_S, b_X9_answers_0]
  unfold b_X9_answers_47
  try dsimp only
  rw [s_top (by omega), bd_some, if_neg (show ¬ ol + 1 = 0 by omega), show ol + 1 - 1 = ol from rfl, if_pos ht, show (ps m pp 0 (nI len) (nI dp) c (nI (ol + 1)) so nu op).1 20 = 0 from rfl, if_pos rfl, s_entry hr hl, bd_some]
  rw [show ∀ so nu, (ps m pp 0 (nI (len + 1)) (nI dp) c (nI (ol + 1)) so nu op).1 26 = nI (ol + 1) from fun _ _ => rfl, nI_pred, show ∀ so nu, (ps m pp 0 (nI (len + 1)) (nI dp) c (nI (ol + 1)) so nu op).1 24 = nI dp from fun _ _ => rfl]
  by_cases q : k = 9
  · rw [if_pos q, if_pos q, s_pred (hd q), ps_od]
  · rw [if_neg q, if_neg q, show nI dp - 0 = nI dp from by rw [show (0 : Int32) = nI 0 from nI_0.symm, pk_sub (Nat.zero_le _), Nat.sub_zero], ps_od]
theorem ans_not {pp : Int32} {ol len dp : Nat} (hr : RB m L s) (hF : 600 ≤ F) (hl : len < 300) (h : ol < 402) (hd : 0 < dp) (ht : op ol = 9) : f_X9_answers F 9 (ps m pp 0 (nI len) (nI dp) c (nI (ol + 1)) so nu op) = f_X9_answers F 9 (ps m pp 0 (nI (len + 1)) (nI (dp - 1)) c (nI ol) (upd so (300 * s + len) 9) (upd nu (300 * s + len) 0) op) := by
  obtain ⟨g, rfl⟩ : ∃ g, F = g + 1 := ⟨F - 1, by omega⟩
  unfold f_X9_answers
  rw [ans_st hr hl h (fun _ => hd) ht, if_pos rfl]
  exact ans_fu (by decide) ol g (g + 1) _ rfl (by omega) (by omega) (by omega)
/-- one on top, or none, of and / of or -/
theorem ans_one {k pp : Int32} {ol len dp : Nat} {b : Bool} (hr : RB m L s) (hF : 600 ≤ F) (hk : ¬ k = -1) (hk9 : ¬ k = 9) (hl : len < 300) (h : ol < 402) (ht : b = true → op ol = k) (hn : ol = 0 ∨ ¬ op (ol - 1) = k) : f_X9_answers F k (ps m pp 0 (nI len) (nI dp) c (nI (ol + b.toNat)) so nu op) = some (ps m pp 0 (nI (len + b.toNat)) (nI dp) c (nI ol) (if b = true then upd so (300 * s + len) k else so) (if b = true then upd nu (300 * s + len) 0 else nu) op) := by
  cases b with
  | false =>
    show f_X9_answers F k (ps m pp 0 (nI len) (nI dp) c (nI ol) so nu op) = some (ps m pp 0 (nI len) (nI dp) c (nI ol) so nu op)
    exact ans_no hk (by omega) (by omega) hn
  | true =>
    have e := ans_no (F := F) (m := m) (f := 0) (e := nI (len + 1)) (c := c) (pp := pp) (d := nI dp) (so := upd so (300 * s + len) k) (nu := upd nu (300 * s + len) 0) (op := op) (ol := ol) hk (by omega) (by omega) hn
    rw [if_pos rfl, if_pos rfl]
    show f_X9_answers F k (ps m pp 0 (nI len) (nI dp) c (nI (ol + 1)) so nu op) = some (ps m pp 0 (nI (len + 1)) (nI dp) c (nI ol) (upd so (300 * s + len) k) (upd nu (300 * s + len) 0) op)
    rw [← e]
    obtain ⟨g, rfl⟩ : ∃ g, F = g + 1 := ⟨F - 1, by omega⟩
    unfold f_X9_answers
    rw [ans_st hr hl h (fun q => absurd q hk9) (ht rfl), if_neg hk9]
    exact ans_fu hk ol g (g + 1) _ rfl (by omega) (by omega) (by omega)
theorem s_op2 {k pp d : Int32} {ol : Nat} (h1 : ¬ k = 9) (h2 : ¬ k = 12) (h : ol < 402) : f_X9_opens F k (ps m pp f e d c (nI ol) so nu op) = some (ps m pp f e d c (nI (ol + 1)) so nu (upd op ol k)) := by
  unfold f_X9_opens b_X9_opens_40
  rw [if_neg h1, if_neg h2, show (ps m pp f e d c (nI ol) so nu op).1 26 = nI ol from rfl, if_pos (ib_n h (by decide)), nI_clamp (by omega), nI_1, show (ps m pp f e d c (nI ol) so nu op).2.1 35 = op from rfl, ps_op]
theorem s_op1 {k pp : Int32} {ol dp : Nat} (h1 : k = 9 ∨ k = 12) (h : ol < 402) (hd : dp ≤ 10) : f_X9_opens F k (ps m pp 0 e (nI dp) c (nI ol) so nu op) = some (ps m pp (if dp = 10 then 1 + 8 * pp + 2 else 0) e (nI (dp + 1)) c (nI (ol + 1)) so nu (upd op ol k)) := by
  have go : f_X9_opens F k (ps m pp 0 e (nI dp) c (nI ol) so nu op) = b_X9_opens_12 F k (ps m pp 0 e (nI dp) c (nI ol) so nu op) := by
    unfold f_X9_opens
    rcases h1 with h1 | h1
    · rw [if_pos h1]
    · rw [if_neg (by rw [h1]; decide), if_pos h1]
  have tail : ∀ f : Int32, b_X9_opens_30 F k (ps m pp f e (nI dp) c (nI ol) so nu op) = some (ps m pp f e (nI (dp + 1)) c (nI (ol + 1)) so nu (upd op ol k)) := fun f => by
    unfold b_X9_opens_30 b_X9_opens_40
    rw [show (ps m pp f e (nI dp) c (nI ol) so nu op).1 24 = nI dp from rfl, nI_1, ps_d, show (ps m pp f e (nI (dp + 1)) c (nI ol) so nu op).1 26 = nI ol from rfl, if_pos (ib_n h (by decide)), nI_clamp (by omega), nI_1, show (ps m pp f e (nI (dp + 1)) c (nI ol) so nu op).2.1 35 = op from rfl, ps_op]
  rw [go]
  unfold b_X9_opens_12
  rw [show (ps m pp 0 e (nI dp) c (nI ol) so nu op).1 24 = nI dp from rfl, show (ps m pp 0 e (nI dp) c (nI ol) so nu op).1 19 = pp from rfl]
  by_cases q : dp = 10
  · rw [if_pos (by rw [q]; rfl), if_pos q, s_fails, bd_some, if_pos rfl, tail]
  · rw [if_neg (fun z => q (by
      rw [show (10 : Int32) = nI 10 from rfl, nI_eq (by omega) (by decide)] at z
      exact z)), if_neg q, tail]
theorem lt_f {g : Nat} {w pp d o : Int32} (hf : ¬ f = 0) : lp (b_X9_test_9 F) (g + 1) (w, 1, ps m pp f e d c o so nu op) = some (ps m pp f e d c o so nu op) := by
  rw [lp_S, b_X9_test_9]
  unfold b_X9_test_201
  try dsimp only
  rw [if_neg (show ¬ (1 : Int32) = 0 by decide), show (ps m pp f e d c o so nu op).1 20 = f from rfl, if_neg hf]
theorem lt_w {g : Nat} {pp d o : Int32} : lp (b_X9_test_9 F) (g + 1) (1, 1, ps m pp 0 e d c o so nu op) = (f_X9_fact F (ps m pp 0 e d c o so nu op)).bind fun q => if q.1 = 0 then lp (b_X9_test_9 F) g (1, 1, q.2) else lp (b_X9_test_9 F) g (0, 1, q.2) := by
  rw [lp_S, b_X9_test_9]
  unfold b_X9_test_36
  try dsimp only
  rw [if_neg (show ¬ (1 : Int32) = 0 by decide), show (ps m pp 0 e d c o so nu op).1 20 = 0 from rfl, if_pos rfl, if_neg (show ¬ (1 : Int32) = 0 by decide)]
/-- behind a fact: what the reference does -/
noncomputable def NW (F g : Nat) (mo : OB) : Option OB := Option.bind (f_X9_blanks F mo) (fun q10 => (Option.bind (f_X9_stood F 16 q10) (fun q11 => (Option.bind (f_X9_stood F 15 q10) (fun q12 => (Option.bind (f_X9_answers F 10 q10) (fun q13 => (if q11 = 0 then (if q12 = 0 then (Option.bind (f_X9_answers F 11 q13) (fun q16 => (Option.bind (f_X9_top F q16) (fun q17 => (if q17 = 12 then (Option.bind (f_X9_sign F q16) (fun q19 => (if q19 = 93 then (b_X9_test_163 F (lp (b_X9_test_9 F) g) 0 1 q16) else (Option.bind (f_X9_fails F 0 (q16.1 19) q16) (fun q21 => (b_X9_test_163 F (lp (b_X9_test_9 F) g) 0 1 q21)))))) else (b_X9_test_198 F (lp (b_X9_test_9 F) g) 0 0 q16)))))) else (b_X9_test_81 F (lp (b_X9_test_9 F) g) 1 q11 q12 q13)) else (b_X9_test_81 F (lp (b_X9_test_9 F) g) 1 q11 q12 q13)))))))))
theorem lt_n {g : Nat} {pp d o : Int32} : lp (b_X9_test_9 F) (g + 1) (0, 1, ps m pp 0 e d c o so nu op) = (f_X9_answers F 9 (ps m pp 0 e d c o so nu op)).bind (NW F g) := by
  rw [lp_S, b_X9_test_9]
  unfold NW
  try dsimp only
  rw [if_neg (show ¬ (1 : Int32) = 0 by decide), show (ps m pp 0 e d c o so nu op).1 20 = 0 from rfl, if_pos rfl, if_pos rfl]
end ST
section TS
variable {F : Nat} {m x y : OB} {L s n : Nat}
theorem sk_sk {B : Nat → Int32} {L p : Nat} : sk B L (sk B L p) = sk B L p := re_f (re_out sB_out _ p rfl)
theorem s_st {p w : Nat} {f e d c o : Int32} {so nu op : Nat → Int32} {k : Int32} (hr : RB m L s) (hF : 600 ≤ F) (hp : p ≤ L) (hw : w < 18) (hk : nI (260 + w) = k) : f_X9_stood F w (ps m (nI p) f e d c o so nu op) = some (if lexK (m.2.1 28) L p = k then 1 else 0) := by
  rw [s_stood hr hF hp hw (xl_pos hw), ← hk]
  by_cases q : isW (m.2.1 28) L p (re (lB (m.2.1 28) L) L p) w = true
  · rw [if_pos q, if_pos ((lexK_w hw).mpr q)]
  · rw [if_neg q, if_neg (fun z => q ((lexK_w hw).mp z))]
theorem s_fact {p : Nat} {e d c o : Int32} {so nu op : Nat → Int32} (hr : RB m L s) (hF : 600 ≤ F) (hp : p ≤ L) : f_X9_fact F (ps m (nI p) 0 e d c o so nu op) = if lexK (m.2.1 28) L (sk (m.2.1 28) L p) = 277 then (f_X9_opens F 9 (ps m (nI (sk (m.2.1 28) L p)) 0 e d c o so nu op)).bind (fun q8 => some (0, ((uF q8.1 19 ((q8.1 19) + 3)), q8.2.1, q8.2.2))) else if lexK (m.2.1 28) L (sk (m.2.1 28) L p) = 91 then (f_X9_opens F 12 (ps m (nI (sk (m.2.1 28) L p)) 0 e d c o so nu op)).bind (fun q7 => some (0, ((uF q7.1 19 ((q7.1 19) + 1)), q7.2.1, q7.2.2))) else (f_X9_compared F (ps m (nI (sk (m.2.1 28) L p)) 0 e d c o so nu op)).bind (fun q6 => some (1, q6)) := by
  have h4 := hr.2.1
  have hi := sk_le (B := m.2.1 28) hp
  unfold f_X9_fact
  rw [s_blanks hr hF hp, bd_some, s_st (k := 277) hr hF hi (by decide) rfl, bd_some, s_sign hr (by omega), bd_some]
  by_cases h1 : lexK (m.2.1 28) L (sk (m.2.1 28) L p) = 277
  · rw [if_pos h1, if_neg (show ¬ (1 : Int32) = 0 by decide), if_pos h1]
  · rw [if_neg h1, if_pos rfl, if_neg h1]
    by_cases h2 : cb (m.2.1 28) L (sk (m.2.1 28) L p) = 91
    · rw [if_pos h2, if_pos ((lexK_s (by decide)).mpr h2)]
    · rw [if_neg h2, if_neg (fun z => h2 ((lexK_s (by decide)).mp z))]
/-- what the reference's stack has on top of the test's own bottom -/
noncomputable def Stk (op : Nat → Int32) (ol : Nat) (e b : Bool) : Prop := (ol = 0 ∨ op (ol - 1) = 12) ∧ (e = true → op ol = 11) ∧ (b = true → op (ol + e.toNat) = 10)
theorem Stk.a {op : Nat → Int32} {ol : Nat} {e b : Bool} (h : Stk op ol e b) : ol + e.toNat = 0 ∨ ¬ op (ol + e.toNat - 1) = 10 := by
  cases e with
  | true =>
    refine Or.inr ?_
    show ¬ op (ol + 1 - 1) = 10
    rw [show ol + 1 - 1 = ol from rfl, h.2.1 rfl]
    decide
  | false =>
    rcases h.1 with q | q
    · exact Or.inl q
    · refine Or.inr ?_
      show ¬ op (ol + 0 - 1) = 10
      rw [Nat.add_zero, q]
      decide
theorem Stk.o {op : Nat → Int32} {ol : Nat} {e b : Bool} (h : Stk op ol e b) : ol = 0 ∨ ¬ op (ol - 1) = 11 := h.1.imp id (fun q => by rw [q]; decide)
theorem Stk.no {op : Nat → Int32} {ol : Nat} {e b : Bool} (h : Stk op ol e b) : ol + e.toNat + b.toNat = 0 ∨ ¬ op (ol + e.toNat + b.toNat - 1) = 9 := by
  cases b with
  | true =>
    refine Or.inr ?_
    show ¬ op (ol + e.toNat + 1 - 1) = 9
    rw [show ol + e.toNat + 1 - 1 = ol + e.toNat from rfl, h.2.2 rfl]
    decide
  | false =>
    cases e with
    | true =>
      refine Or.inr ?_
      show ¬ op (ol + 1 + 0 - 1) = 9
      rw [show ol + 1 + 0 - 1 = ol from rfl, h.2.1 rfl]
      decide
    | false =>
      rcases h.1 with q | q
      · exact Or.inl q
      · refine Or.inr ?_
        show ¬ op (ol + 0 + 0 - 1) = 9
        rw [show ol + 0 + 0 - 1 = ol - 1 from rfl, q]
        decide
noncomputable abbrev uB (b : Bool) (f : Nat → Int32) (i : Nat) (v : Int32) : Nat → Int32 := if b = true then upd f i v else f
theorem nw_st {g p len dp ol : Nat} {c : Int32} {e b : Bool} {so nu op : Nat → Int32} (hr : RB m L s) (hF : 600 ≤ F) (hp : p ≤ L) (hl : len + 2 ≤ 300) (ho : ol + 2 ≤ 402) (hS : Stk op ol e b) : NW F g (ps m (nI p) 0 (nI len) (nI dp) c (nI (ol + e.toNat + b.toNat)) so nu op) =
    if lexK (m.2.1 28) L (sk (m.2.1 28) L p) = 276 then lp (b_X9_test_9 F) g (1, 1, ps m (nI (sk (m.2.1 28) L p + 3)) 0 (nI (len + b.toNat)) (nI dp) c (nI (ol + e.toNat + 1)) (uB b so (300 * s + len) 10) (uB b nu (300 * s + len) 0) (upd op (ol + e.toNat) 10))
    else if lexK (m.2.1 28) L (sk (m.2.1 28) L p) = 275 then lp (b_X9_test_9 F) g (1, 1, ps m (nI (sk (m.2.1 28) L p + 2)) 0 (nI (len + b.toNat + e.toNat)) (nI dp) c (nI (ol + 1)) (uB e (uB b so (300 * s + len) 10) (300 * s + (len + b.toNat)) 11) (uB e (uB b nu (300 * s + len) 0) (300 * s + (len + b.toNat)) 0) (upd op ol 11))
    else if ol = 0 then lp (b_X9_test_9 F) g (0, 0, ps m (nI (sk (m.2.1 28) L p)) 0 (nI (len + b.toNat + e.toNat)) (nI dp) c (nI ol) (uB e (uB b so (300 * s + len) 10) (300 * s + (len + b.toNat)) 11) (uB e (uB b nu (300 * s + len) 0) (300 * s + (len + b.toNat)) 0) op)
    else lp (b_X9_test_9 F) g (0, 1, ps m (nI (sk (m.2.1 28) L p + 1)) (if cb (m.2.1 28) L (sk (m.2.1 28) L p) = 93 then 0 else 1 + 8 * nI (sk (m.2.1 28) L p) + 0) (nI (len + b.toNat + e.toNat)) (nI dp - 1) c (nI ol - 1) (uB e (uB b so (300 * s + len) 10) (300 * s + (len + b.toNat)) 11) (uB e (uB b nu (300 * s + len) 0) (300 * s + (len + b.toNat)) 0) op) := by
  have h4 := hr.2.1
  have hi := sk_le (B := m.2.1 28) hp
  have be : b.toNat ≤ 1 := Bool.toNat_le b
  have ee : e.toNat ≤ 1 := Bool.toNat_le e
  unfold NW
  rw [s_blanks hr hF hp, bd_some, s_st (k := 276) hr hF hi (by decide) rfl, bd_some, s_st (k := 275) hr hF hi (by decide) rfl, bd_some, ans_one (b := b) hr hF (by decide) (by decide) (by omega) (by omega) hS.2.2 hS.a, bd_some]
  by_cases h1 : lexK (m.2.1 28) L (sk (m.2.1 28) L p) = 276
  · have h2 : ¬ lexK (m.2.1 28) L (sk (m.2.1 28) L p) = 275 := by
      rw [h1]
      decide
    rw [if_pos h1, if_neg (show ¬ (1 : Int32) = 0 by decide), if_neg h2, if_pos h1]
    unfold b_X9_test_81 b_X9_test_92 b_X9_test_104 b_X9_test_121 b_X9_test_198
    rw [if_pos rfl, if_neg (show ¬ (1 : Int32) = 0 by decide), s_op2 (by decide) (by decide) (by omega), bd_some, if_neg (show ¬ (1 : Int32) = 0 by decide)]
    rw [show ∀ (e c o : Int32) (so nu op : Nat → Int32), (ps m (nI (sk (m.2.1 28) L p)) 0 e (nI dp) c o so nu op).1 19 = nI (sk (m.2.1 28) L p) from fun _ _ _ _ _ _ => rfl, show (3 : Int32) = nI 3 from rfl, nI_add, ps_p]
  · rw [if_neg h1, if_pos rfl, if_neg h1]
    by_cases h2 : lexK (m.2.1 28) L (sk (m.2.1 28) L p) = 275
    · rw [if_pos h2, if_neg (show ¬ (1 : Int32) = 0 by decide), if_pos h2]
      unfold b_X9_test_81 b_X9_test_92 b_X9_test_104 b_X9_test_121 b_X9_test_198
      rw [if_neg (show ¬ (1 : Int32) = 0 by decide), ans_one (b := e) hr hF (by decide) (by decide) (by omega) (by omega) hS.2.1 hS.o, bd_some, if_pos rfl, s_op2 (by decide) (by decide) (by omega), bd_some, if_pos rfl]
      rw [show ∀ (e c o : Int32) (so nu op : Nat → Int32), (ps m (nI (sk (m.2.1 28) L p)) 0 e (nI dp) c o so nu op).1 19 = nI (sk (m.2.1 28) L p) from fun _ _ _ _ _ _ => rfl, show (2 : Int32) = nI 2 from rfl, nI_add, ps_p]
    · rw [if_neg h2, if_pos rfl, if_neg h2, ans_one (b := e) hr hF (by decide) (by decide) (by omega) (by omega) hS.2.1 hS.o, bd_some, s_top (by omega), bd_some]
      by_cases h0 : ol = 0
      · rw [if_pos h0, if_neg (show ¬ (-1 : Int32) = 12 by decide), if_pos h0]
        rfl
      · rw [if_neg h0, if_neg h0, if_pos (hS.1.resolve_left h0), s_sign hr (by omega), bd_some]
        unfold b_X9_test_163 b_X9_test_198
        by_cases h3 : cb (m.2.1 28) L (sk (m.2.1 28) L p) = 93
        · rw [if_pos h3, if_pos h3, ps_pdo]
          rw [show ∀ (e c o : Int32) (so nu op : Nat → Int32), (ps m (nI (sk (m.2.1 28) L p)) 0 e (nI dp) c o so nu op).1 19 = nI (sk (m.2.1 28) L p) from fun _ _ _ _ _ _ => rfl, nI_1]
          rfl
        · rw [if_neg h3, if_neg h3, s_fails, bd_some, if_pos rfl, ps_pdo]
          rw [show ∀ (f e c o : Int32) (so nu op : Nat → Int32), (ps m (nI (sk (m.2.1 28) L p)) f e (nI dp) c o so nu op).1 19 = nI (sk (m.2.1 28) L p) from fun _ _ _ _ _ _ _ => rfl, nI_1]
          rfl
/-- a fact, or a test, is read by both -/
noncomputable def GoodF (F : Nat) (m x y : OB) (L s n i u len q l0 dp ol : Nat) (op st so nu : Nat → Int32) (E : Nat → Prop) (rc : Option (Int32 × OB × OB)) (rr : Nat → Option OB) : Prop := ∃ (i2 t2 p2 u2 len2 k : Nat) (st2 so2 nu2 op2 : Nat → Int32), At L x n t2 i2 ∧ i < i2 ∧ p2 ≤ L ∧ sk (m.2.1 28) L p2 = i2 ∧ u < u2 ∧ u2 ≤ 60 ∧ 3 * (len2 + q) ≤ 14 * u2 ∧ len < len2 ∧ CE s len2 st2 so2 nu2 ∧ FrS s so so2 ∧ FrS s nu nu2 ∧ (∀ j, j < len → st2 j = st j) ∧ Seg false st2 l0 len2 1 ∧ (∀ j, j < ol → op2 j = op j) ∧ k ≤ 2 * (i2 - i) ∧ E i2 ∧ rc = some (1, tpa x (nI t2) 0, rus y (nI len2) (nI u2) st2) ∧ ∀ g, rr (g + 1 + k) = lp (b_X9_test_9 F) (g + 1) (0, 1, ps m (nI p2) 0 (nI len2) (nI dp) (nI u2) (nI ol) so2 nu2 op2)
noncomputable def BadF (m x : OB) (L s i : Nat) (so nu : Nat → Int32) (rc : Option (Int32 × OB × OB)) (rr : Nat → Option OB) : Prop := ∃ (φ p2 k : Nat) (e2 d2 c2 o2 t2 : Int32) (so2 nu2 op2 : Nat → Int32) (ru2 : OB), 0 < φ ∧ φ < 4000 ∧ p2 ≤ L + 1 ∧ FrS s so so2 ∧ FrS s nu nu2 ∧ k ≤ 2 * (L - i) + 4 ∧ rc = some (0, tpa x t2 (nI φ), ru2) ∧ ∀ g, rr (g + k) = some (ps m (nI p2) (nI φ) e2 d2 c2 o2 so2 nu2 op2)
noncomputable def FactP (F : Nat) (m x y : OB) (L s n N dp : Nat) : Prop := ∀ (i t p u len q ol : Nat) (st so nu op : Nat → Int32), At L x n t i → p ≤ L → sk (m.2.1 28) L p = i → u ≤ 60 → CE s len st so nu → 3 * (len + q) ≤ 14 * u + 3 * dp + 3 → ol ≤ q + dp → BadF m x L s i so nu (f_RF N F (nI dp) (tpa x (nI t) 0) (rus y (nI len) (nI u) st)) (fun g => lp (b_X9_test_9 F) g (1, 1, ps m (nI p) 0 (nI len) (nI dp) (nI u) (nI ol) so nu op)) ∨ GoodF F m x y L s n i u len q len dp ol op st so nu (fun _ => True) (f_RF N F (nI dp) (tpa x (nI t) 0) (rus y (nI len) (nI u) st)) (fun g => lp (b_X9_test_9 F) g (1, 1, ps m (nI p) 0 (nI len) (nI dp) (nI u) (nI ol) so nu op))
noncomputable abbrev bi (b : Bool) : Int32 := if b = true then 1 else 0
noncomputable def TestP (F : Nat) (m x y : OB) (L s n N dp : Nat) : Prop := ∀ (l0 : Nat) (M i t p u len q ol cnt fc : Nat) (e b : Bool) (st so nu op : Nat → Int32), L - i < M → At L x n t i → p ≤ L → sk (m.2.1 28) L p = i → u ≤ 60 → CE s len st so nu → 3 * (len + q + e.toNat + b.toNat) ≤ 14 * u + 3 * dp + 3 → ol ≤ q + dp → Stk op ol e b → 2 * cnt ≤ i → L - i < fc → Seg false st l0 len (e.toNat + b.toNat) → BadF m x L s i so nu (lp (b_X5_readTest_o_8 F (f_RF N)) fc (nI dp, bi e, bi b, nI cnt, tpa x (nI t) 0, rus y (nI len) (nI u) st)) (fun g => lp (b_X9_test_9 F) g (1, 1, ps m (nI p) 0 (nI len) (nI dp) (nI u) (nI (ol + e.toNat + b.toNat)) so nu op)) ∨ GoodF F m x y L s n i u len q l0 dp ol op st so nu (fun i2 => ¬ lexK (m.2.1 28) L i2 = 276 ∧ ¬ lexK (m.2.1 28) L i2 = 275) (lp (b_X5_readTest_o_8 F (f_RF N)) fc (nI dp, bi e, bi b, nI cnt, tpa x (nI t) 0, rus y (nI len) (nI u) st)) (fun g => lp (b_X9_test_9 F) g (1, 1, ps m (nI p) 0 (nI len) (nI dp) (nI u) (nI (ol + e.toNat + b.toNat)) so nu op))
theorem ceB {len : Nat} {st so nu : Nat → Int32} {b : Bool} {a k : Int32} (h : CE s len st so nu) (hv : VE a 0) (hk : k = tr a 0) : CE s (len + b.toNat) (uB b st len k) (uB b so (300 * s + len) a) (uB b nu (300 * s + len) 0) := by
  cases b with
  | false => exact h
  | true => exact h.app hv hk
theorem frB {so so1 : Nat → Int32} {len : Nat} {b : Bool} {v : Int32} (h : FrS s so so1) (hl : len < 300) : FrS s so (uB b so1 (300 * s + len) v) := by
  cases b with
  | false => exact h
  | true => exact h.up hl
theorem uB_lt {f : Nat → Int32} {i j : Nat} {b : Bool} {v : Int32} (h : j < i) : uB b f i v j = f j := by
  cases b with
  | false => rfl
  | true => exact pk_un (by omega)
theorem sgB {st : Nat → Int32} {a len j : Nat} {b : Bool} {k : Int32} (h : Seg false st a len (j + b.toNat + 1)) (hk : loK k) : Seg false (uB b st len k) a (len + b.toNat) (j + 1) := by
  cases b with
  | false => exact h
  | true => exact Seg.b h hk
theorem c_addB {len : Nat} {u k : Int32} {st : Nat → Int32} {b : Bool} (h : len < 400) {α : Type} {G : OB → Option α} : (if bi b = 0 then G (rus y (nI len) u st) else Option.bind (f_X4_add F k (rus y (nI len) u st)) G) = G (rus y (nI (len + b.toNat)) u (uB b st len k)) := by
  cases b with
  | false => exact if_pos rfl
  | true =>
    rw [if_neg (by decide), s_add h, bd_some]
    rfl
theorem at_sk {B : Nat → Int32} {t i : Nat} (h : TX B L x n) (a : At L x n t i) : sk B L i = i := by
  obtain ⟨h1, h2, h4, hn, h5, h6, h3⟩ := h
  obtain ⟨a1, a2, a3⟩ := a
  cases t with
  | zero =>
    rw [h6] at a3
    have e := (nI_eq (show sk B L 0 < 2 ^ 31 by have := sk_le (B := B) (L := L) (p := 0) (Nat.zero_le _); omega) (by omega)).mp a3
    rw [← e]
    exact sk_sk
  | succ t =>
    obtain ⟨q, q1, q2, q3, q4, q5, q6⟩ := h3 t (Nat.zero_le _) (by omega)
    have hq : q < L := by
      by_cases z : q = L
      · exact absurd (q5 z) (by omega)
      · omega
    rw [(q6 hq).2] at a3
    have hE := (lexE_gt (B := B) hq).2
    have e := (nI_eq (show sk B L (lexE B L q) < 2 ^ 31 by have := sk_le (B := B) hE; omega) (by omega)).mp a3
    rw [← e]
    exact sk_sk
theorem stk_of {op op2 : Nat → Int32} {ol : Nat} {e b : Bool} (h : Stk op ol e b) (q : ∀ j, j < ol + e.toNat + b.toNat → op2 j = op j) : Stk op2 ol e b := by
  refine ⟨?_, fun he => ?_, fun hb => ?_⟩
  · rcases h.1 with z | z
    · exact Or.inl z
    · by_cases h0 : ol = 0
      · exact Or.inl h0
      · exact Or.inr (by rw [q _ (by omega)]; exact z)
  · rw [q ol (by rw [he]; show ol < ol + 1 + _; omega)]
    exact h.2.1 he
  · rw [q _ (by rw [hb]; show ol + e.toNat < ol + e.toNat + 1; omega)]
    exact h.2.2 hb
theorem test_sim {N dp : Nat} (hr : RB m L s) (hF : 1000 ≤ F) (hx : TX (m.2.1 28) L x n) (hfact : FactP F m x y L s n N dp) (hdp : dp ≤ 10) : TestP F m x y L s n N dp := by
  intro l0 M
  induction M with
  | zero => intro i t p u len q ol cnt fc e b st so nu op h; exact absurd h (by omega)
  | succ M ih =>
    intro i t p u len q ol cnt fc e b st so nu op hM ha hp hk hu hc hb ho hS hcnt hfc hseg
    have h4 := hr.2.1
    have hi := ha.2.1
    have be : b.toNat ≤ 1 := Bool.toNat_le b
    have ee : e.toNat ≤ 1 := Bool.toNat_le e
    obtain ⟨g, rfl⟩ : ∃ g, fc = g + 1 := ⟨fc - 1, by omega⟩
    rw [lp_S, b_X5_readTest_o_8]
    try dsimp only
    rw [if_neg (show ¬ (400 : Int32) ≤ nI cnt from by
      rw [sp_le, nI_toInt (by omega), show (400 : Int32).toInt = 400 from by decide]
      omega)]
    rcases hfact i t p u len (q + e.toNat + b.toNat) (ol + e.toNat + b.toNat) st so nu op ha hp hk hu hc (by omega) (by omega) with hq | hq
    · obtain ⟨φ, p2, k, e2, d2, c2, o2, t2, so2, nu2, op2, ru2, a1, a2, a3, a4, a5, a6, a7, a8⟩ := hq
      rw [a7, bd_some, if_pos rfl]
      exact Or.inl ⟨φ, p2, k, e2, d2, c2, o2, t2, so2, nu2, op2, ru2, a1, a2, a3, a4, a5, a6, rfl, a8⟩
    · obtain ⟨i2, t2, p2, u2, len2, k, st2, so2, nu2, op2, a1, a2, a3, a4, a5, a6, a7, a8, a9, a10, a11, a12, a13, a14, a15, _, a16, a17⟩ := hq
      have hi2 := a1.2.1
      have hS2 : Stk op2 ol e b := stk_of hS a14
      rw [a16, bd_some]
      try dsimp only
      rw [if_neg (show ¬ (1 : Int32) = 0 by decide)]
      have e9 := c_addB (F := F) (y := y) (len := len2) (u := nI u2) (k := 276) (st := st2) (b := b) (by omega) (G := fun ru => b_X5_readTest_o_39 F (f_RF N) (lp (b_X5_readTest_o_8 F (f_RF N)) g) (nI dp) (bi e) (nI cnt) (tpa x (nI t2) 0) ru)
      try dsimp only at e9
      rw [e9]
      have c3 : CE s (len2 + b.toNat) (uB b st2 len2 276) (uB b so2 (300 * s + len2) 10) (uB b nu2 (300 * s + len2) 0) := ceB a9 (VE_lit (q := 10) (by decide) rfl) (by decide)
      have s2 : Seg false st2 l0 len2 (e.toNat + b.toNat + 1) := (hseg.cg (fun j _ hj => a12 j hj)).tr a13
      have s3 : Seg false (uB b st2 len2 276) l0 (len2 + b.toNat) (e.toNat + 1) := sgB s2 (show loK 276 by decide)
      have f3 : FrS s so (uB b so2 (300 * s + len2) 10) := frB a10 (by omega)
      have g3 : FrS s nu (uB b nu2 (300 * s + len2) 0) := frB a11 (by omega)
      have c4 : CE s (len2 + b.toNat + e.toNat) (uB e (uB b st2 len2 276) (len2 + b.toNat) 275) (uB e (uB b so2 (300 * s + len2) 10) (300 * s + (len2 + b.toNat)) 11) (uB e (uB b nu2 (300 * s + len2) 0) (300 * s + (len2 + b.toNat)) 0) := ceB c3 (VE_lit (q := 11) (by decide) rfl) (by decide)
      have s4 : Seg false (uB e (uB b st2 len2 276) (len2 + b.toNat) 275) l0 (len2 + b.toNat + e.toNat) 1 := sgB (j := 0) (by rw [Nat.zero_add]; exact s3) (show loK 275 by decide)
      have f4 : FrS s so (uB e (uB b so2 (300 * s + len2) 10) (300 * s + (len2 + b.toNat)) 11) := frB f3 (by omega)
      have g4 : FrS s nu (uB e (uB b nu2 (300 * s + len2) 0) (300 * s + (len2 + b.toNat)) 0) := frB g3 (by omega)
      have t3 : ∀ j, j < len → (uB b st2 len2 276) j = st j := fun j hj => (uB_lt (by omega)).trans (a12 j hj)
      have t4 : ∀ j, j < len → (uB e (uB b st2 len2 276) (len2 + b.toNat) 275) j = st j := fun j hj => (uB_lt (by omega)).trans (t3 j hj)
      have nw : ∀ g', lp (b_X9_test_9 F) (g' + 1 + k) (1, 1, ps m (nI p) 0 (nI len) (nI dp) (nI u) (nI (ol + e.toNat + b.toNat)) so nu op) = _ := fun g' => by
        refine (a17 g').trans ?_
        rw [lt_n, ans_no (by decide) (by omega) (by omega) hS2.no, bd_some, nw_st hr (by omega) a3 (by omega) (by omega) hS2, a4]
      unfold b_X5_readTest_o_39 b_X5_readTest_o_64 b_X5_readTest_o_78
      rw [s_take hx a1 (by decide), nI_1]
      by_cases hA : lexK (m.2.1 28) L i2 = 276
      · have hW := (lexK_w (B := m.2.1 28) (L := L) (i := i2) (w := 16) (by decide)).mp hA
        obtain ⟨hE, hlet⟩ := isW_end (by decide) hW
        have hE : lexE (m.2.1 28) L i2 = i2 + 3 := hE
        have hl2 : i2 < L := by
          by_cases z : i2 < L
          · exact z
          · rw [lB_out i2 (by omega)] at hlet
            cases hlet
        have hE2 := lexE_gt (B := m.2.1 28) hl2
        have hAt := (a1.at hx).2.2.2 hl2
        rw [hE] at hAt hE2
        have hsk := sk_ge (B := m.2.1 28) (L := L) (p := i2 + 3) (by omega)
        rw [if_pos hA, bd_some]
        try dsimp only
        rw [if_neg (show ¬ (1 : Int32) = 0 by decide)]
        have hS3 : Stk (upd op2 (ol + e.toNat) 10) ol e true := by
          refine ⟨?_, fun he => ?_, fun _ => pk_us⟩
          · rcases hS2.1 with z | z
            · exact Or.inl z
            · by_cases h0 : ol = 0
              · exact Or.inl h0
              · exact Or.inr (by rw [pk_un (by omega)]; exact z)
          · rw [pk_un (by rw [he]; show ol ≠ ol + 1; omega)]
            exact hS2.2.1 he
        have hq := ih (sk (m.2.1 28) L (i2 + 3)) (t2 + 1) (i2 + 3) u2 (len2 + b.toNat) q ol (cnt + 1) g e true (uB b st2 len2 276) (uB b so2 (300 * s + len2) 10) (uB b nu2 (300 * s + len2) 0) (upd op2 (ol + e.toNat) 10) (by omega) hAt (by omega) rfl a6 c3 (by show 3 * (_ + _ + _ + 1) ≤ _; omega) ho hS3 (by omega) (by omega) s3
        have nw2 : ∀ g', lp (b_X9_test_9 F) (g' + 1 + k) (1, 1, ps m (nI p) 0 (nI len) (nI dp) (nI u) (nI (ol + e.toNat + b.toNat)) so nu op) = lp (b_X9_test_9 F) g' (1, 1, ps m (nI (i2 + 3)) 0 (nI (len2 + b.toNat)) (nI dp) (nI u2) (nI (ol + e.toNat + 1)) (uB b so2 (300 * s + len2) 10) (uB b nu2 (300 * s + len2) 0) (upd op2 (ol + e.toNat) 10)) := fun g' => by
          rw [nw g', if_pos hA]
        rcases hq with hq | hq
        · obtain ⟨φ, p5, k5, e5, d5, c5, o5, t5, so5, nu5, op5, ru5, b1, b2, b3, b4, b5, b6, b7, b8⟩ := hq
          refine Or.inl ⟨φ, p5, k5 + 1 + k, e5, d5, c5, o5, t5, so5, nu5, op5, ru5, b1, b2, b3, f3.tr b4, g3.tr b5, by omega, b7, fun g' => ?_⟩
          rw [show g' + (k5 + 1 + k) = (g' + k5) + 1 + k from by omega]
          exact (nw2 (g' + k5)).trans (b8 g')
        · obtain ⟨i5, t5, p5, u5, len5, k5, st5, so5, nu5, op5, b1, b2, b3, b4, b5, b6, b7, b8, b9, b10, b11, b12, b13, b14, b15, b16, b17, b18⟩ := hq
          refine Or.inr ⟨i5, t5, p5, u5, len5, k5 + 1 + k, st5, so5, nu5, op5, b1, by omega, b3, b4, by omega, b6, b7, by omega, b9, f3.tr b10, g3.tr b11, fun j hj => (b12 j (by omega)).trans (t3 j hj), b13, fun j hj => ?_, by omega, b16, b17, fun g' => ?_⟩
          · rw [b14 j hj, pk_un (by omega), a14 j (by omega)]
          · rw [show g' + 1 + (k5 + 1 + k) = (g' + 1 + k5) + 1 + k from by omega]
            exact (nw2 (g' + 1 + k5)).trans (b18 g')
      · rw [if_neg hA, bd_some]
        try dsimp only
        rw [if_pos rfl]
        have e8 := c_addB (F := F) (y := y) (len := len2 + b.toNat) (u := nI u2) (k := 275) (st := uB b st2 len2 276) (b := e) (by omega) (G := fun ru => Option.bind (f_X7_take F 275 (tpa x (nI t2) 0)) (fun q1 => (if q1.1 = 0 then (some (1, q1.2, ru)) else (lp (b_X5_readTest_o_8 F (f_RF N)) g (nI dp, q1.1, 0, nI (cnt + 1), q1.2, ru)))))
        try dsimp only at e8
        rw [e8, s_take hx a1 (by decide)]
        by_cases hO : lexK (m.2.1 28) L i2 = 275
        · have hW := (lexK_w (B := m.2.1 28) (L := L) (i := i2) (w := 15) (by decide)).mp hO
          obtain ⟨hE, hlet⟩ := isW_end (by decide) hW
          have hE : lexE (m.2.1 28) L i2 = i2 + 2 := hE
          have hl2 : i2 < L := by
            by_cases z : i2 < L
            · exact z
            · rw [lB_out i2 (by omega)] at hlet
              cases hlet
          have hE2 := lexE_gt (B := m.2.1 28) hl2
          have hAt := (a1.at hx).2.2.2 hl2
          rw [hE] at hAt hE2
          have hsk := sk_ge (B := m.2.1 28) (L := L) (p := i2 + 2) (by omega)
          rw [if_pos hO, bd_some]
          try dsimp only
          rw [if_neg (show ¬ (1 : Int32) = 0 by decide)]
          have hS3 : Stk (upd op2 ol 11) ol true false := by
            refine ⟨?_, fun _ => pk_us, fun h => by cases h⟩
            rcases hS2.1 with z | z
            · exact Or.inl z
            · by_cases h0 : ol = 0
              · exact Or.inl h0
              · exact Or.inr (by rw [pk_un (by omega)]; exact z)
          have hq := ih (sk (m.2.1 28) L (i2 + 2)) (t2 + 1) (i2 + 2) u2 (len2 + b.toNat + e.toNat) q ol (cnt + 1) g true false (uB e (uB b st2 len2 276) (len2 + b.toNat) 275) (uB e (uB b so2 (300 * s + len2) 10) (300 * s + (len2 + b.toNat)) 11) (uB e (uB b nu2 (300 * s + len2) 0) (300 * s + (len2 + b.toNat)) 0) (upd op2 ol 11) (by omega) hAt (by omega) rfl a6 c4 (by show 3 * (_ + _ + 1 + 0) ≤ _; omega) ho hS3 (by omega) (by omega) s4
          have nw2 : ∀ g', lp (b_X9_test_9 F) (g' + 1 + k) (1, 1, ps m (nI p) 0 (nI len) (nI dp) (nI u) (nI (ol + e.toNat + b.toNat)) so nu op) = lp (b_X9_test_9 F) g' (1, 1, ps m (nI (i2 + 2)) 0 (nI (len2 + b.toNat + e.toNat)) (nI dp) (nI u2) (nI (ol + 1)) (uB e (uB b so2 (300 * s + len2) 10) (300 * s + (len2 + b.toNat)) 11) (uB e (uB b nu2 (300 * s + len2) 0) (300 * s + (len2 + b.toNat)) 0) (upd op2 ol 11)) := fun g' => by
            rw [nw g', if_neg hA, if_pos hO]
          rcases hq with hq | hq
          · obtain ⟨φ, p5, k5, e5, d5, c5, o5, t5, so5, nu5, op5, ru5, b1, b2, b3, b4, b5, b6, b7, b8⟩ := hq
            refine Or.inl ⟨φ, p5, k5 + 1 + k, e5, d5, c5, o5, t5, so5, nu5, op5, ru5, b1, b2, b3, f4.tr b4, g4.tr b5, by omega, b7, fun g' => ?_⟩
            rw [show g' + (k5 + 1 + k) = (g' + k5) + 1 + k from by omega]
            exact (nw2 (g' + k5)).trans (b8 g')
          · obtain ⟨i5, t5, p5, u5, len5, k5, st5, so5, nu5, op5, b1, b2, b3, b4, b5, b6, b7, b8, b9, b10, b11, b12, b13, b14, b15, b16, b17, b18⟩ := hq
            refine Or.inr ⟨i5, t5, p5, u5, len5, k5 + 1 + k, st5, so5, nu5, op5, b1, by omega, b3, b4, by omega, b6, b7, by omega, b9, f4.tr b10, g4.tr b11, fun j hj => (b12 j (by omega)).trans (t4 j hj), b13, fun j hj => ?_, by omega, b16, b17, fun g' => ?_⟩
            · rw [b14 j hj, pk_un (by omega), a14 j (by omega)]
            · rw [show g' + 1 + (k5 + 1 + k) = (g' + 1 + k5) + 1 + k from by omega]
              exact (nw2 (g' + 1 + k5)).trans (b18 g')
        · rw [if_neg hO, bd_some]
          try dsimp only
          rw [if_pos rfl]
          refine Or.inr ⟨i2, t2, p2, u2, len2 + b.toNat + e.toNat, k, _, _, _, op2, a1, by omega, a3, a4, by omega, a6, by omega, by omega, c4, f4, g4, t4, s4, fun j hj => a14 j (by omega), a15, ⟨hA, hO⟩, rfl, fun g' => ?_⟩
          have hS0 : Stk op2 ol false false := ⟨hS2.1, (fun h => by cases h), (fun h => by cases h)⟩
          refine (nw g').trans ?_
          rw [if_neg hA, if_neg hO]
          have z0 := nw_st (F := F) (g := g') (p := p2) (len := len2 + b.toNat + e.toNat) (dp := dp) (ol := ol) (c := nI u2) (e := false) (b := false) (so := uB e (uB b so2 (300 * s + len2) 10) (300 * s + (len2 + b.toNat)) 11) (nu := uB e (uB b nu2 (300 * s + len2) 0) (300 * s + (len2 + b.toNat)) 0) (op := op2) hr (by omega) a3 (by omega) (by omega) hS0
          rw [a4, if_neg hA, if_neg hO] at z0
          rw [lt_n, ans_no (ol := ol) (by decide) (by omega) (by omega) (show ol = 0 ∨ ¬ op2 (ol - 1) = 9 from hS0.no), bd_some]
          exact z0.symm
end TS
