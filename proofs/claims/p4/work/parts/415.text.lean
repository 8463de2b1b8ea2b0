/-! texts -/
def strF_i (A : Nat → Prop) (a t n : Nat) (U : State) (H : Heap) : Prop := va_O "java/lang/String" a A U H ∧ va_OF "java/lang/String" "coder" "B" (.int 0) a A U H ∧ va_OF "java/lang/String" "value" "[B" (.ref t) a A U H ∧ ∃ f : Nat → Int32, va_T .byte t n (fun j => .int (f j)) A U H
theorem strF_i.to {A B : Nat → Prop} {a t n : Nat} {s U : State} {H : Heap} {locs : List Loc} (h : strF_i A a t n s s.heap) (hS : va_S A s.heap H locs) (hF : ∀ q, B q → A q) (hvm : s.vm.Alike U.vm) : strF_i B a t n U H := ⟨((h.1.kept hS.2.1).narrow hF).moved hvm, ((h.2.1.kept hS.2.1).narrow hF).moved hvm, ((h.2.2.1.kept hS.2.1).narrow hF).moved hvm, h.2.2.2.elim (fun f hf => ⟨f, ((hf.kept hS.2.1).narrow hF).moved hvm⟩)⟩
def ES_i (a t n : Nat) (A : Nat → Prop) (U : State) : Prop := cmpF A U U.heap ∧ strF_i A a t n U U.heap ∧ fmtF A U U.heap
theorem ES_i.ok (a t n : Nat) : EOk (ES_i a t n) := ⟨fun A U g mk ar h => ⟨cmpF.to (U := U.calling g mk ar) h.1 (va_S.rf (A := A)) (fun _ q => q) (Vm.Alike.refl U.vm), strF_i.to (U := U.calling g mk ar) h.2.1 (va_S.rf (A := A)) (fun _ q => q) (Vm.Alike.refl U.vm), fmtF.to (U := U.calling g mk ar) h.2.2 (va_S.rf (A := A)) (fun _ q => q) (Vm.Alike.refl U.vm)⟩, fun A B s U H locs h hS hF hU hW => by
  subst hU
  exact ⟨cmpF.to h.1 hS hF hW.alike, strF_i.to h.2.1 hS hF hW.alike, fmtF.to h.2.2 hS hF hW.alike⟩⟩
def EB_i (t n : Nat) (A : Nat → Prop) (U : State) : Prop := (∃ f : Nat → Int32, va_T .byte t n (fun j => .int (f j)) A U U.heap) ∧ fmtF A U U.heap
theorem EB_i.ok (t n : Nat) : EOk (EB_i t n) := ⟨fun A U g mk ar h => ⟨h.1.elim (fun f hf => ⟨f, hf.moved (U := U.calling g mk ar) (Vm.Alike.refl U.vm)⟩), fmtF.to (U := U.calling g mk ar) h.2 (va_S.rf (A := A)) (fun _ q => q) (Vm.Alike.refl U.vm)⟩, fun A B s U H locs h hS hF hU hW => by
  subst hU
  exact ⟨h.1.elim (fun f hf => ⟨f, ((hf.kept hS.2.1).narrow hF).moved hW.alike⟩), fmtF.to h.2 hS hF hW.alike⟩⟩
def EX_i (ad tv : Nat → Nat) (A : Nat → Prop) (U : State) : Prop := cmpF A U U.heap ∧ fmtF A U U.heap ∧ (∀ i, i < 19 → ∃ n, n ≤ 7 ∧ strF_i A (ad i) (tv i) n U U.heap) ∧ vk_R RX7 97 "sitter" (ad 0) U ∧ vk_R RX7 99 "chair" (ad 1) U ∧ vk_R RX7 101 "weight" (ad 2) U ∧ vk_R RX7 103 "height" (ad 3) U ∧ vk_R RX7 105 "cane" (ad 4) U ∧ vk_R RX7 107 "sits" (ad 5) U ∧ vk_R RX7 109 "give" (ad 6) U ∧ vk_R RX7 111 "others" (ad 7) U ∧ vk_R RX7 113 "press" (ad 8) U ∧ vk_R RX7 115 "dropped" (ad 9) U ∧ vk_R RX7 117 "minute" (ad 10) U ∧ vk_R RX7 119 "hall" (ad 11) U ∧ vk_R RX7 121 "strand" (ad 12) U ∧ vk_R RX7 123 "sit" (ad 13) U ∧ vk_R RX7 125 "if" (ad 14) U ∧ vk_R RX7 127 "or" (ad 15) U ∧ vk_R RX7 129 "and" (ad 16) U ∧ vk_R RX7 131 "not" (ad 17) U ∧ vk_R RX7 133 "" (ad 18) U
theorem EX_i.ok (ad tv : Nat → Nat) : EOk (EX_i ad tv) := ⟨fun A U g mk ar h => by
  obtain ⟨h0, h1, h2, r0, r1, r2, r3, r4, r5, r6, r7, r8, r9, r10, r11, r12, r13, r14, r15, r16, r17, r18⟩ := h
  have hR := va_S.rf (A := A) (H0 := U.heap)
  have hv := Vm.Alike.refl U.vm
  exact ⟨cmpF.to (U := U.calling g mk ar) h0 hR (fun _ q => q) hv, fmtF.to (U := U.calling g mk ar) h1 hR (fun _ q => q) hv, (fun i hi => (h2 i hi).elim (fun n hn => ⟨n, hn.1, strF_i.to (U := U.calling g mk ar) hn.2 hR (fun _ q => q) hv⟩)), r0.same (U := U.calling g mk ar) rfl, r1.same (U := U.calling g mk ar) rfl, r2.same (U := U.calling g mk ar) rfl, r3.same (U := U.calling g mk ar) rfl, r4.same (U := U.calling g mk ar) rfl, r5.same (U := U.calling g mk ar) rfl, r6.same (U := U.calling g mk ar) rfl, r7.same (U := U.calling g mk ar) rfl, r8.same (U := U.calling g mk ar) rfl, r9.same (U := U.calling g mk ar) rfl, r10.same (U := U.calling g mk ar) rfl, r11.same (U := U.calling g mk ar) rfl, r12.same (U := U.calling g mk ar) rfl, r13.same (U := U.calling g mk ar) rfl, r14.same (U := U.calling g mk ar) rfl, r15.same (U := U.calling g mk ar) rfl, r16.same (U := U.calling g mk ar) rfl, r17.same (U := U.calling g mk ar) rfl, r18.same (U := U.calling g mk ar) rfl⟩, fun A B s U H locs h hS hF hU hW => by
  subst hU
  obtain ⟨h0, h1, h2, r0, r1, r2, r3, r4, r5, r6, r7, r8, r9, r10, r11, r12, r13, r14, r15, r16, r17, r18⟩ := h
  exact ⟨cmpF.to h0 hS hF hW.alike, fmtF.to h1 hS hF hW.alike, (fun i hi => (h2 i hi).elim (fun n hn => ⟨n, hn.1, strF_i.to hn.2 hS hF hW.alike⟩)), r0.warm hW, r1.warm hW, r2.warm hW, r3.warm hW, r4.warm hW, r5.warm hW, r6.warm hW, r7.warm hW, r8.warm hW, r9.warm hW, r10.warm hW, r11.warm hW, r12.warm hW, r13.warm hW, r14.warm hW, r15.warm hW, r16.warm hW, r17.warm hW, r18.warm hW⟩⟩
section HT
variable {p : Program} {l : Launch} {e : Env} {R : Room} {s : State} {m : MethodId} {args : Array Value} {below : List Frame} {meth : Method} {c : Code} {H : Heap} {locs : List Loc} {cells slots : Nat} {Q : State → Prop} {pc : Nat} {ls : Array Slot} {rest st0 As : List Value} {D : va_G} {k : Nat → ClassId} {A : Nat → Prop} {ws wc wr : va_W} {cc : ByteArray} {y : MethodName} {wd wd' Ts : List Cond} {rm : Room} {mc ms n index maxL nL : Nat} {bytes : ByteArray} {ret : Option FieldType} {own C host : String} {b : Nat} {E : (Nat → Prop) → State → Prop}
end HT
set_option maxHeartbeats 4000000 in
set_option maxRecDepth 100000 in
theorem c_coder_i (l : Launch) (D : va_G) (k : Nat → ClassId) (sz a t n : Nat) : CtIE l yJ0_coder_7d493 wsJ0_coder_7d493 (rmK 1 0 0) [.ref a] D k (ES_i a t n) sz [] (fun (r : Int32) (_ : Unit) => r = 0) (fun _ : Unit => []) 0 0 := by
  refine CtIE.mk (cc := cJ0_coder_7d493) (maxL := 1) (ret := some .byte) (by decide) rfl (Nat.le_of_ble_eq_true rfl) ?_
  intro p e s m below meth c A ls hE E hP hD hS hl
  obtain ⟨hx, hb, hr, hml, hown, hts, hlocks, hin, hG, hA⟩ := E
  have hown : s.vm.findClass RJ0 = some m.cls := hown
  have hl : lv_has ls 1 [(0, .ref a)] := hl
  refine va_gets hx hb hE.1 hS hown (hts (.fieldLink RJ0 38 "java/lang/String" "COMPACT_STRINGS" "Z") (by decide +kernel)) (fun _ h => h) dJ0_coder_7d493_0 ?_
  refine lv_if_eq (tgt := 13) hx hb dJ0_coder_7d493_3 (by decide) (fun h => absurd h (by decide)) (fun _ => ?_)
  refine lv_aload_n hx hb dJ0_coder_7d493_6 rfl (lv_at hl 0 rfl) ?_
  refine vk_getf hx hb hE.2.1.2.1 hS hown (hts (.fieldLink RJ0 15 "java/lang/String" "coder" "B") (by decide +kernel)) (fun _ h => h) dJ0_coder_7d493_7 ?_
  refine lv_goto (tgt := 14) hx hb dJ0_coder_7d493_10 (by decide) ?_
  exact W.zret hx hb hr rfl (fun t ht hW => ⟨⟨0, (), rfl, rfl, by rw [ht]; exact hP, hD⟩, hS.F ht⟩) hS.2.2 dJ0_coder_7d493_14 hlocks
set_option maxHeartbeats 4000000 in
set_option maxRecDepth 100000 in
theorem c_length_i (l : Launch) (D : va_G) (k : Nat → ClassId) (sz a t n : Nat) : CtIE l yJ0_length_8abf5 wsJ0_length_8abf5 (rmK 2 0 0) [.ref a] D k (ES_i a t n) sz [] (fun (r : Int32) (_ : Unit) => r = nI n) (fun _ : Unit => []) 0 0 := by
  refine CtIE.mk (cc := cJ0_length_8abf5) (maxL := 1) (ret := some .int) (by decide) rfl (Nat.le_of_ble_eq_true rfl) ?_
  intro p e s m below meth c A ls hE E hP hD hS hl
  obtain ⟨hx, hb, hr, hml, hown, hts, hlocks, hin, hG, hA⟩ := E
  have hown : s.vm.findClass RJ0 = some m.cls := hown
  have hl : lv_has ls 1 [(0, .ref a)] := hl
  refine lv_aload_n hx hb dJ0_length_8abf5_0 rfl (lv_at hl 0 rfl) ?_
  refine vk_getf hx hb hE.2.1.2.2.1 hS hown (hts (.fieldLink RJ0 9 "java/lang/String" "value" "[B") (by decide +kernel)) (fun _ h => h) dJ0_length_8abf5_1 ?_
  obtain ⟨f, hf⟩ := hE.2.1.2.2.2
  refine va_tlen (v := nI n) hx hb hf hS rfl dJ0_length_8abf5_4 ?_
  refine lv_aload_n hx hb dJ0_length_8abf5_5 rfl (lv_at hl 0 rfl) ?_
  refine hc_ViE (As := []) (rest := [.int (nI n)]) (n := 0) (wr := []) (ES_i.ok a t n) hE hx hb hml hown hts hG hA hP hD hS hl.1 [] [] (c_coder_i l D k _ a t n) (va_Orecv hE.2.1.1 hS) gJ0_length_8abf5_J0_coder_7d493 rfl ⟨rfl, rfl, Nat.le_of_ble_eq_true rfl, Nat.le_of_ble_eq_true rfl⟩ (by decide +kernel) rfl rfl ⟨by decide, by decide, by decide⟩ ⟨rfl, rfl, Nat.le_of_ble_eq_true rfl, Nat.le_of_ble_eq_true rfl, Nat.le_of_ble_eq_true rfl⟩ dJ0_length_8abf5_6 (fun r u H locs hw hP hD hS => ?_)
  obtain rfl : r = 0 := hw
  refine lv_ishr hx hb dJ0_length_8abf5_9 ?_
  refine hc_is (z := nI n) (sb_shr0 _) ?_
  exact hc_end hx hb hr hlocks () rfl hP hD hS dJ0_length_8abf5_10
set_option maxHeartbeats 4000000 in
set_option maxRecDepth 100000 in
theorem c_latin_i (l : Launch) (D : va_G) (k : Nat → ClassId) (sz a t n : Nat) : CtIE l yJ0_isLatin1_aae02 wsJ0_isLatin1_aae02 (rmK 1 0 0) [.ref a] D k (ES_i a t n) sz [] (fun (r : Int32) (_ : Unit) => r = 1) (fun _ : Unit => []) 0 0 := by
  refine CtIE.mk (cc := cJ0_isLatin1_aae02) (maxL := 1) (ret := some .boolean) (by decide) rfl (Nat.le_of_ble_eq_true rfl) ?_
  intro p e s m below meth c A ls hE E hP hD hS hl
  obtain ⟨hx, hb, hr, hml, hown, hts, hlocks, hin, hG, hA⟩ := E
  have hown : s.vm.findClass RJ0 = some m.cls := hown
  have hl : lv_has ls 1 [(0, .ref a)] := hl
  refine va_gets hx hb hE.1 hS hown (hts (.fieldLink RJ0 38 "java/lang/String" "COMPACT_STRINGS" "Z") (by decide +kernel)) (fun _ h => h) dJ0_isLatin1_aae02_0 ?_
  refine lv_if_eq (tgt := 17) hx hb dJ0_isLatin1_aae02_3 (by decide) (fun h => absurd h (by decide)) (fun _ => ?_)
  refine lv_aload_n hx hb dJ0_isLatin1_aae02_6 rfl (lv_at hl 0 rfl) ?_
  refine vk_getf hx hb hE.2.1.2.1 hS hown (hts (.fieldLink RJ0 15 "java/lang/String" "coder" "B") (by decide +kernel)) (fun _ h => h) dJ0_isLatin1_aae02_7 ?_
  refine lv_if_ne (tgt := 17) hx hb dJ0_isLatin1_aae02_10 (by decide) (fun h => absurd rfl h) (fun _ => ?_)
  refine lv_iconst (v := 1) hx hb dJ0_isLatin1_aae02_13 (by decide) ?_
  refine lv_goto (tgt := 18) hx hb dJ0_isLatin1_aae02_14 (by decide) ?_
  exact hc_endZ hx hb hr hlocks rfl () rfl hP hD hS dJ0_isLatin1_aae02_18
set_option maxHeartbeats 4000000 in
set_option maxRecDepth 100000 in
theorem c_lchar_i (l : Launch) (D : va_G) (k : Nat → ClassId) (sz t n : Nat) (i : Int32) (hn : n < 1000) (h0 : 0 ≤ i.toInt) (h1 : i.toInt < n) : CtIE l yJ1_charAt_3b067 wsJ1_charAt_3b067 (rmK 3 0 0) [.ref t, .int i] D k (EB_i t n) sz [] (fun (r : Int32) (_ : Unit) => iv 0 65535 r) (fun _ : Unit => []) 0 0 := by
  refine CtIE.mk (cc := cJ1_charAt_3b067) (maxL := 2) (ret := some .char) (by decide) rfl (Nat.le_of_ble_eq_true rfl) ?_
  intro p e s m below meth c A ls hE E hP hD hS hl
  obtain ⟨hx, hb, hr, hml, hown, hts, hlocks, hin, hG, hA⟩ := E
  have hown : s.vm.findClass RJ1 = some m.cls := hown
  have hl : lv_has ls 2 [(0, .ref t), (1, .int i)] := hl
  obtain ⟨f, hf⟩ := hE.1
  have hnI : (nI n).toInt = n := nI_toInt (by omega)
  refine lv_iload_n hx hb dJ1_charAt_3b067_0 rfl (lv_at hl 1 rfl) ?_
  refine lv_aload_n hx hb dJ1_charAt_3b067_1 rfl (lv_at hl 0 rfl) ?_
  refine va_tlen (v := nI n) hx hb hf hS rfl dJ1_charAt_3b067_2 ?_
  refine hc_SvE (As := [.int i, .int (nI n)]) (rest := []) (n := 2) (wr := []) fmt.ok hE.2 hx hb hml hown hts hG hA hP hD hS hl.1 [] [] (c_scheck l D k _ i (nI n) h0 (by omega)) gJ1_charAt_3b067_J0_checkIndex_df160 rfl ⟨rfl, rfl, Nat.le_of_ble_eq_true rfl, Nat.le_of_ble_eq_true rfl⟩ (by decide +kernel) rfl rfl ⟨by decide, by decide, by decide⟩ ⟨rfl, rfl, Nat.le_of_ble_eq_true rfl, Nat.le_of_ble_eq_true rfl, Nat.le_of_ble_eq_true rfl⟩ dJ1_charAt_3b067_3 (fun u H locs hw hP hD hS => ?_)
  refine lv_aload_n hx hb dJ1_charAt_3b067_6 rfl (lv_at hl 0 rfl) ?_
  refine lv_iload_n hx hb dJ1_charAt_3b067_7 rfl (lv_at hl 1 rfl) ?_
  refine va_tb hx hb hf hS (vp_in_iff.mpr ⟨by omega, by omega⟩) rfl dJ1_charAt_3b067_8 ?_
  refine lv_sipush (v := 255) hx hb dJ1_charAt_3b067_9 (by decide) ?_
  refine lv_iand hx hb dJ1_charAt_3b067_12 ?_
  refine lv_topi (fun z ez => ?_)
  have bz : iv 0 255 z := ai_mask 8 (by decide) (by decide) ez
  have b1 := bz.1
  have b2 := bz.2
  refine lv_i2c (v := z) hx hb dJ1_charAt_3b067_13 (lg_i2c_word b1 (by omega)) ?_
  exact hc_endC hx hb hr hlocks ⟨by omega, by omega⟩ () ⟨by omega, by omega⟩ hP hD hS dJ1_charAt_3b067_14
set_option maxHeartbeats 4000000 in
set_option maxRecDepth 100000 in
theorem c_charAt_i (l : Launch) (D : va_G) (k : Nat → ClassId) (sz a t n : Nat) (i : Int32) (hn : n < 1000) (h0 : 0 ≤ i.toInt) (h1 : i.toInt < n) : CtIE l yJ0_charAt_5068e wsJ0_charAt_5068e (rmK 4 0 0) [.ref a, .int i] D k (ES_i a t n) sz [] (fun (r : Int32) (_ : Unit) => iv 0 65535 r) (fun _ : Unit => []) 0 0 := by
  refine CtIE.mk (cc := cJ0_charAt_5068e) (maxL := 2) (ret := some .char) (by decide) rfl (Nat.le_of_ble_eq_true rfl) ?_
  intro p e s m below meth c A ls hE E hP hD hS hl
  obtain ⟨hx, hb, hr, hml, hown, hts, hlocks, hin, hG, hA⟩ := E
  have hown : s.vm.findClass RJ0 = some m.cls := hown
  have hl : lv_has ls 2 [(0, .ref a), (1, .int i)] := hl
  refine lv_aload_n hx hb dJ0_charAt_5068e_0 rfl (lv_at hl 0 rfl) ?_
  refine hc_ViE (As := []) (rest := []) (n := 0) (wr := []) (ES_i.ok a t n) hE hx hb hml hown hts hG hA hP hD hS hl.1 [] [] (c_latin_i l D k _ a t n) (va_Orecv hE.2.1.1 hS) gJ0_charAt_5068e_J0_isLatin1_aae02 rfl ⟨rfl, rfl, Nat.le_of_ble_eq_true rfl, Nat.le_of_ble_eq_true rfl⟩ (by decide +kernel) rfl rfl ⟨by decide, by decide, by decide⟩ ⟨rfl, rfl, Nat.le_of_ble_eq_true rfl, Nat.le_of_ble_eq_true rfl, Nat.le_of_ble_eq_true rfl⟩ dJ0_charAt_5068e_1 (fun r u H locs hw hP hD hS => ?_)
  obtain rfl : r = 1 := hw
  refine lv_if_eq (tgt := 16) hx hb dJ0_charAt_5068e_4 (by decide) (fun h => absurd h (by decide)) (fun _ => ?_)
  refine lv_aload_n hx hb dJ0_charAt_5068e_7 rfl (lv_at hl 0 rfl) ?_
  refine vk_getf hx hb hE.2.1.2.2.1 hS hown (hts (.fieldLink RJ0 9 "java/lang/String" "value" "[B") (by decide +kernel)) (fun _ h => h) dJ0_charAt_5068e_8 ?_
  refine lv_iload_n hx hb dJ0_charAt_5068e_11 rfl (lv_at hl 1 rfl) ?_
  refine hc_SiE (As := [.ref t, .int i]) (rest := []) (n := 2) (wr := []) (EB_i.ok t n) ⟨hE.2.1.2.2.2, hE.2.2⟩ hx hb hml hown hts hG hA hP hD hS hl.1 [] [] (c_lchar_i l D k _ t n i hn h0 h1) gJ0_charAt_5068e_J1_charAt_3b067 rfl ⟨rfl, rfl, Nat.le_of_ble_eq_true rfl, Nat.le_of_ble_eq_true rfl⟩ (by decide +kernel) rfl rfl ⟨by decide, by decide, by decide⟩ ⟨rfl, rfl, Nat.le_of_ble_eq_true rfl, Nat.le_of_ble_eq_true rfl, Nat.le_of_ble_eq_true rfl⟩ dJ0_charAt_5068e_12 (fun r u H locs hw hP hD hS => ?_)
  have q1 := hw.1
  have q2 := hw.2
  exact hc_endC hx hb hr hlocks ⟨q1, q2⟩ () ⟨q1, q2⟩ hP hD hS dJ0_charAt_5068e_15
