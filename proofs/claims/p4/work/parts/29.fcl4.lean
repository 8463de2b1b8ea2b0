/-! rules one of six; feed, end, rule of the class, as functions -/
theorem rAd_at {ra : Nat → Nat} {xrr : Nat → Option Nat} {i : Int32} (hq : ∀ i, i < 6 → xrr i = some (ra (6 * i))) (g : ib i 6) : va_rf (xrr (Int32.toNatClampNeg i)) = va_rf (rAd ra i) := by
  have g' : 0 ≤ i.toInt ∧ i.toInt < 6 := g
  have e : Int32.toNatClampNeg i = i.toInt.toNat := rfl
  unfold rAd
  rw [if_pos g', e, hq _ (by omega)]
def RU (k : Nat → ClassId) (ra : Nat → Nat) (rz : Nat → OB) : va_W := [((ra 0), .inr (3, [.ref (ra 1), .ref (ra 2), .ref (ra 3), .ref (ra 4), .ref (ra 5), .int ((rz 0).1 5), .int ((rz 0).1 6), .int ((rz 0).1 7)])), ((ra 1), hcI k 400 ((rz 0).2.1 0)), ((ra 2), hcI k 12 ((rz 0).2.1 1)), ((ra 3), hcI k 12 ((rz 0).2.1 2)), ((ra 4), hcI k 12 ((rz 0).2.1 3)), ((ra 5), hcJ k 60 ((rz 0).2.2 4)), ((ra 6), .inr (3, [.ref (ra 7), .ref (ra 8), .ref (ra 9), .ref (ra 10), .ref (ra 11), .int ((rz 1).1 5), .int ((rz 1).1 6), .int ((rz 1).1 7)])), ((ra 7), hcI k 400 ((rz 1).2.1 0)), ((ra 8), hcI k 12 ((rz 1).2.1 1)), ((ra 9), hcI k 12 ((rz 1).2.1 2)), ((ra 10), hcI k 12 ((rz 1).2.1 3)), ((ra 11), hcJ k 60 ((rz 1).2.2 4)), ((ra 12), .inr (3, [.ref (ra 13), .ref (ra 14), .ref (ra 15), .ref (ra 16), .ref (ra 17), .int ((rz 2).1 5), .int ((rz 2).1 6), .int ((rz 2).1 7)])), ((ra 13), hcI k 400 ((rz 2).2.1 0)), ((ra 14), hcI k 12 ((rz 2).2.1 1)), ((ra 15), hcI k 12 ((rz 2).2.1 2)), ((ra 16), hcI k 12 ((rz 2).2.1 3)), ((ra 17), hcJ k 60 ((rz 2).2.2 4)), ((ra 18), .inr (3, [.ref (ra 19), .ref (ra 20), .ref (ra 21), .ref (ra 22), .ref (ra 23), .int ((rz 3).1 5), .int ((rz 3).1 6), .int ((rz 3).1 7)])), ((ra 19), hcI k 400 ((rz 3).2.1 0)), ((ra 20), hcI k 12 ((rz 3).2.1 1)), ((ra 21), hcI k 12 ((rz 3).2.1 2)), ((ra 22), hcI k 12 ((rz 3).2.1 3)), ((ra 23), hcJ k 60 ((rz 3).2.2 4)), ((ra 24), .inr (3, [.ref (ra 25), .ref (ra 26), .ref (ra 27), .ref (ra 28), .ref (ra 29), .int ((rz 4).1 5), .int ((rz 4).1 6), .int ((rz 4).1 7)])), ((ra 25), hcI k 400 ((rz 4).2.1 0)), ((ra 26), hcI k 12 ((rz 4).2.1 1)), ((ra 27), hcI k 12 ((rz 4).2.1 2)), ((ra 28), hcI k 12 ((rz 4).2.1 3)), ((ra 29), hcJ k 60 ((rz 4).2.2 4)), ((ra 30), .inr (3, [.ref (ra 31), .ref (ra 32), .ref (ra 33), .ref (ra 34), .ref (ra 35), .int ((rz 5).1 5), .int ((rz 5).1 6), .int ((rz 5).1 7)])), ((ra 31), hcI k 400 ((rz 5).2.1 0)), ((ra 32), hcI k 12 ((rz 5).2.1 1)), ((ra 33), hcI k 12 ((rz 5).2.1 2)), ((ra 34), hcI k 12 ((rz 5).2.1 3)), ((ra 35), hcJ k 60 ((rz 5).2.2 4))]
theorem fw_b {β γ : Type} {o : Option β} {g : β → Option γ} {res : γ} (h : Option.bind o g = some res) : ∃ q, o = some q ∧ g q = some res := by
  cases o with
  | none => cases h
  | some q => exact ⟨q, rfl, h⟩
def f_X5_read_u (F : Nat) (x1 : Int32) (tp : OB) (rz : Nat → OB) : Option (Int32 × OB × (Nat → OB)) :=
  if 0 ≤ (Int32.toInt x1) ∧ (Int32.toInt x1) < 6 then (Option.bind (f_X5_read F tp (rz (Int32.toInt x1).toNat)) (fun q => some (q.1, q.2.1, uF rz (Int32.toInt x1).toNat q.2.2))) else (none)
set_option maxHeartbeats 4000000 in
set_option maxRecDepth 100000 in
theorem c_X5_read_u (l : Launch) (D : va_G) (k : Nat → ClassId) (sz : Nat) (ad tv : Nat → Nat) (ta : Nat → Nat) (ra : Nat → Nat) (F : Nat) (x1 : Int32) (tp : OB) (rz : Nat → OB) {res : Int32 × OB × (Nat → OB)} (h : f_X5_read_u F x1 tp rz = some res) : CtIE l yX5_read wsX5_read (rmK 28 0 0) [.ref (ta 0), va_rf (rAd ra x1)] D k (EX ad tv) sz (tpW k ta tp ++ (RU k ra rz)) (fun r (_ : Unit) => r = res.1) (fun _ : Unit => tpW k ta res.2.1 ++ (RU k ra res.2.2)) 0 0 := by
  by_cases g : 0 ≤ (Int32.toInt x1) ∧ (Int32.toInt x1) < 6
  · have h := fw_t g h
    obtain ⟨q, hq, h⟩ := fw_b h
    cases h
    have ec : (Int32.toInt x1) = 0 ∨ (Int32.toInt x1) = 1 ∨ (Int32.toInt x1) = 2 ∨ (Int32.toInt x1) = 3 ∨ (Int32.toInt x1) = 4 ∨ (Int32.toInt x1) = 5 := by omega
    rcases ec with ec | ec | ec | ec | ec | ec
    · have en : (Int32.toInt x1).toNat = 0 := by omega
      have ea : rAd ra x1 = some (ra 0) := by unfold rAd; rw [if_pos g, en]
      rw [ea]
      rw [en] at hq ⊢
      exact CtIE.fr (EX.ok ad tv) (wr := (RU k ra rz).take 0 ++ (RU k ra rz).drop 6) (c_X5_read l D k sz ad tv ta (fun j => ra (0 + j)) F tp (rz 0) hq) [0, 1, 2, 3, 4, 5, 6, 7, 8, 9, 10] [11, 12, 13, 14, 15, 16, 17, 18, 19, 20, 21, 22, 23, 24, 25, 26, 27, 28, 29, 30, 31, 32, 33, 34, 35, 36, 37, 38, 39, 40] [30, 31, 32, 33, 34, 35, 36, 37, 38, 39, 40, 0, 1, 2, 3, 4, 5, 6, 7, 8, 9, 10, 11, 12, 13, 14, 15, 16, 17, 18, 19, 20, 21, 22, 23, 24, 25, 26, 27, 28, 29] (fun u => u) rfl rfl ⟨by decide, by decide, by decide, by decide⟩ (fun u => rfl) (fr_in [0, 1, 2, 3, 4, 5, 6, 7, 8, 9, 10] rfl) (fun r u hp => hp)
    · have en : (Int32.toInt x1).toNat = 1 := by omega
      have ea : rAd ra x1 = some (ra 6) := by unfold rAd; rw [if_pos g, en]
      rw [ea]
      rw [en] at hq ⊢
      exact CtIE.fr (EX.ok ad tv) (wr := (RU k ra rz).take 6 ++ (RU k ra rz).drop 12) (c_X5_read l D k sz ad tv ta (fun j => ra (6 + j)) F tp (rz 1) hq) [0, 1, 2, 3, 4, 11, 12, 13, 14, 15, 16] [5, 6, 7, 8, 9, 10, 17, 18, 19, 20, 21, 22, 23, 24, 25, 26, 27, 28, 29, 30, 31, 32, 33, 34, 35, 36, 37, 38, 39, 40] [30, 31, 32, 33, 34, 0, 1, 2, 3, 4, 5, 35, 36, 37, 38, 39, 40, 6, 7, 8, 9, 10, 11, 12, 13, 14, 15, 16, 17, 18, 19, 20, 21, 22, 23, 24, 25, 26, 27, 28, 29] (fun u => u) rfl rfl ⟨by decide, by decide, by decide, by decide⟩ (fun u => rfl) (fr_in [0, 1, 2, 3, 4, 11, 12, 13, 14, 15, 16] rfl) (fun r u hp => hp)
    · have en : (Int32.toInt x1).toNat = 2 := by omega
      have ea : rAd ra x1 = some (ra 12) := by unfold rAd; rw [if_pos g, en]
      rw [ea]
      rw [en] at hq ⊢
      exact CtIE.fr (EX.ok ad tv) (wr := (RU k ra rz).take 12 ++ (RU k ra rz).drop 18) (c_X5_read l D k sz ad tv ta (fun j => ra (12 + j)) F tp (rz 2) hq) [0, 1, 2, 3, 4, 17, 18, 19, 20, 21, 22] [5, 6, 7, 8, 9, 10, 11, 12, 13, 14, 15, 16, 23, 24, 25, 26, 27, 28, 29, 30, 31, 32, 33, 34, 35, 36, 37, 38, 39, 40] [30, 31, 32, 33, 34, 0, 1, 2, 3, 4, 5, 6, 7, 8, 9, 10, 11, 35, 36, 37, 38, 39, 40, 12, 13, 14, 15, 16, 17, 18, 19, 20, 21, 22, 23, 24, 25, 26, 27, 28, 29] (fun u => u) rfl rfl ⟨by decide, by decide, by decide, by decide⟩ (fun u => rfl) (fr_in [0, 1, 2, 3, 4, 17, 18, 19, 20, 21, 22] rfl) (fun r u hp => hp)
    · have en : (Int32.toInt x1).toNat = 3 := by omega
      have ea : rAd ra x1 = some (ra 18) := by unfold rAd; rw [if_pos g, en]
      rw [ea]
      rw [en] at hq ⊢
      exact CtIE.fr (EX.ok ad tv) (wr := (RU k ra rz).take 18 ++ (RU k ra rz).drop 24) (c_X5_read l D k sz ad tv ta (fun j => ra (18 + j)) F tp (rz 3) hq) [0, 1, 2, 3, 4, 23, 24, 25, 26, 27, 28] [5, 6, 7, 8, 9, 10, 11, 12, 13, 14, 15, 16, 17, 18, 19, 20, 21, 22, 29, 30, 31, 32, 33, 34, 35, 36, 37, 38, 39, 40] [30, 31, 32, 33, 34, 0, 1, 2, 3, 4, 5, 6, 7, 8, 9, 10, 11, 12, 13, 14, 15, 16, 17, 35, 36, 37, 38, 39, 40, 18, 19, 20, 21, 22, 23, 24, 25, 26, 27, 28, 29] (fun u => u) rfl rfl ⟨by decide, by decide, by decide, by decide⟩ (fun u => rfl) (fr_in [0, 1, 2, 3, 4, 23, 24, 25, 26, 27, 28] rfl) (fun r u hp => hp)
    · have en : (Int32.toInt x1).toNat = 4 := by omega
      have ea : rAd ra x1 = some (ra 24) := by unfold rAd; rw [if_pos g, en]
      rw [ea]
      rw [en] at hq ⊢
      exact CtIE.fr (EX.ok ad tv) (wr := (RU k ra rz).take 24 ++ (RU k ra rz).drop 30) (c_X5_read l D k sz ad tv ta (fun j => ra (24 + j)) F tp (rz 4) hq) [0, 1, 2, 3, 4, 29, 30, 31, 32, 33, 34] [5, 6, 7, 8, 9, 10, 11, 12, 13, 14, 15, 16, 17, 18, 19, 20, 21, 22, 23, 24, 25, 26, 27, 28, 35, 36, 37, 38, 39, 40] [30, 31, 32, 33, 34, 0, 1, 2, 3, 4, 5, 6, 7, 8, 9, 10, 11, 12, 13, 14, 15, 16, 17, 18, 19, 20, 21, 22, 23, 35, 36, 37, 38, 39, 40, 24, 25, 26, 27, 28, 29] (fun u => u) rfl rfl ⟨by decide, by decide, by decide, by decide⟩ (fun u => rfl) (fr_in [0, 1, 2, 3, 4, 29, 30, 31, 32, 33, 34] rfl) (fun r u hp => hp)
    · have en : (Int32.toInt x1).toNat = 5 := by omega
      have ea : rAd ra x1 = some (ra 30) := by unfold rAd; rw [if_pos g, en]
      rw [ea]
      rw [en] at hq ⊢
      exact CtIE.fr (EX.ok ad tv) (wr := (RU k ra rz).take 30 ++ (RU k ra rz).drop 36) (c_X5_read l D k sz ad tv ta (fun j => ra (30 + j)) F tp (rz 5) hq) [0, 1, 2, 3, 4, 35, 36, 37, 38, 39, 40] [5, 6, 7, 8, 9, 10, 11, 12, 13, 14, 15, 16, 17, 18, 19, 20, 21, 22, 23, 24, 25, 26, 27, 28, 29, 30, 31, 32, 33, 34] [30, 31, 32, 33, 34, 0, 1, 2, 3, 4, 5, 6, 7, 8, 9, 10, 11, 12, 13, 14, 15, 16, 17, 18, 19, 20, 21, 22, 23, 24, 25, 26, 27, 28, 29, 35, 36, 37, 38, 39, 40] (fun u => u) rfl rfl ⟨by decide, by decide, by decide, by decide⟩ (fun u => rfl) (fr_in [0, 1, 2, 3, 4, 35, 36, 37, 38, 39, 40] rfl) (fun r u hp => hp)
  · have h := fw_f g h
    cases h
theorem dX8_end_0 : decode cX8_end 0 = .ok (.iload_n 1, 1) := by decide +kernel
theorem dX8_end_1 : decode cX8_end 1 = .ok (.ifCond .lt 14, 3) := by decide +kernel
theorem dX8_end_4 : decode cX8_end 4 = .ok (.iload_n 1, 1) := by decide +kernel
theorem dX8_end_5 : decode cX8_end 5 = .ok (.aload_n 0, 1) := by decide +kernel
theorem dX8_end_6 : decode cX8_end 6 = .ok (.getfield 10, 3) := by decide +kernel
theorem dX8_end_9 : decode cX8_end 9 = .ok (.getfield 65, 3) := by decide +kernel
theorem dX8_end_12 : decode cX8_end 12 = .ok (.if_icmp .le 5, 3) := by decide +kernel
theorem dX8_end_15 : decode cX8_end 15 = .ok (.iconst (-1), 1) := by decide +kernel
theorem dX8_end_16 : decode cX8_end 16 = .ok (.ireturn, 1) := by decide +kernel
theorem dX8_end_17 : decode cX8_end 17 = .ok (.aload_n 0, 1) := by decide +kernel
theorem dX8_end_18 : decode cX8_end 18 = .ok (.getfield 10, 3) := by decide +kernel
theorem dX8_end_21 : decode cX8_end 21 = .ok (.iload_n 1, 1) := by decide +kernel
theorem dX8_end_22 : decode cX8_end 22 = .ok (.putfield 65, 3) := by decide +kernel
theorem dX8_end_25 : decode cX8_end 25 = .ok (.iload_n 1, 1) := by decide +kernel
theorem dX8_end_26 : decode cX8_end 26 = .ok (.ireturn, 1) := by decide +kernel
theorem dX8_feed_0 : decode cX8_feed 0 = .ok (.aload_n 0, 1) := by decide +kernel
theorem dX8_feed_1 : decode cX8_feed 1 = .ok (.getfield 10, 3) := by decide +kernel
theorem dX8_feed_4 : decode cX8_feed 4 = .ok (.getfield 65, 3) := by decide +kernel
theorem dX8_feed_7 : decode cX8_feed 7 = .ok (.bipush 20, 2) := by decide +kernel
theorem dX8_feed_9 : decode cX8_feed 9 = .ok (.iadd, 1) := by decide +kernel
theorem dX8_feed_10 : decode cX8_feed 10 = .ok (.sipush 400, 3) := by decide +kernel
theorem dX8_feed_13 : decode cX8_feed 13 = .ok (.if_icmp .le 5, 3) := by decide +kernel
theorem dX8_feed_16 : decode cX8_feed 16 = .ok (.iconst (-1), 1) := by decide +kernel
theorem dX8_feed_17 : decode cX8_feed 17 = .ok (.ireturn, 1) := by decide +kernel
theorem dX8_feed_18 : decode cX8_feed 18 = .ok (.aload_n 0, 1) := by decide +kernel
theorem dX8_feed_19 : decode cX8_feed 19 = .ok (.getfield 10, 3) := by decide +kernel
theorem dX8_feed_22 : decode cX8_feed 22 = .ok (.iload_n 1, 1) := by decide +kernel
theorem dX8_feed_23 : decode cX8_feed 23 = .ok (.invokevirtual 68, 3) := by decide +kernel
theorem dX8_feed_26 : decode cX8_feed 26 = .ok (.aload_n 0, 1) := by decide +kernel
theorem dX8_feed_27 : decode cX8_feed 27 = .ok (.getfield 10, 3) := by decide +kernel
theorem dX8_feed_30 : decode cX8_feed 30 = .ok (.iload_n 2, 1) := by decide +kernel
theorem dX8_feed_31 : decode cX8_feed 31 = .ok (.invokevirtual 68, 3) := by decide +kernel
theorem dX8_feed_34 : decode cX8_feed 34 = .ok (.aload_n 0, 1) := by decide +kernel
theorem dX8_feed_35 : decode cX8_feed 35 = .ok (.getfield 10, 3) := by decide +kernel
theorem dX8_feed_38 : decode cX8_feed 38 = .ok (.iload_n 3, 1) := by decide +kernel
theorem dX8_feed_39 : decode cX8_feed 39 = .ok (.invokevirtual 68, 3) := by decide +kernel
theorem dX8_feed_42 : decode cX8_feed 42 = .ok (.aload_n 0, 1) := by decide +kernel
theorem dX8_feed_43 : decode cX8_feed 43 = .ok (.getfield 10, 3) := by decide +kernel
theorem dX8_feed_46 : decode cX8_feed 46 = .ok (.iload 4, 2) := by decide +kernel
theorem dX8_feed_48 : decode cX8_feed 48 = .ok (.invokevirtual 68, 3) := by decide +kernel
theorem dX8_feed_51 : decode cX8_feed 51 = .ok (.aload_n 0, 1) := by decide +kernel
theorem dX8_feed_52 : decode cX8_feed 52 = .ok (.getfield 10, 3) := by decide +kernel
theorem dX8_feed_55 : decode cX8_feed 55 = .ok (.iload 5, 2) := by decide +kernel
theorem dX8_feed_57 : decode cX8_feed 57 = .ok (.invokevirtual 68, 3) := by decide +kernel
theorem dX8_feed_60 : decode cX8_feed 60 = .ok (.aload_n 0, 1) := by decide +kernel
theorem dX8_feed_61 : decode cX8_feed 61 = .ok (.getfield 10, 3) := by decide +kernel
theorem dX8_feed_64 : decode cX8_feed 64 = .ok (.getfield 65, 3) := by decide +kernel
theorem dX8_feed_67 : decode cX8_feed 67 = .ok (.ireturn, 1) := by decide +kernel
theorem dX8_rule_0 : decode cX8_rule 0 = .ok (.aload_n 0, 1) := by decide +kernel
theorem dX8_rule_1 : decode cX8_rule 1 = .ok (.getfield 22, 3) := by decide +kernel
theorem dX8_rule_4 : decode cX8_rule 4 = .ok (.bipush 6, 2) := by decide +kernel
theorem dX8_rule_6 : decode cX8_rule 6 = .ok (.if_icmp .lt 5, 3) := by decide +kernel
theorem dX8_rule_9 : decode cX8_rule 9 = .ok (.iconst (-1), 1) := by decide +kernel
theorem dX8_rule_10 : decode cX8_rule 10 = .ok (.ireturn, 1) := by decide +kernel
theorem dX8_rule_11 : decode cX8_rule 11 = .ok (.aload_n 0, 1) := by decide +kernel
theorem dX8_rule_12 : decode cX8_rule 12 = .ok (.getfield 10, 3) := by decide +kernel
theorem dX8_rule_15 : decode cX8_rule 15 = .ok (.aload_n 0, 1) := by decide +kernel
theorem dX8_rule_16 : decode cX8_rule 16 = .ok (.getfield 18, 3) := by decide +kernel
theorem dX8_rule_19 : decode cX8_rule 19 = .ok (.aload_n 0, 1) := by decide +kernel
theorem dX8_rule_20 : decode cX8_rule 20 = .ok (.getfield 22, 3) := by decide +kernel
theorem dX8_rule_23 : decode cX8_rule 23 = .ok (.aaload, 1) := by decide +kernel
theorem dX8_rule_24 : decode cX8_rule 24 = .ok (.invokestatic 107, 3) := by decide +kernel
theorem dX8_rule_27 : decode cX8_rule 27 = .ok (.istore_n 1, 1) := by decide +kernel
theorem dX8_rule_28 : decode cX8_rule 28 = .ok (.aload_n 0, 1) := by decide +kernel
theorem dX8_rule_29 : decode cX8_rule 29 = .ok (.getfield 10, 3) := by decide +kernel
theorem dX8_rule_32 : decode cX8_rule 32 = .ok (.getfield 78, 3) := by decide +kernel
theorem dX8_rule_35 : decode cX8_rule 35 = .ok (.istore_n 2, 1) := by decide +kernel
theorem dX8_rule_36 : decode cX8_rule 36 = .ok (.aload_n 0, 1) := by decide +kernel
theorem dX8_rule_37 : decode cX8_rule 37 = .ok (.getfield 10, 3) := by decide +kernel
theorem dX8_rule_40 : decode cX8_rule 40 = .ok (.iconst 0, 1) := by decide +kernel
theorem dX8_rule_41 : decode cX8_rule 41 = .ok (.putfield 65, 3) := by decide +kernel
theorem dX8_rule_44 : decode cX8_rule 44 = .ok (.iload_n 1, 1) := by decide +kernel
theorem dX8_rule_45 : decode cX8_rule 45 = .ok (.ifCond .ne 8, 3) := by decide +kernel
theorem dX8_rule_48 : decode cX8_rule 48 = .ok (.bipush (-2), 2) := by decide +kernel
theorem dX8_rule_50 : decode cX8_rule 50 = .ok (.iload_n 2, 1) := by decide +kernel
theorem dX8_rule_51 : decode cX8_rule 51 = .ok (.isub, 1) := by decide +kernel
theorem dX8_rule_52 : decode cX8_rule 52 = .ok (.ireturn, 1) := by decide +kernel
theorem dX8_rule_53 : decode cX8_rule 53 = .ok (.aload_n 0, 1) := by decide +kernel
theorem dX8_rule_54 : decode cX8_rule 54 = .ok (.dup, 1) := by decide +kernel
theorem dX8_rule_55 : decode cX8_rule 55 = .ok (.getfield 22, 3) := by decide +kernel
theorem dX8_rule_58 : decode cX8_rule 58 = .ok (.iconst 1, 1) := by decide +kernel
theorem dX8_rule_59 : decode cX8_rule 59 = .ok (.iadd, 1) := by decide +kernel
theorem dX8_rule_60 : decode cX8_rule 60 = .ok (.putfield 22, 3) := by decide +kernel
theorem dX8_rule_63 : decode cX8_rule 63 = .ok (.aload_n 0, 1) := by decide +kernel
theorem dX8_rule_64 : decode cX8_rule 64 = .ok (.getfield 22, 3) := by decide +kernel
theorem dX8_rule_67 : decode cX8_rule 67 = .ok (.iconst 1, 1) := by decide +kernel
theorem dX8_rule_68 : decode cX8_rule 68 = .ok (.isub, 1) := by decide +kernel
theorem dX8_rule_69 : decode cX8_rule 69 = .ok (.ireturn, 1) := by decide +kernel
set_option maxRecDepth 20000 in
theorem ggX8_feed_X7_append : GoodIn wsX8_feed wsX7_append := goodIn_r _ [7, 8, 9, 22, 23, 24, 25, 26, 27, 28, 29] (by decide +kernel) (by decide +kernel)
set_option maxRecDepth 20000 in
theorem gX8_feed_X7_append : GoodIn wsX8_feed (wsV RX8 68 RX7 yX7_append wsX7_append) := goodIn_app (goodIn_of _ (by decide +kernel)) ggX8_feed_X7_append
set_option maxRecDepth 20000 in
theorem ggX8_rule_X5_read : GoodIn wsX8_rule wsX5_read := goodIn_r _ [9, 10, 11, 12, 13, 14, 15, 16, 17, 18, 19, 20, 21, 22, 23, 24, 25, 26, 27, 28, 29, 30, 31, 32, 33, 34, 35, 36, 37, 38, 39, 40, 41, 42, 43, 44, 45, 46, 47, 48, 49, 50, 51, 52, 53, 54, 55, 56, 57, 58, 59, 60, 61, 62, 63, 64, 65, 66, 67, 68, 69, 70, 71, 72, 73, 74, 75, 76, 77, 78, 79, 80, 81, 82, 83, 84, 85, 86, 87, 88, 89, 90, 91, 92, 93, 94, 95, 96, 97, 98, 99, 100, 101, 102, 103, 104, 105, 106, 107, 108, 109, 110, 111, 112, 113, 114, 115, 116, 117, 118, 119, 8, 120, 121, 122, 123, 124, 125, 126, 127, 128, 129, 130, 131, 132, 133, 134, 135, 136, 137, 138, 139, 140, 141, 142, 143, 144, 145, 146, 147, 148, 149, 150, 151, 152, 153, 154, 155, 156, 157, 158, 159, 160, 161, 162, 163, 164, 165, 166, 167, 168, 169, 170, 171, 172, 173, 194, 195, 196, 197, 198, 199, 200, 201, 186, 187, 188, 189, 190, 191, 192, 193] (by decide +kernel) (by decide +kernel)
set_option maxRecDepth 20000 in
theorem gX8_rule_X5_read : GoodIn wsX8_rule (va_wsS RX8 107 yX5_read wsX5_read) := goodIn_app (goodIn_of _ (by decide +kernel)) ggX8_rule_X5_read
def f_X8_feed (F : Nat)  (x1 : Int32) (x2 : Int32) (x3 : Int32) (x4 : Int32) (x5 : Int32) (xi : Nat → Int32) (tp : OB) : Option (Int32 × OB) :=
  if ((tp.1 1) + 20) ≤ 400 then (Option.bind (f_X7_append F x1 tp) (fun q2 => (Option.bind (f_X7_append F x2 q2) (fun q3 => (Option.bind (f_X7_append F x3 q3) (fun q4 => (Option.bind (f_X7_append F x4 q4) (fun q5 => (Option.bind (f_X7_append F x5 q5) (fun q6 => (some ((q6.1 1), q6)))))))))))) else (some ((-1), tp))
set_option maxHeartbeats 4000000 in
set_option maxRecDepth 100000 in
theorem c_X8_feed (l : Launch) (D : va_G) (k : Nat → ClassId) (sz : Nat)  (xo : Nat → Nat) (ta : Nat → Nat) (xr : Nat) (sa : Nat → Nat) (xm : Nat) (xg : Nat) (tr : Nat → Nat) (xs : Nat) (xp : Nat) (xq : Nat) (xe : Nat) (xt : Nat) (F : Nat)  (x1 : Int32) (x2 : Int32) (x3 : Int32) (x4 : Int32) (x5 : Int32) (xi : Nat → Int32) (tp : OB)  {res : Int32 × OB} (h : f_X8_feed F x1 x2 x3 x4 x5 xi tp = some res) : CtI l yX8_feed wsX8_feed (rmK 2 0 0) [.ref (xo 0), .int x1, .int x2, .int x3, .int x4, .int x5] D k sz ([((xo 0), .inr (6, [.ref (ta 0), .ref xr, .int (xi 2), .ref (sa 0), .ref xm, .ref xg, .ref (tr 0), .ref xs, .ref xp, .ref xq, .ref xe, .ref xt]))] ++ (tpW k ta tp)) (fun r (_ : Unit) => r = res.1) (fun _ : Unit => [((xo 0), .inr (6, [.ref (ta 0), .ref xr, .int (xi 2), .ref (sa 0), .ref xm, .ref xg, .ref (tr 0), .ref xs, .ref xp, .ref xq, .ref xe, .ref xt]))] ++ (tpW k ta res.2)) 0 0 := by
  refine CtI.mk (cc := cX8_feed) (maxL := 6) (ret := (some .int)) (by decide) rfl (Nat.le_of_ble_eq_true rfl) ?_
  intro p e s m below meth c A ls E hP hD hS hl
  obtain ⟨hx, hb, hr, hml, hown, hts, hlocks, hin, hG, hA⟩ := E
  have hown : s.vm.findClass RX8 = some m.cls := hown
  have in7 : ∀ w ∈ u_ws RX7 TX7 8, w ∈ wsX8_feed := fun _ h => List.mem_cons_of_mem _ (List.mem_append_right _ h)
  have in8 : ∀ w ∈ u_ws RX8 TX8 12, w ∈ wsX8_feed := fun _ h => List.mem_cons_of_mem _ (List.mem_append_left _ (List.mem_append_right _ h))
  have hl : lv_has ls 6 [(0, .ref (xo 0)), (1, .int x1), (2, .int x2), (3, .int x3), (4, .int x4), (5, .int x5)] := hl
  refine lv_aload_n hx hb dX8_feed_0 rfl (lv_at hl 0 rfl) ?_
  refine va_get (D := D) (ci := 6) (v := .ref (ta 0)) (C := RX8) (T := TX8) (N := 12) hx hb hts in8 hown hG.1 hP 0 rfl rfl 0 (by decide) (hts (.fieldLink RX8 10 "ChairCane" "tape" "LChairCane$Tape;") (by decide +kernel)) (fun _ h9 => h9) rfl dX8_feed_1 ?_
  refine va_get (D := D) (ci := 5) (v := .int (tp.1 1)) (C := RX7) (T := TX7) (N := 8) hx hb hts in7 hown hG.1 hP 1 rfl rfl 1 (by decide) (hts (.fieldLink RX8 65 "ChairCane$Tape" "length" "I") (by decide +kernel)) (fun _ h9 => h9) rfl dX8_feed_4 ?_
  refine lv_bipush (v := 20) hx hb dX8_feed_7 (by decide) ?_
  refine lv_iadd hx hb dX8_feed_9 ?_
  refine lv_sipush (v := 400) hx hb dX8_feed_10 (by decide) ?_
  refine lv_icmp_le (tgt := 18) hx hb dX8_feed_13 (by decide) (fun c1 => ?_) (fun c1 => ?_)
  · have h := fw_t c1 h
    refine lv_aload_n hx hb dX8_feed_18 rfl (lv_at hl 0 rfl) ?_
    refine va_get (D := D) (ci := 6) (v := .ref (ta 0)) (C := RX8) (T := TX8) (N := 12) hx hb hts in8 hown hG.1 hP 0 rfl rfl 0 (by decide) (hts (.fieldLink RX8 10 "ChairCane" "tape" "LChairCane$Tape;") (by decide +kernel)) (fun _ h9 => h9) rfl dX8_feed_19 ?_
    refine lv_iload_n hx hb dX8_feed_22 rfl (lv_at hl 1 rfl) ?_
    refine fw_Vv (As := [.int x1]) (rest := []) (n := 1) (wr := [((xo 0), .inr (6, [.ref (ta 0), .ref xr, .int (xi 2), .ref (sa 0), .ref xm, .ref xg, .ref (tr 0), .ref xs, .ref xp, .ref xq, .ref xe, .ref xt]))]) (wp := fun b : OB => tpW k ta b) h hx hb hml hown hts hG hA hP hD hS hl.1 [1, 2, 3, 4, 5] [0] (fun q hq9 => c_X7_append l D k _  ta F x1 tp  hq9) (ci := 5) (q0 := 1) rfl rfl gX8_feed_X7_append rfl ⟨rfl, rfl, Nat.le_of_ble_eq_true rfl, Nat.le_of_ble_eq_true rfl⟩ (by decide +kernel) rfl rfl ⟨by decide, by decide, by decide⟩ ⟨rfl, rfl, Nat.le_of_ble_eq_true rfl, Nat.le_of_ble_eq_true rfl, Nat.le_of_ble_eq_true rfl⟩ dX8_feed_23 (fun q2 H locs h hP hD hS => ?_)
    have hP : va_P D vwCl ([((xo 0), .inr (6, [.ref (ta 0), .ref xr, .int (xi 2), .ref (sa 0), .ref xm, .ref xg, .ref (tr 0), .ref xs, .ref xp, .ref xq, .ref xe, .ref xt]))] ++ (tpW k ta q2)) H := hP
    have hD : va_D A ([((xo 0), .inr (6, [.ref (ta 0), .ref xr, .int (xi 2), .ref (sa 0), .ref xm, .ref xg, .ref (tr 0), .ref xs, .ref xp, .ref xq, .ref xe, .ref xt]))] ++ (tpW k ta q2)) := hD
    refine lv_aload_n hx hb dX8_feed_26 rfl (lv_at hl 0 rfl) ?_
    refine va_get (D := D) (ci := 6) (v := .ref (ta 0)) (C := RX8) (T := TX8) (N := 12) hx hb hts in8 hown hG.1 hP 0 rfl rfl 0 (by decide) (hts (.fieldLink RX8 10 "ChairCane" "tape" "LChairCane$Tape;") (by decide +kernel)) (fun _ h9 => h9) rfl dX8_feed_27 ?_
    refine lv_iload_n hx hb dX8_feed_30 rfl (lv_at hl 2 rfl) ?_
    refine fw_Vv (As := [.int x2]) (rest := []) (n := 1) (wr := [((xo 0), .inr (6, [.ref (ta 0), .ref xr, .int (xi 2), .ref (sa 0), .ref xm, .ref xg, .ref (tr 0), .ref xs, .ref xp, .ref xq, .ref xe, .ref xt]))]) (wp := fun b : OB => tpW k ta b) h hx hb hml hown hts hG hA hP hD hS hl.1 [1, 2, 3, 4, 5] [0] (fun q hq9 => c_X7_append l D k _  ta F x2 q2  hq9) (ci := 5) (q0 := 1) rfl rfl gX8_feed_X7_append rfl ⟨rfl, rfl, Nat.le_of_ble_eq_true rfl, Nat.le_of_ble_eq_true rfl⟩ (by decide +kernel) rfl rfl ⟨by decide, by decide, by decide⟩ ⟨rfl, rfl, Nat.le_of_ble_eq_true rfl, Nat.le_of_ble_eq_true rfl, Nat.le_of_ble_eq_true rfl⟩ dX8_feed_31 (fun q3 H locs h hP hD hS => ?_)
    have hP : va_P D vwCl ([((xo 0), .inr (6, [.ref (ta 0), .ref xr, .int (xi 2), .ref (sa 0), .ref xm, .ref xg, .ref (tr 0), .ref xs, .ref xp, .ref xq, .ref xe, .ref xt]))] ++ (tpW k ta q3)) H := hP
    have hD : va_D A ([((xo 0), .inr (6, [.ref (ta 0), .ref xr, .int (xi 2), .ref (sa 0), .ref xm, .ref xg, .ref (tr 0), .ref xs, .ref xp, .ref xq, .ref xe, .ref xt]))] ++ (tpW k ta q3)) := hD
    refine lv_aload_n hx hb dX8_feed_34 rfl (lv_at hl 0 rfl) ?_
    refine va_get (D := D) (ci := 6) (v := .ref (ta 0)) (C := RX8) (T := TX8) (N := 12) hx hb hts in8 hown hG.1 hP 0 rfl rfl 0 (by decide) (hts (.fieldLink RX8 10 "ChairCane" "tape" "LChairCane$Tape;") (by decide +kernel)) (fun _ h9 => h9) rfl dX8_feed_35 ?_
    refine lv_iload_n hx hb dX8_feed_38 rfl (lv_at hl 3 rfl) ?_
    refine fw_Vv (As := [.int x3]) (rest := []) (n := 1) (wr := [((xo 0), .inr (6, [.ref (ta 0), .ref xr, .int (xi 2), .ref (sa 0), .ref xm, .ref xg, .ref (tr 0), .ref xs, .ref xp, .ref xq, .ref xe, .ref xt]))]) (wp := fun b : OB => tpW k ta b) h hx hb hml hown hts hG hA hP hD hS hl.1 [1, 2, 3, 4, 5] [0] (fun q hq9 => c_X7_append l D k _  ta F x3 q3  hq9) (ci := 5) (q0 := 1) rfl rfl gX8_feed_X7_append rfl ⟨rfl, rfl, Nat.le_of_ble_eq_true rfl, Nat.le_of_ble_eq_true rfl⟩ (by decide +kernel) rfl rfl ⟨by decide, by decide, by decide⟩ ⟨rfl, rfl, Nat.le_of_ble_eq_true rfl, Nat.le_of_ble_eq_true rfl, Nat.le_of_ble_eq_true rfl⟩ dX8_feed_39 (fun q4 H locs h hP hD hS => ?_)
    have hP : va_P D vwCl ([((xo 0), .inr (6, [.ref (ta 0), .ref xr, .int (xi 2), .ref (sa 0), .ref xm, .ref xg, .ref (tr 0), .ref xs, .ref xp, .ref xq, .ref xe, .ref xt]))] ++ (tpW k ta q4)) H := hP
    have hD : va_D A ([((xo 0), .inr (6, [.ref (ta 0), .ref xr, .int (xi 2), .ref (sa 0), .ref xm, .ref xg, .ref (tr 0), .ref xs, .ref xp, .ref xq, .ref xe, .ref xt]))] ++ (tpW k ta q4)) := hD
    refine lv_aload_n hx hb dX8_feed_42 rfl (lv_at hl 0 rfl) ?_
    refine va_get (D := D) (ci := 6) (v := .ref (ta 0)) (C := RX8) (T := TX8) (N := 12) hx hb hts in8 hown hG.1 hP 0 rfl rfl 0 (by decide) (hts (.fieldLink RX8 10 "ChairCane" "tape" "LChairCane$Tape;") (by decide +kernel)) (fun _ h9 => h9) rfl dX8_feed_43 ?_
    refine lv_iload hx hb dX8_feed_46 (lv_at hl 4 rfl) ?_
    refine fw_Vv (As := [.int x4]) (rest := []) (n := 1) (wr := [((xo 0), .inr (6, [.ref (ta 0), .ref xr, .int (xi 2), .ref (sa 0), .ref xm, .ref xg, .ref (tr 0), .ref xs, .ref xp, .ref xq, .ref xe, .ref xt]))]) (wp := fun b : OB => tpW k ta b) h hx hb hml hown hts hG hA hP hD hS hl.1 [1, 2, 3, 4, 5] [0] (fun q hq9 => c_X7_append l D k _  ta F x4 q4  hq9) (ci := 5) (q0 := 1) rfl rfl gX8_feed_X7_append rfl ⟨rfl, rfl, Nat.le_of_ble_eq_true rfl, Nat.le_of_ble_eq_true rfl⟩ (by decide +kernel) rfl rfl ⟨by decide, by decide, by decide⟩ ⟨rfl, rfl, Nat.le_of_ble_eq_true rfl, Nat.le_of_ble_eq_true rfl, Nat.le_of_ble_eq_true rfl⟩ dX8_feed_48 (fun q5 H locs h hP hD hS => ?_)
    have hP : va_P D vwCl ([((xo 0), .inr (6, [.ref (ta 0), .ref xr, .int (xi 2), .ref (sa 0), .ref xm, .ref xg, .ref (tr 0), .ref xs, .ref xp, .ref xq, .ref xe, .ref xt]))] ++ (tpW k ta q5)) H := hP
    have hD : va_D A ([((xo 0), .inr (6, [.ref (ta 0), .ref xr, .int (xi 2), .ref (sa 0), .ref xm, .ref xg, .ref (tr 0), .ref xs, .ref xp, .ref xq, .ref xe, .ref xt]))] ++ (tpW k ta q5)) := hD
    refine lv_aload_n hx hb dX8_feed_51 rfl (lv_at hl 0 rfl) ?_
    refine va_get (D := D) (ci := 6) (v := .ref (ta 0)) (C := RX8) (T := TX8) (N := 12) hx hb hts in8 hown hG.1 hP 0 rfl rfl 0 (by decide) (hts (.fieldLink RX8 10 "ChairCane" "tape" "LChairCane$Tape;") (by decide +kernel)) (fun _ h9 => h9) rfl dX8_feed_52 ?_
    refine lv_iload hx hb dX8_feed_55 (lv_at hl 5 rfl) ?_
    refine fw_Vv (As := [.int x5]) (rest := []) (n := 1) (wr := [((xo 0), .inr (6, [.ref (ta 0), .ref xr, .int (xi 2), .ref (sa 0), .ref xm, .ref xg, .ref (tr 0), .ref xs, .ref xp, .ref xq, .ref xe, .ref xt]))]) (wp := fun b : OB => tpW k ta b) h hx hb hml hown hts hG hA hP hD hS hl.1 [1, 2, 3, 4, 5] [0] (fun q hq9 => c_X7_append l D k _  ta F x5 q5  hq9) (ci := 5) (q0 := 1) rfl rfl gX8_feed_X7_append rfl ⟨rfl, rfl, Nat.le_of_ble_eq_true rfl, Nat.le_of_ble_eq_true rfl⟩ (by decide +kernel) rfl rfl ⟨by decide, by decide, by decide⟩ ⟨rfl, rfl, Nat.le_of_ble_eq_true rfl, Nat.le_of_ble_eq_true rfl, Nat.le_of_ble_eq_true rfl⟩ dX8_feed_57 (fun q6 H locs h hP hD hS => ?_)
    have hP : va_P D vwCl ([((xo 0), .inr (6, [.ref (ta 0), .ref xr, .int (xi 2), .ref (sa 0), .ref xm, .ref xg, .ref (tr 0), .ref xs, .ref xp, .ref xq, .ref xe, .ref xt]))] ++ (tpW k ta q6)) H := hP
    have hD : va_D A ([((xo 0), .inr (6, [.ref (ta 0), .ref xr, .int (xi 2), .ref (sa 0), .ref xm, .ref xg, .ref (tr 0), .ref xs, .ref xp, .ref xq, .ref xe, .ref xt]))] ++ (tpW k ta q6)) := hD
    refine lv_aload_n hx hb dX8_feed_60 rfl (lv_at hl 0 rfl) ?_
    refine va_get (D := D) (ci := 6) (v := .ref (ta 0)) (C := RX8) (T := TX8) (N := 12) hx hb hts in8 hown hG.1 hP 0 rfl rfl 0 (by decide) (hts (.fieldLink RX8 10 "ChairCane" "tape" "LChairCane$Tape;") (by decide +kernel)) (fun _ h9 => h9) rfl dX8_feed_61 ?_
    refine va_get (D := D) (ci := 5) (v := .int (q6.1 1)) (C := RX7) (T := TX7) (N := 8) hx hb hts in7 hown hG.1 hP 1 rfl rfl 1 (by decide) (hts (.fieldLink RX8 65 "ChairCane$Tape" "length" "I") (by decide +kernel)) (fun _ h9 => h9) rfl dX8_feed_64 ?_
    exact fw_endI (rv := fun b : Int32 × OB => b.1) (wp := fun b : Int32 × OB => [((xo 0), .inr (6, [.ref (ta 0), .ref xr, .int (xi 2), .ref (sa 0), .ref xm, .ref xg, .ref (tr 0), .ref xs, .ref xp, .ref xq, .ref xe, .ref xt]))] ++ (tpW k ta b.2)) hx hb hr hlocks h rfl hP hD hS dX8_feed_67
  · have h := fw_f c1 h
    refine lv_iconst (v := (-1)) hx hb dX8_feed_16 (by decide) ?_
    exact fw_endI (rv := fun b : Int32 × OB => b.1) (wp := fun b : Int32 × OB => [((xo 0), .inr (6, [.ref (ta 0), .ref xr, .int (xi 2), .ref (sa 0), .ref xm, .ref xg, .ref (tr 0), .ref xs, .ref xp, .ref xq, .ref xe, .ref xt]))] ++ (tpW k ta b.2)) hx hb hr hlocks h rfl hP hD hS dX8_feed_17
def b_X8_end_15 (F : Nat)  (xi : Nat → Int32)  (tp : OB) : Option (Int32 × OB) :=
  some ((-1), tp)
def f_X8_end (F : Nat)  (x1 : Int32) (xi : Nat → Int32) (tp : OB) : Option (Int32 × OB) :=
  if x1 < 0 then (b_X8_end_15 F xi tp) else (if x1 ≤ (tp.1 1) then (some (x1, ((uF tp.1 1 x1), tp.2.1, tp.2.2))) else (b_X8_end_15 F xi tp))
set_option maxHeartbeats 4000000 in
set_option maxRecDepth 100000 in
theorem c_X8_end (l : Launch) (D : va_G) (k : Nat → ClassId) (sz : Nat)  (xo : Nat → Nat) (ta : Nat → Nat) (xr : Nat) (sa : Nat → Nat) (xm : Nat) (xg : Nat) (tr : Nat → Nat) (xs : Nat) (xp : Nat) (xq : Nat) (xe : Nat) (xt : Nat) (F : Nat)  (x1 : Int32) (xi : Nat → Int32) (tp : OB)  {res : Int32 × OB} (h : f_X8_end F x1 xi tp = some res) : CtI l yX8_end wsX8_end (rmK 1 0 0) [.ref (xo 0), .int x1] D k sz ([((xo 0), .inr (6, [.ref (ta 0), .ref xr, .int (xi 2), .ref (sa 0), .ref xm, .ref xg, .ref (tr 0), .ref xs, .ref xp, .ref xq, .ref xe, .ref xt]))] ++ (tpW k ta tp)) (fun r (_ : Unit) => r = res.1) (fun _ : Unit => [((xo 0), .inr (6, [.ref (ta 0), .ref xr, .int (xi 2), .ref (sa 0), .ref xm, .ref xg, .ref (tr 0), .ref xs, .ref xp, .ref xq, .ref xe, .ref xt]))] ++ (tpW k ta res.2)) 0 0 := by
  refine CtI.mk (cc := cX8_end) (maxL := 2) (ret := (some .int)) (by decide) rfl (Nat.le_of_ble_eq_true rfl) ?_
  intro p e s m below meth c A ls E hP hD hS hl
  obtain ⟨hx, hb, hr, hml, hown, hts, hlocks, hin, hG, hA⟩ := E
  have hown : s.vm.findClass RX8 = some m.cls := hown
  have in7 : ∀ w ∈ u_ws RX7 TX7 8, w ∈ wsX8_end := fun _ h => List.mem_cons_of_mem _ (List.mem_append_right _ h)
  have in8 : ∀ w ∈ u_ws RX8 TX8 12, w ∈ wsX8_end := fun _ h => List.mem_cons_of_mem _ (List.mem_append_left _ (List.mem_append_right _ h))
  have hl : lv_has ls 2 [(0, .ref (xo 0)), (1, .int x1)] := hl
  have B15 : ∀ (tp : OB) (H : Heap) (locs : List Loc) (ls : Array Slot), b_X8_end_15 F xi tp = some res → va_P D vwCl ([((xo 0), .inr (6, [.ref (ta 0), .ref xr, .int (xi 2), .ref (sa 0), .ref xm, .ref xg, .ref (tr 0), .ref xs, .ref xp, .ref xq, .ref xe, .ref xt]))] ++ (tpW k ta tp)) H → va_D A ([((xo 0), .inr (6, [.ref (ta 0), .ref xr, .int (xi 2), .ref (sa 0), .ref xm, .ref xg, .ref (tr 0), .ref xs, .ref xp, .ref xq, .ref xe, .ref xt]))] ++ (tpW k ta tp)) → va_S A s.heap H locs → lv_has ls 2 [] → W p l e (rmK 1 0 0) s m (List.toArray [.ref (xo 0), .int x1]) below meth c H locs 0 0 (MQ below (va_Qi (fun r (_ : Unit) => r = res.1) (hcB D (fun _ : Unit => [((xo 0), .inr (6, [.ref (ta 0), .ref xr, .int (xi 2), .ref (sa 0), .ref xm, .ref xg, .ref (tr 0), .ref xs, .ref xp, .ref xq, .ref xe, .ref xt]))] ++ (tpW k ta res.2)) A) A) (List.toArray [.ref (xo 0), .int x1]) s 0 0 A) (F0 m 15 ls []) := by
    intro tp H locs ls h hP hD hS hl
    refine lv_iconst (v := (-1)) hx hb dX8_end_15 (by decide) ?_
    exact fw_endI (rv := fun b : Int32 × OB => b.1) (wp := fun b : Int32 × OB => [((xo 0), .inr (6, [.ref (ta 0), .ref xr, .int (xi 2), .ref (sa 0), .ref xm, .ref xg, .ref (tr 0), .ref xs, .ref xp, .ref xq, .ref xe, .ref xt]))] ++ (tpW k ta b.2)) hx hb hr hlocks h rfl hP hD hS dX8_end_16
  refine lv_iload_n hx hb dX8_end_0 rfl (lv_at hl 1 rfl) ?_
  refine lv_if_lt (tgt := 15) hx hb dX8_end_1 (by decide) (fun c1 => ?_) (fun c1 => ?_)
  · have h := fw_t c1 h
    exact B15 _ _ _ _ h hP hD hS (lv_sub hl [] rfl)
  · have h := fw_f c1 h
    refine lv_iload_n hx hb dX8_end_4 rfl (lv_at hl 1 rfl) ?_
    refine lv_aload_n hx hb dX8_end_5 rfl (lv_at hl 0 rfl) ?_
    refine va_get (D := D) (ci := 6) (v := .ref (ta 0)) (C := RX8) (T := TX8) (N := 12) hx hb hts in8 hown hG.1 hP 0 rfl rfl 0 (by decide) (hts (.fieldLink RX8 10 "ChairCane" "tape" "LChairCane$Tape;") (by decide +kernel)) (fun _ h9 => h9) rfl dX8_end_6 ?_
    refine va_get (D := D) (ci := 5) (v := .int (tp.1 1)) (C := RX7) (T := TX7) (N := 8) hx hb hts in7 hown hG.1 hP 1 rfl rfl 1 (by decide) (hts (.fieldLink RX8 65 "ChairCane$Tape" "length" "I") (by decide +kernel)) (fun _ h9 => h9) rfl dX8_end_9 ?_
    refine lv_icmp_le (tgt := 17) hx hb dX8_end_12 (by decide) (fun c2 => ?_) (fun c2 => ?_)
    · have h := fw_t c2 h
      refine lv_aload_n hx hb dX8_end_17 rfl (lv_at hl 0 rfl) ?_
      refine va_get (D := D) (ci := 6) (v := .ref (ta 0)) (C := RX8) (T := TX8) (N := 12) hx hb hts in8 hown hG.1 hP 0 rfl rfl 0 (by decide) (hts (.fieldLink RX8 10 "ChairCane" "tape" "LChairCane$Tape;") (by decide +kernel)) (fun _ h9 => h9) rfl dX8_end_18 ?_
      refine lv_iload_n hx hb dX8_end_21 rfl (lv_at hl 1 rfl) ?_
      refine va_put (D := D) (ci := 5) (v := .int x1) (C := RX7) (T := TX7) (N := 8) hx hb hts in7 tyX7 tyX7_ok nmX7 hown hG.1 hP hD hS 1 rfl rfl 1 (by decide) (hts (.fieldLink RX8 65 "ChairCane$Tape" "length" "I") (by decide +kernel)) (fun _ h9 => h9) rfl (tyX7_ok 1 (by decide)) rfl rfl (Nat.le_of_ble_eq_true rfl) dX8_end_22 (fun H locs hP hD hS => ?_)
      refine lv_iload_n hx hb dX8_end_25 rfl (lv_at hl 1 rfl) ?_
      exact fw_endI (rv := fun b : Int32 × OB => b.1) (wp := fun b : Int32 × OB => [((xo 0), .inr (6, [.ref (ta 0), .ref xr, .int (xi 2), .ref (sa 0), .ref xm, .ref xg, .ref (tr 0), .ref xs, .ref xp, .ref xq, .ref xe, .ref xt]))] ++ (tpW k ta b.2)) hx hb hr hlocks h rfl hP hD hS dX8_end_26
    · have h := fw_f c2 h
      exact B15 _ _ _ _ h hP hD hS (lv_sub hl [] rfl)
def f_X8_rule (F : Nat)   (xi : Nat → Int32) (tp : OB) (xrr : Nat → Option Nat) (rz : Nat → OB) : Option (Int32 × (Nat → Int32) × OB × (Nat → OB)) :=
  if (xi 2) < 6 then (if ib (xi 2) 6 then (Option.bind (f_X5_read_u F (xi 2) tp rz) (fun q3 => (if q3.1 = 0 then (some (((-2) - (q3.2.1.1 7)), xi, ((uF q3.2.1.1 1 0), q3.2.1.2.1, q3.2.1.2.2), q3.2.2)) else (some ((((xi 2) + 1) - 1), (uF xi 2 ((xi 2) + 1)), ((uF q3.2.1.1 1 0), q3.2.1.2.1, q3.2.1.2.2), q3.2.2))))) else none) else (some ((-1), xi, tp, rz))
set_option maxHeartbeats 4000000 in
set_option maxRecDepth 100000 in
theorem c_X8_rule (l : Launch) (D : va_G) (k : Nat → ClassId) (sz : Nat) (ad tv : Nat → Nat) (xo : Nat → Nat) (ta : Nat → Nat) (xr : Nat) (sa : Nat → Nat) (xm : Nat) (xg : Nat) (tr : Nat → Nat) (xs : Nat) (xp : Nat) (xq : Nat) (xe : Nat) (xt : Nat) (ra : Nat → Nat) (F : Nat)   (xi : Nat → Int32) (tp : OB) (xrr : Nat → Option Nat) (rz : Nat → OB) (hq : ∀ i, i < 6 → xrr i = some (ra (6 * i))) {res : Int32 × (Nat → Int32) × OB × (Nat → OB)} (h : f_X8_rule F xi tp xrr rz = some res) : CtIE l yX8_rule wsX8_rule (rmK 29 0 0) [.ref (xo 0)] D k (EX ad tv) sz ([((xo 0), .inr (6, [.ref (ta 0), .ref xr, .int (xi 2), .ref (sa 0), .ref xm, .ref xg, .ref (tr 0), .ref xs, .ref xp, .ref xq, .ref xe, .ref xt]))] ++ (tpW k ta tp ++ ([(xr, hcR k 6 xrr)] ++ (RU k ra rz)))) (fun r (_ : Unit) => r = res.1) (fun _ : Unit => [((xo 0), .inr (6, [.ref (ta 0), .ref xr, .int (res.2.1 2), .ref (sa 0), .ref xm, .ref xg, .ref (tr 0), .ref xs, .ref xp, .ref xq, .ref xe, .ref xt]))] ++ (tpW k ta res.2.2.1 ++ ([(xr, hcR k 6 xrr)] ++ (RU k ra res.2.2.2)))) 0 0 := by
  refine CtIE.mk (cc := cX8_rule) (maxL := 3) (ret := (some .int)) (by decide) rfl (Nat.le_of_ble_eq_true rfl) ?_
  intro p e s m below meth c A ls hE E hP hD hS hl
  obtain ⟨hx, hb, hr, hml, hown, hts, hlocks, hin, hG, hA⟩ := E
  have hown : s.vm.findClass RX8 = some m.cls := hown
  have in4 : ∀ w ∈ u_ws RX4 TX4 8, w ∈ wsX8_rule := fun _ h => List.mem_cons_of_mem _ (List.mem_append_right _ h)
  have in7 : ∀ w ∈ u_ws RX7 TX7 8, w ∈ wsX8_rule := fun _ h => List.mem_cons_of_mem _ (List.mem_append_left _ (List.mem_append_right _ h))
  have in8 : ∀ w ∈ u_ws RX8 TX8 12, w ∈ wsX8_rule := fun _ h => List.mem_cons_of_mem _ (List.mem_append_left _ (List.mem_append_left _ (List.mem_append_right _ h)))
  have hl : lv_has ls 3 [(0, .ref (xo 0))] := hl
  refine lv_aload_n hx hb dX8_rule_0 rfl (lv_at hl 0 rfl) ?_
  refine va_get (D := D) (ci := 6) (v := .int (xi 2)) (C := RX8) (T := TX8) (N := 12) hx hb hts in8 hown hG.1 hP 0 rfl rfl 2 (by decide) (hts (.fieldLink RX8 22 "ChairCane" "ruleCount" "I") (by decide +kernel)) (fun _ h9 => h9) rfl dX8_rule_1 ?_
  refine lv_bipush (v := 6) hx hb dX8_rule_4 (by decide) ?_
  refine lv_icmp_lt (tgt := 11) hx hb dX8_rule_6 (by decide) (fun c1 => ?_) (fun c1 => ?_)
  · have h := fw_t c1 h
    refine lv_aload_n hx hb dX8_rule_11 rfl (lv_at hl 0 rfl) ?_
    refine va_get (D := D) (ci := 6) (v := .ref (ta 0)) (C := RX8) (T := TX8) (N := 12) hx hb hts in8 hown hG.1 hP 0 rfl rfl 0 (by decide) (hts (.fieldLink RX8 10 "ChairCane" "tape" "LChairCane$Tape;") (by decide +kernel)) (fun _ h9 => h9) rfl dX8_rule_12 ?_
    refine lv_aload_n hx hb dX8_rule_15 rfl (lv_at hl 0 rfl) ?_
    refine va_get (D := D) (ci := 6) (v := .ref xr) (C := RX8) (T := TX8) (N := 12) hx hb hts in8 hown hG.1 hP 0 rfl rfl 1 (by decide) (hts (.fieldLink RX8 18 "ChairCane" "rules" "[LChairCane$Rule;") (by decide +kernel)) (fun _ h9 => h9) rfl dX8_rule_16 ?_
    refine lv_aload_n hx hb dX8_rule_19 rfl (lv_at hl 0 rfl) ?_
    refine va_get (D := D) (ci := 6) (v := .int (xi 2)) (C := RX8) (T := TX8) (N := 12) hx hb hts in8 hown hG.1 hP 0 rfl rfl 2 (by decide) (hts (.fieldLink RX8 22 "ChairCane" "ruleCount" "I") (by decide +kernel)) (fun _ h9 => h9) rfl dX8_rule_20 ?_
    obtain ⟨g2, h⟩ := fw_g h
    refine va_aldq hx hb hG.1 hP 6 4 rfl rfl (ib_vp g2) dX8_rule_23 ?_
    refine hc_isV (z := va_rf (rAd ra (xi 2))) (rAd_at hq g2) ?_
    refine fw_SiE (As := [.ref (ta 0), va_rf (rAd ra (xi 2))]) (rest := []) (n := 2) (wr := [((xo 0), .inr (6, [.ref (ta 0), .ref xr, .int (xi 2), .ref (sa 0), .ref xm, .ref xg, .ref (tr 0), .ref xs, .ref xp, .ref xq, .ref xe, .ref xt]))] ++ ([(xr, hcR k 6 xrr)])) (rv := fun b : Int32 × OB × (Nat → OB) => b.1) (wp := fun b : Int32 × OB × (Nat → OB) => tpW k ta b.2.1 ++ (RU k ra b.2.2)) h (EX.ok ad tv) hE hx hb hml hown hts hG hA hP hD hS hl.1 [1, 2, 3, 4, 5, 7, 8, 9, 10, 11, 12, 13, 14, 15, 16, 17, 18, 19, 20, 21, 22, 23, 24, 25, 26, 27, 28, 29, 30, 31, 32, 33, 34, 35, 36, 37, 38, 39, 40, 41, 42] [0, 6] (fun q hq9 => c_X5_read_u l D k _ ad tv ta ra F (xi 2) tp rz  hq9) gX8_rule_X5_read rfl ⟨rfl, rfl, Nat.le_of_ble_eq_true rfl, Nat.le_of_ble_eq_true rfl⟩ (by decide +kernel) rfl rfl ⟨by decide, by decide, by decide⟩ ⟨rfl, rfl, Nat.le_of_ble_eq_true rfl, Nat.le_of_ble_eq_true rfl, Nat.le_of_ble_eq_true rfl⟩ dX8_rule_24 (fun q3 H locs h hP hD hS => ?_)
    have hP : va_P D vwCl ([((xo 0), .inr (6, [.ref (ta 0), .ref xr, .int (xi 2), .ref (sa 0), .ref xm, .ref xg, .ref (tr 0), .ref xs, .ref xp, .ref xq, .ref xe, .ref xt]))] ++ ([(xr, hcR k 6 xrr)] ++ (tpW k ta q3.2.1 ++ (RU k ra q3.2.2)))) H := hP
    have hD : va_D A ([((xo 0), .inr (6, [.ref (ta 0), .ref xr, .int (xi 2), .ref (sa 0), .ref xm, .ref xg, .ref (tr 0), .ref xs, .ref xp, .ref xq, .ref xe, .ref xt]))] ++ ([(xr, hcR k 6 xrr)] ++ (tpW k ta q3.2.1 ++ (RU k ra q3.2.2)))) := hD
    refine hc_is (z := q3.1) rfl ?_
    refine lv_istore_n (lv' := [(1, .int q3.1), (0, .ref (xo 0))]) hx hb dX8_rule_27 rfl hl (by decide) rfl (fun ls hl => ?_)
    refine lv_aload_n hx hb dX8_rule_28 rfl (lv_at hl 1 rfl) ?_
    refine va_get (D := D) (ci := 6) (v := .ref (ta 0)) (C := RX8) (T := TX8) (N := 12) hx hb hts in8 hown hG.1 hP 0 rfl rfl 0 (by decide) (hts (.fieldLink RX8 10 "ChairCane" "tape" "LChairCane$Tape;") (by decide +kernel)) (fun _ h9 => h9) rfl dX8_rule_29 ?_
    refine va_get (D := D) (ci := 5) (v := .int (q3.2.1.1 7)) (C := RX7) (T := TX7) (N := 8) hx hb hts in7 hown hG.1 hP 2 rfl rfl 7 (by decide) (hts (.fieldLink RX8 78 "ChairCane$Tape" "fault" "I") (by decide +kernel)) (fun _ h9 => h9) rfl dX8_rule_32 ?_
    refine lv_istore_n (lv' := [(2, .int (q3.2.1.1 7)), (1, .int q3.1), (0, .ref (xo 0))]) hx hb dX8_rule_35 rfl hl (by decide) rfl (fun ls hl => ?_)
    refine lv_aload_n hx hb dX8_rule_36 rfl (lv_at hl 2 rfl) ?_
    refine va_get (D := D) (ci := 6) (v := .ref (ta 0)) (C := RX8) (T := TX8) (N := 12) hx hb hts in8 hown hG.1 hP 0 rfl rfl 0 (by decide) (hts (.fieldLink RX8 10 "ChairCane" "tape" "LChairCane$Tape;") (by decide +kernel)) (fun _ h9 => h9) rfl dX8_rule_37 ?_
    refine lv_iconst (v := 0) hx hb dX8_rule_40 (by decide) ?_
    refine va_put (D := D) (ci := 5) (v := .int 0) (C := RX7) (T := TX7) (N := 8) hx hb hts in7 tyX7 tyX7_ok nmX7 hown hG.1 hP hD hS 2 rfl rfl 1 (by decide) (hts (.fieldLink RX8 65 "ChairCane$Tape" "length" "I") (by decide +kernel)) (fun _ h9 => h9) rfl (tyX7_ok 1 (by decide)) rfl rfl (Nat.le_of_ble_eq_true rfl) dX8_rule_41 (fun H locs hP hD hS => ?_)
    refine lv_iload_n hx hb dX8_rule_44 rfl (lv_at hl 1 rfl) ?_
    refine lv_if_ne (tgt := 53) hx hb dX8_rule_45 (by decide) (fun c4 => ?_) (fun c4 => ?_)
    · have h := fw_f c4 h
      refine lv_aload_n hx hb dX8_rule_53 rfl (lv_at hl 2 rfl) ?_
      refine lv_dup hx hb dX8_rule_54 rfl ?_
      refine va_get (D := D) (ci := 6) (v := .int (xi 2)) (C := RX8) (T := TX8) (N := 12) hx hb hts in8 hown hG.1 hP 0 rfl rfl 2 (by decide) (hts (.fieldLink RX8 22 "ChairCane" "ruleCount" "I") (by decide +kernel)) (fun _ h9 => h9) rfl dX8_rule_55 ?_
      refine lv_iconst (v := 1) hx hb dX8_rule_58 (by decide) ?_
      refine lv_iadd hx hb dX8_rule_59 ?_
      refine va_put (D := D) (ci := 6) (v := .int ((xi 2) + 1)) (C := RX8) (T := TX8) (N := 12) hx hb hts in8 tyX8 tyX8_ok nmX8 hown hG.1 hP hD hS 0 rfl rfl 2 (by decide) (hts (.fieldLink RX8 22 "ChairCane" "ruleCount" "I") (by decide +kernel)) (fun _ h9 => h9) rfl (tyX8_ok 2 (by decide)) rfl rfl (Nat.le_of_ble_eq_true rfl) dX8_rule_60 (fun H locs hP hD hS => ?_)
      refine lv_aload_n hx hb dX8_rule_63 rfl (lv_at hl 2 rfl) ?_
      refine va_get (D := D) (ci := 6) (v := .int ((xi 2) + 1)) (C := RX8) (T := TX8) (N := 12) hx hb hts in8 hown hG.1 hP 0 rfl rfl 2 (by decide) (hts (.fieldLink RX8 22 "ChairCane" "ruleCount" "I") (by decide +kernel)) (fun _ h9 => h9) rfl dX8_rule_64 ?_
      refine lv_iconst (v := 1) hx hb dX8_rule_67 (by decide) ?_
      refine lv_isub hx hb dX8_rule_68 ?_
      exact fw_endI (rv := fun b : Int32 × (Nat → Int32) × OB × (Nat → OB) => b.1) (wp := fun b : Int32 × (Nat → Int32) × OB × (Nat → OB) => [((xo 0), .inr (6, [.ref (ta 0), .ref xr, .int (b.2.1 2), .ref (sa 0), .ref xm, .ref xg, .ref (tr 0), .ref xs, .ref xp, .ref xq, .ref xe, .ref xt]))] ++ (tpW k ta b.2.2.1 ++ ([(xr, hcR k 6 xrr)] ++ (RU k ra b.2.2.2)))) hx hb hr hlocks h rfl (hP.sub [0, 2, 3, 4, 5, 6, 1, 7, 8, 9, 10, 11, 12, 13, 14, 15, 16, 17, 18, 19, 20, 21, 22, 23, 24, 25, 26, 27, 28, 29, 30, 31, 32, 33, 34, 35, 36, 37, 38, 39, 40, 41, 42] rfl) (hD.sub [0, 2, 3, 4, 5, 6, 1, 7, 8, 9, 10, 11, 12, 13, 14, 15, 16, 17, 18, 19, 20, 21, 22, 23, 24, 25, 26, 27, 28, 29, 30, 31, 32, 33, 34, 35, 36, 37, 38, 39, 40, 41, 42] (by decide) rfl) hS dX8_rule_69
    · have h := fw_t c4 h
      refine lv_bipush (v := (-2)) hx hb dX8_rule_48 (by decide) ?_
      refine lv_iload_n hx hb dX8_rule_50 rfl (lv_at hl 0 rfl) ?_
      refine lv_isub hx hb dX8_rule_51 ?_
      exact fw_endI (rv := fun b : Int32 × (Nat → Int32) × OB × (Nat → OB) => b.1) (wp := fun b : Int32 × (Nat → Int32) × OB × (Nat → OB) => [((xo 0), .inr (6, [.ref (ta 0), .ref xr, .int (b.2.1 2), .ref (sa 0), .ref xm, .ref xg, .ref (tr 0), .ref xs, .ref xp, .ref xq, .ref xe, .ref xt]))] ++ (tpW k ta b.2.2.1 ++ ([(xr, hcR k 6 xrr)] ++ (RU k ra b.2.2.2)))) hx hb hr hlocks h rfl (hP.sub [0, 2, 3, 4, 5, 6, 1, 7, 8, 9, 10, 11, 12, 13, 14, 15, 16, 17, 18, 19, 20, 21, 22, 23, 24, 25, 26, 27, 28, 29, 30, 31, 32, 33, 34, 35, 36, 37, 38, 39, 40, 41, 42] rfl) (hD.sub [0, 2, 3, 4, 5, 6, 1, 7, 8, 9, 10, 11, 12, 13, 14, 15, 16, 17, 18, 19, 20, 21, 22, 23, 24, 25, 26, 27, 28, 29, 30, 31, 32, 33, 34, 35, 36, 37, 38, 39, 40, 41, 42] (by decide) rfl) hS dX8_rule_52
  · have h := fw_f c1 h
    refine lv_iconst (v := (-1)) hx hb dX8_rule_9 (by decide) ?_
    exact fw_endI (rv := fun b : Int32 × (Nat → Int32) × OB × (Nat → OB) => b.1) (wp := fun b : Int32 × (Nat → Int32) × OB × (Nat → OB) => [((xo 0), .inr (6, [.ref (ta 0), .ref xr, .int (b.2.1 2), .ref (sa 0), .ref xm, .ref xg, .ref (tr 0), .ref xs, .ref xp, .ref xq, .ref xe, .ref xt]))] ++ (tpW k ta b.2.2.1 ++ ([(xr, hcR k 6 xrr)] ++ (RU k ra b.2.2.2)))) hx hb hr hlocks h rfl hP hD hS dX8_rule_10
theorem dX8_hall_0 : decode cX8_hall 0 = .ok (.aload_n 0, 1) := by decide +kernel
theorem dX8_hall_1 : decode cX8_hall 1 = .ok (.getfield 10, 3) := by decide +kernel
theorem dX8_hall_4 : decode cX8_hall 4 = .ok (.aload_n 0, 1) := by decide +kernel
theorem dX8_hall_5 : decode cX8_hall 5 = .ok (.getfield 44, 3) := by decide +kernel
theorem dX8_hall_8 : decode cX8_hall 8 = .ok (.invokestatic 72, 3) := by decide +kernel
theorem dX8_hall_11 : decode cX8_hall 11 = .ok (.istore_n 1, 1) := by decide +kernel
theorem dX8_hall_12 : decode cX8_hall 12 = .ok (.aload_n 0, 1) := by decide +kernel
theorem dX8_hall_13 : decode cX8_hall 13 = .ok (.getfield 10, 3) := by decide +kernel
theorem dX8_hall_16 : decode cX8_hall 16 = .ok (.getfield 78, 3) := by decide +kernel
theorem dX8_hall_19 : decode cX8_hall 19 = .ok (.istore_n 2, 1) := by decide +kernel
theorem dX8_hall_20 : decode cX8_hall 20 = .ok (.aload_n 0, 1) := by decide +kernel
theorem dX8_hall_21 : decode cX8_hall 21 = .ok (.getfield 10, 3) := by decide +kernel
theorem dX8_hall_24 : decode cX8_hall 24 = .ok (.iconst 0, 1) := by decide +kernel
theorem dX8_hall_25 : decode cX8_hall 25 = .ok (.putfield 65, 3) := by decide +kernel
theorem dX8_hall_28 : decode cX8_hall 28 = .ok (.iload_n 1, 1) := by decide +kernel
theorem dX8_hall_29 : decode cX8_hall 29 = .ok (.ifCond .ne 8, 3) := by decide +kernel
theorem dX8_hall_32 : decode cX8_hall 32 = .ok (.bipush (-2), 2) := by decide +kernel
theorem dX8_hall_34 : decode cX8_hall 34 = .ok (.iload_n 2, 1) := by decide +kernel
theorem dX8_hall_35 : decode cX8_hall 35 = .ok (.isub, 1) := by decide +kernel
theorem dX8_hall_36 : decode cX8_hall 36 = .ok (.ireturn, 1) := by decide +kernel
theorem dX8_hall_37 : decode cX8_hall 37 = .ok (.aload_n 0, 1) := by decide +kernel
theorem dX8_hall_38 : decode cX8_hall 38 = .ok (.getfield 29, 3) := by decide +kernel
theorem dX8_hall_41 : decode cX8_hall 41 = .ok (.getfield 81, 3) := by decide +kernel
theorem dX8_hall_44 : decode cX8_hall 44 = .ok (.aload_n 0, 1) := by decide +kernel
theorem dX8_hall_45 : decode cX8_hall 45 = .ok (.getfield 44, 3) := by decide +kernel
theorem dX8_hall_48 : decode cX8_hall 48 = .ok (.invokevirtual 84, 3) := by decide +kernel
theorem dX8_hall_51 : decode cX8_hall 51 = .ok (.aload_n 0, 1) := by decide +kernel
theorem dX8_hall_52 : decode cX8_hall 52 = .ok (.getfield 29, 3) := by decide +kernel
theorem dX8_hall_55 : decode cX8_hall 55 = .ok (.getfield 88, 3) := by decide +kernel
theorem dX8_hall_58 : decode cX8_hall 58 = .ok (.invokevirtual 92, 3) := by decide +kernel
theorem dX8_hall_61 : decode cX8_hall 61 = .ok (.aload_n 0, 1) := by decide +kernel
theorem dX8_hall_62 : decode cX8_hall 62 = .ok (.getfield 29, 3) := by decide +kernel
theorem dX8_hall_65 : decode cX8_hall 65 = .ok (.getfield 97, 3) := by decide +kernel
theorem dX8_hall_68 : decode cX8_hall 68 = .ok (.invokevirtual 101, 3) := by decide +kernel
theorem dX8_hall_71 : decode cX8_hall 71 = .ok (.aload_n 0, 1) := by decide +kernel
theorem dX8_hall_72 : decode cX8_hall 72 = .ok (.getfield 29, 3) := by decide +kernel
theorem dX8_hall_75 : decode cX8_hall 75 = .ok (.getfield 81, 3) := by decide +kernel
theorem dX8_hall_78 : decode cX8_hall 78 = .ok (.getfield 104, 3) := by decide +kernel
theorem dX8_hall_81 : decode cX8_hall 81 = .ok (.ireturn, 1) := by decide +kernel
set_option maxRecDepth 20000 in
theorem ggX8_hall_X0_forget : GoodIn wsX8_hall wsX0_forget := goodIn_r _ [215, 216, 265, 266, 267, 268, 269] (by decide +kernel) (by decide +kernel)
set_option maxRecDepth 20000 in
theorem gX8_hall_X0_forget : GoodIn wsX8_hall (wsV RX8 92 RX0 yX0_forget wsX0_forget) := goodIn_app (goodIn_of _ (by decide +kernel)) ggX8_hall_X0_forget
set_option maxRecDepth 20000 in
theorem ggX8_hall_X1_read : GoodIn wsX8_hall wsX1_read := goodIn_r _ [13, 14, 15, 16, 17, 18, 19, 20, 21, 22, 23, 24, 25, 26, 27, 28, 29, 30, 31, 32, 33, 34, 35, 36, 37, 38, 39, 40, 41, 42, 43, 44, 45, 46, 47, 48, 49, 50, 51, 52, 53, 54, 55, 56, 57, 58, 59, 60, 61, 62, 63, 64, 65, 66, 67, 68, 69, 70, 71, 72, 73, 74, 75, 76, 77, 78, 79, 80, 81, 82, 83, 84, 85, 86, 87, 88, 89, 90, 91, 92, 93, 94, 95, 96, 97, 98, 99, 100, 101, 102, 103, 104, 105, 106, 107, 108, 109, 110, 111, 112, 113, 114, 115, 116, 117, 118, 119, 120, 121, 122, 123, 12, 124, 125, 126, 127, 128, 129, 130, 131, 132, 133, 134, 135, 136, 137, 138, 139, 140, 141, 142, 143, 144, 145, 146, 147, 148, 149, 150, 151, 152, 153, 154, 155, 156, 157, 158, 159, 160, 161, 162, 163, 164, 165, 166, 167, 168, 169, 170, 171, 172, 173, 174, 175, 176, 177, 178, 179, 180, 181, 182, 183, 184, 185, 186, 187, 188, 189, 190, 191, 192, 193, 194, 195, 196, 197, 198, 199, 200, 201, 202, 203, 204, 205, 235, 236, 237, 238, 239, 240, 241, 242, 248, 249, 250, 251, 252, 253, 254, 255, 256, 257, 258, 259, 260, 261, 262, 263, 264] (by decide +kernel) (by decide +kernel)
set_option maxRecDepth 20000 in
theorem gX8_hall_X1_read : GoodIn wsX8_hall (va_wsS RX8 72 yX1_read wsX1_read) := goodIn_app (goodIn_of _ (by decide +kernel)) ggX8_hall_X1_read
set_option maxRecDepth 20000 in
theorem ggX8_hall_X2_forget : GoodIn wsX8_hall wsX2_forget := goodIn_r _ [221, 222, 270, 271, 272, 273] (by decide +kernel) (by decide +kernel)
set_option maxRecDepth 20000 in
theorem gX8_hall_X2_forget : GoodIn wsX8_hall (wsV RX8 101 RX2 yX2_forget wsX2_forget) := goodIn_app (goodIn_of _ (by decide +kernel)) ggX8_hall_X2_forget
set_option maxRecDepth 20000 in
theorem ggX8_hall_X3_copyFrom : GoodIn wsX8_hall wsX3_copyFrom := goodIn_r _ [209, 118, 119, 120, 121, 176, 178, 179, 180, 181, 210, 192, 171, 193, 177, 190, 191, 182, 183, 184, 185, 248, 249, 250, 251, 252, 253, 254, 255, 256, 257, 258, 259, 260, 261, 262, 263, 264] (by decide +kernel) (by decide +kernel)
set_option maxRecDepth 20000 in
theorem gX8_hall_X3_copyFrom : GoodIn wsX8_hall (wsV RX8 84 RX3 yX3_copyFrom wsX3_copyFrom) := goodIn_app (goodIn_of _ (by decide +kernel)) ggX8_hall_X3_copyFrom
def f_X8_hall (F : Nat)   (xi : Nat → Int32) (tp : OB) (si : Nat → Int32) (rm : OB) (ac : OB) (nt : OB) (tm : OB) : Option (Int32 × OB × OB × OB × OB × OB) :=
  Option.bind (f_X1_read F tp tm) (fun q1 => (if q1.1 = 0 then (some (((-2) - (q1.2.1.1 7)), ((uF q1.2.1.1 1 0), q1.2.1.2.1, q1.2.1.2.2), rm, ac, nt, q1.2.2)) else (Option.bind (f_X3_copyFrom F rm q1.2.2) (fun q3 => (Option.bind (f_X0_forget F ac) (fun q4 => (Option.bind (f_X2_forget F nt) (fun q5 => (some ((q3.1 3), ((uF q1.2.1.1 1 0), q1.2.1.2.1, q1.2.1.2.2), q3, q4, q5, q1.2.2))))))))))
set_option maxHeartbeats 4000000 in
set_option maxRecDepth 100000 in
theorem c_X8_hall (l : Launch) (D : va_G) (k : Nat → ClassId) (sz : Nat) (ad tv : Nat → Nat) (xo : Nat → Nat) (ta : Nat → Nat) (xr : Nat) (sa : Nat → Nat) (xm : Nat) (xg : Nat) (tr : Nat → Nat) (xs : Nat) (xp : Nat) (xq : Nat) (xe : Nat) (xt : Nat) (xa : Nat → Nat) (ca : Nat → Nat) (na : Nat → Nat) (F : Nat)   (xi : Nat → Int32) (tp : OB) (si : Nat → Int32) (rm : OB) (ac : OB) (nt : OB) (tm : OB)  {res : Int32 × OB × OB × OB × OB × OB} (h : f_X8_hall F xi tp si rm ac nt tm = some res) : CtIE l yX8_hall wsX8_hall (rmK 10 0 0) [.ref (xo 0)] D k (EX ad tv) sz ([((xo 0), .inr (6, [.ref (ta 0), .ref xr, .int (xi 2), .ref (sa 0), .ref xm, .ref xg, .ref (tr 0), .ref xs, .ref xp, .ref xq, .ref xe, .ref xt]))] ++ (tpW k ta tp ++ ([((sa 0), .inr (4, [.ref (xa 0), .ref (ca 0), .ref (na 0), .int (si 3), .int (si 4)]))] ++ (rmW k xa rm ++ (acW k ca ac ++ (ntW k na nt ++ (rmW k tr tm))))))) (fun r (_ : Unit) => r = res.1) (fun _ : Unit => [((xo 0), .inr (6, [.ref (ta 0), .ref xr, .int (xi 2), .ref (sa 0), .ref xm, .ref xg, .ref (tr 0), .ref xs, .ref xp, .ref xq, .ref xe, .ref xt]))] ++ (tpW k ta res.2.1 ++ ([((sa 0), .inr (4, [.ref (xa 0), .ref (ca 0), .ref (na 0), .int (si 3), .int (si 4)]))] ++ (rmW k xa res.2.2.1 ++ (acW k ca res.2.2.2.1 ++ (ntW k na res.2.2.2.2.1 ++ (rmW k tr res.2.2.2.2.2))))))) 0 0 := by
  refine CtIE.mk (cc := cX8_hall) (maxL := 3) (ret := (some .int)) (by decide) rfl (Nat.le_of_ble_eq_true rfl) ?_
  intro p e s m below meth c A ls hE E hP hD hS hl
  obtain ⟨hx, hb, hr, hml, hown, hts, hlocks, hin, hG, hA⟩ := E
  have hown : s.vm.findClass RX8 = some m.cls := hown
  have in0 : ∀ w ∈ u_ws RX0 TX0 5, w ∈ wsX8_hall := fun _ h => List.mem_cons_of_mem _ (List.mem_append_left _ (List.mem_append_right _ h))
  have in2 : ∀ w ∈ u_ws RX2 TX2 4, w ∈ wsX8_hall := fun _ h => List.mem_cons_of_mem _ (List.mem_append_right _ h)
  have in3 : ∀ w ∈ u_ws RX3 TX3 17, w ∈ wsX8_hall := fun _ h => List.mem_cons_of_mem _ (List.mem_append_left _ (List.mem_append_left _ (List.mem_append_right _ h)))
  have in6 : ∀ w ∈ u_ws RX6 TX6 5, w ∈ wsX8_hall := fun _ h => List.mem_cons_of_mem _ (List.mem_append_left _ (List.mem_append_left _ (List.mem_append_left _ (List.mem_append_right _ h))))
  have in7 : ∀ w ∈ u_ws RX7 TX7 8, w ∈ wsX8_hall := fun _ h => List.mem_cons_of_mem _ (List.mem_append_left _ (List.mem_append_left _ (List.mem_append_left _ (List.mem_append_left _ (List.mem_append_right _ h)))))
  have in8 : ∀ w ∈ u_ws RX8 TX8 12, w ∈ wsX8_hall := fun _ h => List.mem_cons_of_mem _ (List.mem_append_left _ (List.mem_append_left _ (List.mem_append_left _ (List.mem_append_left _ (List.mem_append_left _ (List.mem_append_right _ h))))))
  have hl : lv_has ls 3 [(0, .ref (xo 0))] := hl
  refine lv_aload_n hx hb dX8_hall_0 rfl (lv_at hl 0 rfl) ?_
  refine va_get (D := D) (ci := 6) (v := .ref (ta 0)) (C := RX8) (T := TX8) (N := 12) hx hb hts in8 hown hG.1 hP 0 rfl rfl 0 (by decide) (hts (.fieldLink RX8 10 "ChairCane" "tape" "LChairCane$Tape;") (by decide +kernel)) (fun _ h9 => h9) rfl dX8_hall_1 ?_
  refine lv_aload_n hx hb dX8_hall_4 rfl (lv_at hl 0 rfl) ?_
  refine va_get (D := D) (ci := 6) (v := .ref (tr 0)) (C := RX8) (T := TX8) (N := 12) hx hb hts in8 hown hG.1 hP 0 rfl rfl 6 (by decide) (hts (.fieldLink RX8 44 "ChairCane" "trial" "LChairCane$Room;") (by decide +kernel)) (fun _ h9 => h9) rfl dX8_hall_5 ?_
  refine fw_SiE (As := [.ref (ta 0), .ref (tr 0)]) (rest := []) (n := 2) (wr := [((xo 0), .inr (6, [.ref (ta 0), .ref xr, .int (xi 2), .ref (sa 0), .ref xm, .ref xg, .ref (tr 0), .ref xs, .ref xp, .ref xq, .ref xe, .ref xt]))] ++ ([((sa 0), .inr (4, [.ref (xa 0), .ref (ca 0), .ref (na 0), .int (si 3), .int (si 4)]))] ++ (rmW k xa rm ++ (acW k ca ac ++ (ntW k na nt))))) (rv := fun b : Int32 × OB × OB => b.1) (wp := fun b : Int32 × OB × OB => tpW k ta b.2.1 ++ (rmW k tr b.2.2)) h (EX.ok ad tv) hE hx hb hml hown hts hG hA hP hD hS hl.1 [1, 2, 3, 4, 5, 24, 25, 26, 27, 28, 29, 30, 31, 32] [0, 6, 7, 8, 9, 10, 11, 12, 13, 14, 15, 16, 17, 18, 19, 20, 21, 22, 23] (fun q hq9 => c_X1_read l D k _ ad tv ta tr F  tp tm  hq9) gX8_hall_X1_read rfl ⟨rfl, rfl, Nat.le_of_ble_eq_true rfl, Nat.le_of_ble_eq_true rfl⟩ (by decide +kernel) rfl rfl ⟨by decide, by decide, by decide⟩ ⟨rfl, rfl, Nat.le_of_ble_eq_true rfl, Nat.le_of_ble_eq_true rfl, Nat.le_of_ble_eq_true rfl⟩ dX8_hall_8 (fun q1 H locs h hP hD hS => ?_)
  have hP : va_P D vwCl ([((xo 0), .inr (6, [.ref (ta 0), .ref xr, .int (xi 2), .ref (sa 0), .ref xm, .ref xg, .ref (tr 0), .ref xs, .ref xp, .ref xq, .ref xe, .ref xt]))] ++ ([((sa 0), .inr (4, [.ref (xa 0), .ref (ca 0), .ref (na 0), .int (si 3), .int (si 4)]))] ++ (rmW k xa rm ++ (acW k ca ac ++ (ntW k na nt ++ (tpW k ta q1.2.1 ++ (rmW k tr q1.2.2))))))) H := hP
  have hD : va_D A ([((xo 0), .inr (6, [.ref (ta 0), .ref xr, .int (xi 2), .ref (sa 0), .ref xm, .ref xg, .ref (tr 0), .ref xs, .ref xp, .ref xq, .ref xe, .ref xt]))] ++ ([((sa 0), .inr (4, [.ref (xa 0), .ref (ca 0), .ref (na 0), .int (si 3), .int (si 4)]))] ++ (rmW k xa rm ++ (acW k ca ac ++ (ntW k na nt ++ (tpW k ta q1.2.1 ++ (rmW k tr q1.2.2))))))) := hD
  refine hc_is (z := q1.1) rfl ?_
  refine lv_istore_n (lv' := [(1, .int q1.1), (0, .ref (xo 0))]) hx hb dX8_hall_11 rfl hl (by decide) rfl (fun ls hl => ?_)
  refine lv_aload_n hx hb dX8_hall_12 rfl (lv_at hl 1 rfl) ?_
  refine va_get (D := D) (ci := 6) (v := .ref (ta 0)) (C := RX8) (T := TX8) (N := 12) hx hb hts in8 hown hG.1 hP 0 rfl rfl 0 (by decide) (hts (.fieldLink RX8 10 "ChairCane" "tape" "LChairCane$Tape;") (by decide +kernel)) (fun _ h9 => h9) rfl dX8_hall_13 ?_
  refine va_get (D := D) (ci := 5) (v := .int (q1.2.1.1 7)) (C := RX7) (T := TX7) (N := 8) hx hb hts in7 hown hG.1 hP 19 rfl rfl 7 (by decide) (hts (.fieldLink RX8 78 "ChairCane$Tape" "fault" "I") (by decide +kernel)) (fun _ h9 => h9) rfl dX8_hall_16 ?_
  refine lv_istore_n (lv' := [(2, .int (q1.2.1.1 7)), (1, .int q1.1), (0, .ref (xo 0))]) hx hb dX8_hall_19 rfl hl (by decide) rfl (fun ls hl => ?_)
  refine lv_aload_n hx hb dX8_hall_20 rfl (lv_at hl 2 rfl) ?_
  refine va_get (D := D) (ci := 6) (v := .ref (ta 0)) (C := RX8) (T := TX8) (N := 12) hx hb hts in8 hown hG.1 hP 0 rfl rfl 0 (by decide) (hts (.fieldLink RX8 10 "ChairCane" "tape" "LChairCane$Tape;") (by decide +kernel)) (fun _ h9 => h9) rfl dX8_hall_21 ?_
  refine lv_iconst (v := 0) hx hb dX8_hall_24 (by decide) ?_
  refine va_put (D := D) (ci := 5) (v := .int 0) (C := RX7) (T := TX7) (N := 8) hx hb hts in7 tyX7 tyX7_ok nmX7 hown hG.1 hP hD hS 19 rfl rfl 1 (by decide) (hts (.fieldLink RX8 65 "ChairCane$Tape" "length" "I") (by decide +kernel)) (fun _ h9 => h9) rfl (tyX7_ok 1 (by decide)) rfl rfl (Nat.le_of_ble_eq_true rfl) dX8_hall_25 (fun H locs hP hD hS => ?_)
  refine lv_iload_n hx hb dX8_hall_28 rfl (lv_at hl 1 rfl) ?_
  refine lv_if_ne (tgt := 37) hx hb dX8_hall_29 (by decide) (fun c2 => ?_) (fun c2 => ?_)
  · have h := fw_f c2 h
    refine lv_aload_n hx hb dX8_hall_37 rfl (lv_at hl 2 rfl) ?_
    refine va_get (D := D) (ci := 6) (v := .ref (sa 0)) (C := RX8) (T := TX8) (N := 12) hx hb hts in8 hown hG.1 hP 0 rfl rfl 3 (by decide) (hts (.fieldLink RX8 29 "ChairCane" "now" "LChairCane$Standing;") (by decide +kernel)) (fun _ h9 => h9) rfl dX8_hall_38 ?_
    refine va_get (D := D) (ci := 4) (v := .ref (xa 0)) (C := RX6) (T := TX6) (N := 5) hx hb hts in6 hown hG.1 hP 1 rfl rfl 0 (by decide) (hts (.fieldLink RX8 81 "ChairCane$Standing" "room" "LChairCane$Room;") (by decide +kernel)) (fun _ h9 => h9) rfl dX8_hall_41 ?_
    refine lv_aload_n hx hb dX8_hall_44 rfl (lv_at hl 2 rfl) ?_
    refine va_get (D := D) (ci := 6) (v := .ref (tr 0)) (C := RX8) (T := TX8) (N := 12) hx hb hts in8 hown hG.1 hP 0 rfl rfl 6 (by decide) (hts (.fieldLink RX8 44 "ChairCane" "trial" "LChairCane$Room;") (by decide +kernel)) (fun _ h9 => h9) rfl dX8_hall_45 ?_
    have hP : va_P D vwCl ([((xo 0), .inr (6, [.ref (ta 0), .ref xr, .int (xi 2), .ref (sa 0), .ref xm, .ref xg, .ref (tr 0), .ref xs, .ref xp, .ref xq, .ref xe, .ref xt]))] ++ ([((sa 0), .inr (4, [.ref (xa 0), .ref (ca 0), .ref (na 0), .int (si 3), .int (si 4)]))] ++ (rmW k xa rm ++ (acW k ca ac ++ (ntW k na nt ++ (tpW k ta ((uF q1.2.1.1 1 0), q1.2.1.2.1, q1.2.1.2.2) ++ (rmW k tr q1.2.2))))))) H := hP
    have hD : va_D A ([((xo 0), .inr (6, [.ref (ta 0), .ref xr, .int (xi 2), .ref (sa 0), .ref xm, .ref xg, .ref (tr 0), .ref xs, .ref xp, .ref xq, .ref xe, .ref xt]))] ++ ([((sa 0), .inr (4, [.ref (xa 0), .ref (ca 0), .ref (na 0), .int (si 3), .int (si 4)]))] ++ (rmW k xa rm ++ (acW k ca ac ++ (ntW k na nt ++ (tpW k ta ((uF q1.2.1.1 1 0), q1.2.1.2.1, q1.2.1.2.2) ++ (rmW k tr q1.2.2))))))) := hD
    refine fw_Vv (As := [.ref (tr 0)]) (rest := []) (n := 1) (wr := [((xo 0), .inr (6, [.ref (ta 0), .ref xr, .int (xi 2), .ref (sa 0), .ref xm, .ref xg, .ref (tr 0), .ref xs, .ref xp, .ref xq, .ref xe, .ref xt]))] ++ ([((sa 0), .inr (4, [.ref (xa 0), .ref (ca 0), .ref (na 0), .int (si 3), .int (si 4)]))] ++ (acW k ca ac ++ (ntW k na nt ++ (tpW k ta ((uF q1.2.1.1 1 0), q1.2.1.2.1, q1.2.1.2.2)))))) (wp := fun b : OB => rmW k xa b ++ (rmW k tr q1.2.2)) h hx hb hml hown hts hG hA hP hD hS hl.1 [2, 3, 4, 5, 6, 7, 8, 9, 10, 24, 25, 26, 27, 28, 29, 30, 31, 32] [0, 1, 11, 12, 13, 14, 15, 16, 17, 18, 19, 20, 21, 22, 23] (fun q hq9 => c_X3_copyFrom l D k _  xa tr F  rm q1.2.2  hq9) (ci := 2) (q0 := 2) rfl rfl gX8_hall_X3_copyFrom rfl ⟨rfl, rfl, Nat.le_of_ble_eq_true rfl, Nat.le_of_ble_eq_true rfl⟩ (by decide +kernel) rfl rfl ⟨by decide, by decide, by decide⟩ ⟨rfl, rfl, Nat.le_of_ble_eq_true rfl, Nat.le_of_ble_eq_true rfl, Nat.le_of_ble_eq_true rfl⟩ dX8_hall_48 (fun q3 H locs h hP hD hS => ?_)
    have hP : va_P D vwCl ([((xo 0), .inr (6, [.ref (ta 0), .ref xr, .int (xi 2), .ref (sa 0), .ref xm, .ref xg, .ref (tr 0), .ref xs, .ref xp, .ref xq, .ref xe, .ref xt]))] ++ ([((sa 0), .inr (4, [.ref (xa 0), .ref (ca 0), .ref (na 0), .int (si 3), .int (si 4)]))] ++ (acW k ca ac ++ (ntW k na nt ++ (tpW k ta ((uF q1.2.1.1 1 0), q1.2.1.2.1, q1.2.1.2.2) ++ (rmW k xa q3 ++ (rmW k tr q1.2.2))))))) H := hP
    have hD : va_D A ([((xo 0), .inr (6, [.ref (ta 0), .ref xr, .int (xi 2), .ref (sa 0), .ref xm, .ref xg, .ref (tr 0), .ref xs, .ref xp, .ref xq, .ref xe, .ref xt]))] ++ ([((sa 0), .inr (4, [.ref (xa 0), .ref (ca 0), .ref (na 0), .int (si 3), .int (si 4)]))] ++ (acW k ca ac ++ (ntW k na nt ++ (tpW k ta ((uF q1.2.1.1 1 0), q1.2.1.2.1, q1.2.1.2.2) ++ (rmW k xa q3 ++ (rmW k tr q1.2.2))))))) := hD
    refine lv_aload_n hx hb dX8_hall_51 rfl (lv_at hl 2 rfl) ?_
    refine va_get (D := D) (ci := 6) (v := .ref (sa 0)) (C := RX8) (T := TX8) (N := 12) hx hb hts in8 hown hG.1 hP 0 rfl rfl 3 (by decide) (hts (.fieldLink RX8 29 "ChairCane" "now" "LChairCane$Standing;") (by decide +kernel)) (fun _ h9 => h9) rfl dX8_hall_52 ?_
    refine va_get (D := D) (ci := 4) (v := .ref (ca 0)) (C := RX6) (T := TX6) (N := 5) hx hb hts in6 hown hG.1 hP 1 rfl rfl 1 (by decide) (hts (.fieldLink RX8 88 "ChairCane$Standing" "acts" "LChairCane$Acts;") (by decide +kernel)) (fun _ h9 => h9) rfl dX8_hall_55 ?_
    refine fw_Vv (As := []) (rest := []) (n := 0) (wr := [((xo 0), .inr (6, [.ref (ta 0), .ref xr, .int (xi 2), .ref (sa 0), .ref xm, .ref xg, .ref (tr 0), .ref xs, .ref xp, .ref xq, .ref xe, .ref xt]))] ++ ([((sa 0), .inr (4, [.ref (xa 0), .ref (ca 0), .ref (na 0), .int (si 3), .int (si 4)]))] ++ (ntW k na nt ++ (tpW k ta ((uF q1.2.1.1 1 0), q1.2.1.2.1, q1.2.1.2.2) ++ (rmW k xa q3 ++ (rmW k tr q1.2.2)))))) (wp := fun b : OB => acW k ca b) h hx hb hml hown hts hG hA hP hD hS hl.1 [2, 3, 4, 5] [0, 1, 6, 7, 8, 9, 10, 11, 12, 13, 14, 15, 16, 17, 18, 19, 20, 21, 22, 23, 24, 25, 26, 27, 28, 29, 30, 31, 32] (fun q hq9 => c_X0_forget l D k _  ca F  ac  hq9) (ci := 0) (q0 := 2) rfl rfl gX8_hall_X0_forget rfl ⟨rfl, rfl, Nat.le_of_ble_eq_true rfl, Nat.le_of_ble_eq_true rfl⟩ (by decide +kernel) rfl rfl ⟨by decide, by decide, by decide⟩ ⟨rfl, rfl, Nat.le_of_ble_eq_true rfl, Nat.le_of_ble_eq_true rfl, Nat.le_of_ble_eq_true rfl⟩ dX8_hall_58 (fun q4 H locs h hP hD hS => ?_)
    have hP : va_P D vwCl ([((xo 0), .inr (6, [.ref (ta 0), .ref xr, .int (xi 2), .ref (sa 0), .ref xm, .ref xg, .ref (tr 0), .ref xs, .ref xp, .ref xq, .ref xe, .ref xt]))] ++ ([((sa 0), .inr (4, [.ref (xa 0), .ref (ca 0), .ref (na 0), .int (si 3), .int (si 4)]))] ++ (ntW k na nt ++ (tpW k ta ((uF q1.2.1.1 1 0), q1.2.1.2.1, q1.2.1.2.2) ++ (rmW k xa q3 ++ (rmW k tr q1.2.2 ++ (acW k ca q4))))))) H := hP
    have hD : va_D A ([((xo 0), .inr (6, [.ref (ta 0), .ref xr, .int (xi 2), .ref (sa 0), .ref xm, .ref xg, .ref (tr 0), .ref xs, .ref xp, .ref xq, .ref xe, .ref xt]))] ++ ([((sa 0), .inr (4, [.ref (xa 0), .ref (ca 0), .ref (na 0), .int (si 3), .int (si 4)]))] ++ (ntW k na nt ++ (tpW k ta ((uF q1.2.1.1 1 0), q1.2.1.2.1, q1.2.1.2.2) ++ (rmW k xa q3 ++ (rmW k tr q1.2.2 ++ (acW k ca q4))))))) := hD
    refine lv_aload_n hx hb dX8_hall_61 rfl (lv_at hl 2 rfl) ?_
    refine va_get (D := D) (ci := 6) (v := .ref (sa 0)) (C := RX8) (T := TX8) (N := 12) hx hb hts in8 hown hG.1 hP 0 rfl rfl 3 (by decide) (hts (.fieldLink RX8 29 "ChairCane" "now" "LChairCane$Standing;") (by decide +kernel)) (fun _ h9 => h9) rfl dX8_hall_62 ?_
    refine va_get (D := D) (ci := 4) (v := .ref (na 0)) (C := RX6) (T := TX6) (N := 5) hx hb hts in6 hown hG.1 hP 1 rfl rfl 2 (by decide) (hts (.fieldLink RX8 97 "ChairCane$Standing" "notes" "LChairCane$Notes;") (by decide +kernel)) (fun _ h9 => h9) rfl dX8_hall_65 ?_
    refine fw_Vv (As := []) (rest := []) (n := 0) (wr := [((xo 0), .inr (6, [.ref (ta 0), .ref xr, .int (xi 2), .ref (sa 0), .ref xm, .ref xg, .ref (tr 0), .ref xs, .ref xp, .ref xq, .ref xe, .ref xt]))] ++ ([((sa 0), .inr (4, [.ref (xa 0), .ref (ca 0), .ref (na 0), .int (si 3), .int (si 4)]))] ++ (tpW k ta ((uF q1.2.1.1 1 0), q1.2.1.2.1, q1.2.1.2.2) ++ (rmW k xa q3 ++ (rmW k tr q1.2.2 ++ (acW k ca q4)))))) (wp := fun b : OB => ntW k na b) h hx hb hml hown hts hG hA hP hD hS hl.1 [2, 3, 4, 5] [0, 1, 6, 7, 8, 9, 10, 11, 12, 13, 14, 15, 16, 17, 18, 19, 20, 21, 22, 23, 24, 25, 26, 27, 28, 29, 30, 31, 32] (fun q hq9 => c_X2_forget l D k _  na F  nt  hq9) (ci := 1) (q0 := 2) rfl rfl gX8_hall_X2_forget rfl ⟨rfl, rfl, Nat.le_of_ble_eq_true rfl, Nat.le_of_ble_eq_true rfl⟩ (by decide +kernel) rfl rfl ⟨by decide, by decide, by decide⟩ ⟨rfl, rfl, Nat.le_of_ble_eq_true rfl, Nat.le_of_ble_eq_true rfl, Nat.le_of_ble_eq_true rfl⟩ dX8_hall_68 (fun q5 H locs h hP hD hS => ?_)
    have hP : va_P D vwCl ([((xo 0), .inr (6, [.ref (ta 0), .ref xr, .int (xi 2), .ref (sa 0), .ref xm, .ref xg, .ref (tr 0), .ref xs, .ref xp, .ref xq, .ref xe, .ref xt]))] ++ ([((sa 0), .inr (4, [.ref (xa 0), .ref (ca 0), .ref (na 0), .int (si 3), .int (si 4)]))] ++ (tpW k ta ((uF q1.2.1.1 1 0), q1.2.1.2.1, q1.2.1.2.2) ++ (rmW k xa q3 ++ (rmW k tr q1.2.2 ++ (acW k ca q4 ++ (ntW k na q5))))))) H := hP
    have hD : va_D A ([((xo 0), .inr (6, [.ref (ta 0), .ref xr, .int (xi 2), .ref (sa 0), .ref xm, .ref xg, .ref (tr 0), .ref xs, .ref xp, .ref xq, .ref xe, .ref xt]))] ++ ([((sa 0), .inr (4, [.ref (xa 0), .ref (ca 0), .ref (na 0), .int (si 3), .int (si 4)]))] ++ (tpW k ta ((uF q1.2.1.1 1 0), q1.2.1.2.1, q1.2.1.2.2) ++ (rmW k xa q3 ++ (rmW k tr q1.2.2 ++ (acW k ca q4 ++ (ntW k na q5))))))) := hD
    refine lv_aload_n hx hb dX8_hall_71 rfl (lv_at hl 2 rfl) ?_
    refine va_get (D := D) (ci := 6) (v := .ref (sa 0)) (C := RX8) (T := TX8) (N := 12) hx hb hts in8 hown hG.1 hP 0 rfl rfl 3 (by decide) (hts (.fieldLink RX8 29 "ChairCane" "now" "LChairCane$Standing;") (by decide +kernel)) (fun _ h9 => h9) rfl dX8_hall_72 ?_
    refine va_get (D := D) (ci := 4) (v := .ref (xa 0)) (C := RX6) (T := TX6) (N := 5) hx hb hts in6 hown hG.1 hP 1 rfl rfl 0 (by decide) (hts (.fieldLink RX8 81 "ChairCane$Standing" "room" "LChairCane$Room;") (by decide +kernel)) (fun _ h9 => h9) rfl dX8_hall_75 ?_
    refine va_get (D := D) (ci := 2) (v := .int (q3.1 3)) (C := RX3) (T := TX3) (N := 17) hx hb hts in3 hown hG.1 hP 7 rfl rfl 3 (by decide) (hts (.fieldLink RX8 104 "ChairCane$Room" "sitters" "I") (by decide +kernel)) (fun _ h9 => h9) rfl dX8_hall_78 ?_
    exact fw_endI (rv := fun b : Int32 × OB × OB × OB × OB × OB => b.1) (wp := fun b : Int32 × OB × OB × OB × OB × OB => [((xo 0), .inr (6, [.ref (ta 0), .ref xr, .int (xi 2), .ref (sa 0), .ref xm, .ref xg, .ref (tr 0), .ref xs, .ref xp, .ref xq, .ref xe, .ref xt]))] ++ (tpW k ta b.2.1 ++ ([((sa 0), .inr (4, [.ref (xa 0), .ref (ca 0), .ref (na 0), .int (si 3), .int (si 4)]))] ++ (rmW k xa b.2.2.1 ++ (acW k ca b.2.2.2.1 ++ (ntW k na b.2.2.2.2.1 ++ (rmW k tr b.2.2.2.2.2))))))) hx hb hr hlocks h rfl (hP.sub [0, 2, 3, 4, 5, 6, 1, 7, 8, 9, 10, 11, 12, 13, 14, 15, 25, 26, 27, 28, 29, 30, 31, 32, 16, 17, 18, 19, 20, 21, 22, 23, 24] rfl) (hD.sub [0, 2, 3, 4, 5, 6, 1, 7, 8, 9, 10, 11, 12, 13, 14, 15, 25, 26, 27, 28, 29, 30, 31, 32, 16, 17, 18, 19, 20, 21, 22, 23, 24] (by decide) rfl) hS dX8_hall_81
  · have h := fw_t c2 h
    refine lv_bipush (v := (-2)) hx hb dX8_hall_32 (by decide) ?_
    refine lv_iload_n hx hb dX8_hall_34 rfl (lv_at hl 0 rfl) ?_
    refine lv_isub hx hb dX8_hall_35 ?_
    exact fw_endI (rv := fun b : Int32 × OB × OB × OB × OB × OB => b.1) (wp := fun b : Int32 × OB × OB × OB × OB × OB => [((xo 0), .inr (6, [.ref (ta 0), .ref xr, .int (xi 2), .ref (sa 0), .ref xm, .ref xg, .ref (tr 0), .ref xs, .ref xp, .ref xq, .ref xe, .ref xt]))] ++ (tpW k ta b.2.1 ++ ([((sa 0), .inr (4, [.ref (xa 0), .ref (ca 0), .ref (na 0), .int (si 3), .int (si 4)]))] ++ (rmW k xa b.2.2.1 ++ (acW k ca b.2.2.2.1 ++ (ntW k na b.2.2.2.2.1 ++ (rmW k tr b.2.2.2.2.2))))))) hx hb hr hlocks h rfl (hP.sub [0, 19, 20, 21, 22, 23, 1, 2, 3, 4, 5, 6, 7, 8, 9, 10, 11, 12, 13, 14, 15, 16, 17, 18, 24, 25, 26, 27, 28, 29, 30, 31, 32] rfl) (hD.sub [0, 19, 20, 21, 22, 23, 1, 2, 3, 4, 5, 6, 7, 8, 9, 10, 11, 12, 13, 14, 15, 16, 17, 18, 24, 25, 26, 27, 28, 29, 30, 31, 32] (by decide) rfl) hS dX8_hall_36
