/-! a rule by its number -/
theorem rAd_at {ra : Nat → Nat} {xrr : Nat → Option Nat} {i : Int32} (hq : ∀ i, i < 6 → xrr i = some (ra (6 * i))) (g : ib i 6) : va_rf (xrr (Int32.toNatClampNeg i)) = va_rf (rAd ra i) := by
  have g' : 0 ≤ i.toInt ∧ i.toInt < 6 := g
  have e : Int32.toNatClampNeg i = i.toInt.toNat := rfl
  unfold rAd
  rw [if_pos g', e, hq _ (by omega)]
/-! the six rules, standings, as functions -/
theorem dX3_passMinutes_0 : decode cX3_passMinutes 0 = .ok (.iconst 0, 1) := of_0 ok_iconst_0 (by decide +kernel)
theorem dX3_passMinutes_1 : decode cX3_passMinutes 1 = .ok (.istore_n 3, 1) := of_0 ok_istore_n_3 (by decide +kernel)
theorem dX3_passMinutes_2 : decode cX3_passMinutes 2 = .ok (.iload_n 3, 1) := of_0 ok_iload_n_3 (by decide +kernel)
theorem dX3_passMinutes_3 : decode cX3_passMinutes 3 = .ok (.iload_n 1, 1) := of_0 ok_iload_n_1 (by decide +kernel)
theorem dX3_passMinutes_4 : decode cX3_passMinutes 4 = .ok (.if_icmp .ge 15, 3) := of_s2 ok_if_icmp_ge 0 15 (by decide +kernel)
theorem dX3_passMinutes_7 : decode cX3_passMinutes 7 = .ok (.aload_n 0, 1) := of_0 ok_aload_n_0 (by decide +kernel)
theorem dX3_passMinutes_8 : decode cX3_passMinutes 8 = .ok (.aload_n 2, 1) := of_0 ok_aload_n_2 (by decide +kernel)
theorem dX3_passMinutes_9 : decode cX3_passMinutes 9 = .ok (.invokevirtual 111, 3) := of_u2 ok_invokevirtual 0 111 (by decide +kernel)
theorem dX3_passMinutes_12 : decode cX3_passMinutes 12 = .ok (.pop, 1) := of_0 ok_pop (by decide +kernel)
theorem dX3_passMinutes_13 : decode cX3_passMinutes 13 = .ok (.iinc 3 1, 3) := of_ii ok_iinc 1 (by decide +kernel)
theorem dX3_passMinutes_16 : decode cX3_passMinutes 16 = .ok (.goto (-14), 3) := of_s2 ok_goto 255 242 (by decide +kernel)
theorem dX3_passMinutes_19 : decode cX3_passMinutes 19 = .ok (.return_, 1) := of_0 ok_return_ (by decide +kernel)
theorem dX6_copyFrom_0 : decode cX6_copyFrom 0 = .ok (.aload_n 0, 1) := of_0 ok_aload_n_0 (by decide +kernel)
theorem dX6_copyFrom_1 : decode cX6_copyFrom 1 = .ok (.getfield 12, 3) := of_u2 ok_getfield 0 12 (by decide +kernel)
theorem dX6_copyFrom_4 : decode cX6_copyFrom 4 = .ok (.aload_n 1, 1) := of_0 ok_aload_n_1 (by decide +kernel)
theorem dX6_copyFrom_5 : decode cX6_copyFrom 5 = .ok (.getfield 12, 3) := of_u2 ok_getfield 0 12 (by decide +kernel)
theorem dX6_copyFrom_8 : decode cX6_copyFrom 8 = .ok (.invokevirtual 39, 3) := of_u2 ok_invokevirtual 0 39 (by decide +kernel)
theorem dX6_copyFrom_11 : decode cX6_copyFrom 11 = .ok (.aload_n 0, 1) := of_0 ok_aload_n_0 (by decide +kernel)
theorem dX6_copyFrom_12 : decode cX6_copyFrom 12 = .ok (.getfield 21, 3) := of_u2 ok_getfield 0 21 (by decide +kernel)
theorem dX6_copyFrom_15 : decode cX6_copyFrom 15 = .ok (.aload_n 1, 1) := of_0 ok_aload_n_1 (by decide +kernel)
theorem dX6_copyFrom_16 : decode cX6_copyFrom 16 = .ok (.getfield 21, 3) := of_u2 ok_getfield 0 21 (by decide +kernel)
theorem dX6_copyFrom_19 : decode cX6_copyFrom 19 = .ok (.invokevirtual 43, 3) := of_u2 ok_invokevirtual 0 43 (by decide +kernel)
theorem dX6_copyFrom_22 : decode cX6_copyFrom 22 = .ok (.aload_n 0, 1) := of_0 ok_aload_n_0 (by decide +kernel)
theorem dX6_copyFrom_23 : decode cX6_copyFrom 23 = .ok (.getfield 28, 3) := of_u2 ok_getfield 0 28 (by decide +kernel)
theorem dX6_copyFrom_26 : decode cX6_copyFrom 26 = .ok (.aload_n 1, 1) := of_0 ok_aload_n_1 (by decide +kernel)
theorem dX6_copyFrom_27 : decode cX6_copyFrom 27 = .ok (.getfield 28, 3) := of_u2 ok_getfield 0 28 (by decide +kernel)
theorem dX6_copyFrom_30 : decode cX6_copyFrom 30 = .ok (.invokevirtual 46, 3) := of_u2 ok_invokevirtual 0 46 (by decide +kernel)
theorem dX6_copyFrom_33 : decode cX6_copyFrom 33 = .ok (.aload_n 0, 1) := of_0 ok_aload_n_0 (by decide +kernel)
theorem dX6_copyFrom_34 : decode cX6_copyFrom 34 = .ok (.aload_n 1, 1) := of_0 ok_aload_n_1 (by decide +kernel)
theorem dX6_copyFrom_35 : decode cX6_copyFrom 35 = .ok (.getfield 32, 3) := of_u2 ok_getfield 0 32 (by decide +kernel)
theorem dX6_copyFrom_38 : decode cX6_copyFrom 38 = .ok (.putfield 32, 3) := of_u2 ok_putfield 0 32 (by decide +kernel)
theorem dX6_copyFrom_41 : decode cX6_copyFrom 41 = .ok (.aload_n 0, 1) := of_0 ok_aload_n_0 (by decide +kernel)
theorem dX6_copyFrom_42 : decode cX6_copyFrom 42 = .ok (.aload_n 1, 1) := of_0 ok_aload_n_1 (by decide +kernel)
theorem dX6_copyFrom_43 : decode cX6_copyFrom 43 = .ok (.getfield 36, 3) := of_u2 ok_getfield 0 36 (by decide +kernel)
theorem dX6_copyFrom_46 : decode cX6_copyFrom 46 = .ok (.putfield 36, 3) := of_u2 ok_putfield 0 36 (by decide +kernel)
theorem dX6_copyFrom_49 : decode cX6_copyFrom 49 = .ok (.return_, 1) := of_0 ok_return_ (by decide +kernel)
set_option maxRecDepth 20000 in
theorem bq_wsX3_passMinutes : subq wsX3_passMinutes [wsX3_passMinutes_r1, wsX3_passMinutes_r2, wsX3_passMinutes_r3, wsX3_passMinutes_r4] := ⟨(fun _ h => (List.mem_cons_of_mem _ (List.mem_append_left _ (List.mem_append_left _ (List.mem_append_left _ h))))), (fun _ h => (List.mem_cons_of_mem _ (List.mem_append_left _ (List.mem_append_left _ (List.mem_append_right _ (List.mem_append_left _ h)))))), (fun _ h => (List.mem_cons_of_mem _ (List.mem_append_left _ (List.mem_append_left _ (List.mem_append_right _ (List.mem_append_right _ (List.mem_append_left _ h))))))), (fun _ h => (List.mem_cons_of_mem _ (List.mem_append_left _ (List.mem_append_left _ (List.mem_append_right _ (List.mem_append_right _ (List.mem_append_right _ h))))))), trivial⟩
set_option maxRecDepth 20000 in
theorem ggX3_passMinutes_X3_passMinute : GoodIn wsX3_passMinutes wsX3_passMinute := (goodIn_cons (good_rb bq_wsX3_passMinutes ([(0, 4)] : List (Nat × Nat)) rfl (by decide +kernel)) (goodIn_app (goodIn_app (goodIn_app (good_rb bq_wsX3_passMinutes ([(0, 5), (0, 6), (0, 7), (0, 8), (0, 9), (0, 10), (0, 11), (0, 3), (0, 12), (0, 13), (0, 14), (0, 15), (0, 16), (0, 17), (0, 18), (0, 19), (0, 20), (0, 21), (0, 22), (0, 23), (1, 0), (1, 1), (1, 2), (1, 3)] : List (Nat × Nat)) rfl (by decide +kernel)) (goodIn_app (good_rb bq_wsX3_passMinutes ([(1, 4), (1, 5), (1, 6), (1, 7), (1, 8), (1, 9), (1, 10), (1, 11), (1, 12), (1, 13), (1, 14), (1, 15), (1, 16), (1, 17), (1, 18), (1, 19), (1, 20), (1, 21), (1, 22), (1, 23), (2, 0), (2, 1), (2, 2), (2, 3)] : List (Nat × Nat)) rfl (by decide +kernel)) (goodIn_app (good_rb bq_wsX3_passMinutes ([(2, 4), (2, 5), (2, 6), (2, 7), (2, 8), (2, 9), (2, 10), (2, 11), (2, 12), (2, 13), (2, 14), (2, 15), (2, 16), (2, 17), (2, 18), (2, 19), (2, 20), (2, 21), (2, 22), (2, 23), (3, 0), (3, 1), (3, 2), (3, 3)] : List (Nat × Nat)) rfl (by decide +kernel)) (good_rb bq_wsX3_passMinutes ([(3, 4), (3, 5), (3, 6), (3, 7), (3, 8), (3, 9), (3, 10), (3, 11)] : List (Nat × Nat)) rfl (by decide +kernel))))) (goodIn_sb (fun _ h => (List.mem_cons_of_mem _ (List.mem_append_left _ (List.mem_append_right _ h)))) (by decide +kernel))) (goodIn_sb (fun _ h => (List.mem_cons_of_mem _ (List.mem_append_right _ h))) (by decide +kernel))))
set_option maxRecDepth 20000 in
theorem gX3_passMinutes_X3_passMinute : GoodIn wsX3_passMinutes (wsV RX3 111 RX3 yX3_passMinute wsX3_passMinute) := goodIn_app (good_rp ([1, 2, 3, 4] : List Nat) rfl (by decide +kernel)) ggX3_passMinutes_X3_passMinute
set_option maxRecDepth 20000 in
theorem bq_wsX6_copyFrom : subq wsX6_copyFrom [wsX6_copyFrom_r1, wsX6_copyFrom_r2, wsX6_copyFrom_r3] := ⟨(fun _ h => (List.mem_cons_of_mem _ (List.mem_append_left _ (List.mem_append_left _ (List.mem_append_left _ (List.mem_append_left _ (List.mem_append_left _ h))))))), (fun _ h => (List.mem_cons_of_mem _ (List.mem_append_left _ (List.mem_append_left _ (List.mem_append_left _ (List.mem_append_left _ (List.mem_append_right _ (List.mem_append_left _ h)))))))), (fun _ h => (List.mem_cons_of_mem _ (List.mem_append_left _ (List.mem_append_left _ (List.mem_append_left _ (List.mem_append_left _ (List.mem_append_right _ (List.mem_append_right _ h)))))))), trivial⟩
set_option maxRecDepth 20000 in
theorem ggX6_copyFrom_X0_copyFrom : GoodIn wsX6_copyFrom wsX0_copyFrom := (goodIn_cons (good_rb bq_wsX6_copyFrom ([(1, 10)] : List (Nat × Nat)) rfl (by decide +kernel)) (goodIn_app (good_rb bq_wsX6_copyFrom ([(1, 11), (1, 12), (0, 16), (0, 17), (0, 18), (1, 13), (1, 14), (1, 15), (1, 16)] : List (Nat × Nat)) rfl (by decide +kernel)) (goodIn_sb (fun _ h => (List.mem_cons_of_mem _ (List.mem_append_left _ (List.mem_append_right _ h)))) (by decide +kernel))))
set_option maxRecDepth 20000 in
theorem gX6_copyFrom_X0_copyFrom : GoodIn wsX6_copyFrom (wsV RX6 43 RX0 yX0_copyFrom wsX0_copyFrom) := goodIn_app (good_rp ([31, 32, 33, 34] : List Nat) rfl (by decide +kernel)) ggX6_copyFrom_X0_copyFrom
set_option maxRecDepth 20000 in
theorem ggX6_copyFrom_X2_copyFrom : GoodIn wsX6_copyFrom wsX2_copyFrom := (goodIn_cons (good_rb bq_wsX6_copyFrom ([(1, 21)] : List (Nat × Nat)) rfl (by decide +kernel)) (goodIn_app (good_rb bq_wsX6_copyFrom ([(1, 22), (1, 23), (0, 16), (0, 17), (0, 18), (2, 0), (2, 1), (2, 2)] : List (Nat × Nat)) rfl (by decide +kernel)) (goodIn_sb (fun _ h => (List.mem_cons_of_mem _ (List.mem_append_right _ h))) (by decide +kernel))))
set_option maxRecDepth 20000 in
theorem gX6_copyFrom_X2_copyFrom : GoodIn wsX6_copyFrom (wsV RX6 46 RX2 yX2_copyFrom wsX2_copyFrom) := goodIn_app (good_rp ([42, 43, 44, 45] : List Nat) rfl (by decide +kernel)) ggX6_copyFrom_X2_copyFrom
set_option maxRecDepth 20000 in
theorem ggX6_copyFrom_X3_copyFrom : GoodIn wsX6_copyFrom wsX3_copyFrom := (goodIn_cons (good_rb bq_wsX6_copyFrom ([(0, 9)] : List (Nat × Nat)) rfl (by decide +kernel)) (goodIn_app (good_rb bq_wsX6_copyFrom ([(0, 10), (0, 11), (0, 12), (0, 13), (0, 14), (0, 15), (0, 16), (0, 17), (0, 18), (0, 19), (0, 20), (0, 21), (0, 22), (0, 23), (1, 0), (1, 1), (1, 2), (1, 3), (1, 4), (1, 5)] : List (Nat × Nat)) rfl (by decide +kernel)) (goodIn_sb (fun _ h => (List.mem_cons_of_mem _ (List.mem_append_left _ (List.mem_append_left _ (List.mem_append_right _ h))))) (by decide +kernel))))
set_option maxRecDepth 20000 in
theorem gX6_copyFrom_X3_copyFrom : GoodIn wsX6_copyFrom (wsV RX6 39 RX3 yX3_copyFrom wsX3_copyFrom) := goodIn_app (good_rp ([6, 7, 8, 9] : List Nat) rfl (by decide +kernel)) ggX6_copyFrom_X3_copyFrom
noncomputable def RU (k : Nat → ClassId) (ra : Nat → Nat) (rz : Nat → OB) : va_W := ([((ra 0), .inr (3, [.ref (ra 1), .ref (ra 2), .ref (ra 3), .ref (ra 4), .ref (ra 5), .int ((rz 0).1 5), .int ((rz 0).1 6), .int ((rz 0).1 7)])), ((ra 1), hcI k 400 ((rz 0).2.1 0)), ((ra 2), hcI k 12 ((rz 0).2.1 1)), ((ra 3), hcI k 12 ((rz 0).2.1 2)), ((ra 4), hcI k 12 ((rz 0).2.1 3)), ((ra 5), hcJ k 60 ((rz 0).2.2 4)), ((ra 6), .inr (3, [.ref (ra 7), .ref (ra 8), .ref (ra 9), .ref (ra 10), .ref (ra 11), .int ((rz 1).1 5), .int ((rz 1).1 6), .int ((rz 1).1 7)])), ((ra 7), hcI k 400 ((rz 1).2.1 0)), ((ra 8), hcI k 12 ((rz 1).2.1 1)), ((ra 9), hcI k 12 ((rz 1).2.1 2)), ((ra 10), hcI k 12 ((rz 1).2.1 3)), ((ra 11), hcJ k 60 ((rz 1).2.2 4)), ((ra 12), .inr (3, [.ref (ra 13), .ref (ra 14), .ref (ra 15), .ref (ra 16), .ref (ra 17), .int ((rz 2).1 5), .int ((rz 2).1 6), .int ((rz 2).1 7)])), ((ra 13), hcI k 400 ((rz 2).2.1 0)), ((ra 14), hcI k 12 ((rz 2).2.1 1)), ((ra 15), hcI k 12 ((rz 2).2.1 2)), ((ra 16), hcI k 12 ((rz 2).2.1 3)), ((ra 17), hcJ k 60 ((rz 2).2.2 4)), ((ra 18), .inr (3, [.ref (ra 19), .ref (ra 20), .ref (ra 21), .ref (ra 22), .ref (ra 23), .int ((rz 3).1 5), .int ((rz 3).1 6), .int ((rz 3).1 7)])), ((ra 19), hcI k 400 ((rz 3).2.1 0)), ((ra 20), hcI k 12 ((rz 3).2.1 1)), ((ra 21), hcI k 12 ((rz 3).2.1 2)), ((ra 22), hcI k 12 ((rz 3).2.1 3)), ((ra 23), hcJ k 60 ((rz 3).2.2 4)), ((ra 24), .inr (3, [.ref (ra 25), .ref (ra 26), .ref (ra 27), .ref (ra 28), .ref (ra 29), .int ((rz 4).1 5), .int ((rz 4).1 6), .int ((rz 4).1 7)])), ((ra 25), hcI k 400 ((rz 4).2.1 0)), ((ra 26), hcI k 12 ((rz 4).2.1 1)), ((ra 27), hcI k 12 ((rz 4).2.1 2)), ((ra 28), hcI k 12 ((rz 4).2.1 3)), ((ra 29), hcJ k 60 ((rz 4).2.2 4)), ((ra 30), .inr (3, [.ref (ra 31), .ref (ra 32), .ref (ra 33), .ref (ra 34), .ref (ra 35), .int ((rz 5).1 5), .int ((rz 5).1 6), .int ((rz 5).1 7)])), ((ra 31), hcI k 400 ((rz 5).2.1 0)), ((ra 32), hcI k 12 ((rz 5).2.1 1)), ((ra 33), hcI k 12 ((rz 5).2.1 2)), ((ra 34), hcI k 12 ((rz 5).2.1 3)), ((ra 35), hcJ k 60 ((rz 5).2.2 4))] : va_W)
theorem fw_b {β γ : Type} {o : Option β} {g : β → Option γ} {res : γ} (h : Option.bind o g = some res) : ∃ q, o = some q ∧ g q = some res := by
  cases o with
  | none => cases h
  | some q => exact ⟨q, rfl, h⟩
noncomputable def f_X3_passMinute (F : Nat) (x1 : Int32) (rm : OB) (rz : Nat → OB) : Option (Int32 × OB × (Nat → OB)) :=
  if 0 ≤ (Int32.toInt x1) ∧ (Int32.toInt x1) < 6 then (Option.bind (f_X3_passMinute_r F rm (rz (Int32.toInt x1).toNat)) (fun q => some (q.1, q.2.1, uF rz (Int32.toInt x1).toNat q.2.2))) else (Option.bind (f_X3_passMinute_n F rm) (fun q => some (q.1, q.2, rz)))
set_option maxHeartbeats 4000000 in
set_option maxRecDepth 100000 in
theorem c_X3_passMinute (l : Launch) (D : va_G) (k : Nat → ClassId) (sz : Nat)  (xa : Nat → Nat) (ra : Nat → Nat) (F : Nat) (x1 : Int32) (rm : OB) (rz : Nat → OB) {res : Int32 × OB × (Nat → OB)} (h : f_X3_passMinute F x1 rm rz = some res) : CtI l yX3_passMinute wsX3_passMinute (rmK 5 0 0) [.ref (xa 0), va_rf (rAd ra x1)] D k sz (rmW k xa rm ++ (RU k ra rz)) (fun r (_ : Unit) => r = res.1) (fun _ : Unit => rmW k xa res.2.1 ++ (RU k ra res.2.2)) 0 0 := by
  by_cases g : 0 ≤ (Int32.toInt x1) ∧ (Int32.toInt x1) < 6
  · have h := fw_t g h
    obtain ⟨q, hq, h⟩ := fw_b h
    cases h
    have ec : (Int32.toInt x1) = 0 ∨ (Int32.toInt x1) = 1 ∨ (Int32.toInt x1) = 2 ∨ (Int32.toInt x1) = 3 ∨ (Int32.toInt x1) = 4 ∨ (Int32.toInt x1) = 5 := by omega
    rcases ec with ec | ec | ec | ec | ec | ec
    · have en : (Int32.toInt x1).toNat = 0 := by omega
      have ea : rAd ra x1 = some (ra 0) := by unfold rAd; rw [if_pos g, en]
      rw [ea]
      rw [en] at hq ⊢
      exact CtI.qfr (us := [rmW k xa rm, ruW k (fun j => ra (0 + j)) (rz 0), ruW k (fun j => ra (6 + j)) (rz 1), ruW k (fun j => ra (12 + j)) (rz 2), ruW k (fun j => ra (18 + j)) (rz 3), ruW k (fun j => ra (24 + j)) (rz 4), ruW k (fun j => ra (30 + j)) (rz 5)]) (us' := [rmW k xa q.2.1, ruW k (fun j => ra (0 + j)) (uF rz 0 q.2.2 0), ruW k (fun j => ra (6 + j)) (uF rz 0 q.2.2 1), ruW k (fun j => ra (12 + j)) (uF rz 0 q.2.2 2), ruW k (fun j => ra (18 + j)) (uF rz 0 q.2.2 3), ruW k (fun j => ra (24 + j)) (uF rz 0 q.2.2 4), ruW k (fun j => ra (30 + j)) (uF rz 0 q.2.2 5)]) [0, 1] [2, 3, 4, 5, 6] [0, 1, 2, 3, 4, 5, 6] (c_X3_passMinute_r l D k sz  xa (fun j => ra (0 + j)) F rm (rz 0) hq) (by decide +kernel) (qall_of ⟨rfl, rfl, rfl, rfl, rfl, trivial⟩)
    · have en : (Int32.toInt x1).toNat = 1 := by omega
      have ea : rAd ra x1 = some (ra 6) := by unfold rAd; rw [if_pos g, en]
      rw [ea]
      rw [en] at hq ⊢
      exact CtI.qfr (us := [rmW k xa rm, ruW k (fun j => ra (0 + j)) (rz 0), ruW k (fun j => ra (6 + j)) (rz 1), ruW k (fun j => ra (12 + j)) (rz 2), ruW k (fun j => ra (18 + j)) (rz 3), ruW k (fun j => ra (24 + j)) (rz 4), ruW k (fun j => ra (30 + j)) (rz 5)]) (us' := [rmW k xa q.2.1, ruW k (fun j => ra (0 + j)) (uF rz 1 q.2.2 0), ruW k (fun j => ra (6 + j)) (uF rz 1 q.2.2 1), ruW k (fun j => ra (12 + j)) (uF rz 1 q.2.2 2), ruW k (fun j => ra (18 + j)) (uF rz 1 q.2.2 3), ruW k (fun j => ra (24 + j)) (uF rz 1 q.2.2 4), ruW k (fun j => ra (30 + j)) (uF rz 1 q.2.2 5)]) [0, 2] [1, 3, 4, 5, 6] [0, 1, 2, 3, 4, 5, 6] (c_X3_passMinute_r l D k sz  xa (fun j => ra (6 + j)) F rm (rz 1) hq) (by decide +kernel) (qall_of ⟨rfl, rfl, rfl, rfl, rfl, trivial⟩)
    · have en : (Int32.toInt x1).toNat = 2 := by omega
      have ea : rAd ra x1 = some (ra 12) := by unfold rAd; rw [if_pos g, en]
      rw [ea]
      rw [en] at hq ⊢
      exact CtI.qfr (us := [rmW k xa rm, ruW k (fun j => ra (0 + j)) (rz 0), ruW k (fun j => ra (6 + j)) (rz 1), ruW k (fun j => ra (12 + j)) (rz 2), ruW k (fun j => ra (18 + j)) (rz 3), ruW k (fun j => ra (24 + j)) (rz 4), ruW k (fun j => ra (30 + j)) (rz 5)]) (us' := [rmW k xa q.2.1, ruW k (fun j => ra (0 + j)) (uF rz 2 q.2.2 0), ruW k (fun j => ra (6 + j)) (uF rz 2 q.2.2 1), ruW k (fun j => ra (12 + j)) (uF rz 2 q.2.2 2), ruW k (fun j => ra (18 + j)) (uF rz 2 q.2.2 3), ruW k (fun j => ra (24 + j)) (uF rz 2 q.2.2 4), ruW k (fun j => ra (30 + j)) (uF rz 2 q.2.2 5)]) [0, 3] [1, 2, 4, 5, 6] [0, 1, 2, 3, 4, 5, 6] (c_X3_passMinute_r l D k sz  xa (fun j => ra (12 + j)) F rm (rz 2) hq) (by decide +kernel) (qall_of ⟨rfl, rfl, rfl, rfl, rfl, trivial⟩)
    · have en : (Int32.toInt x1).toNat = 3 := by omega
      have ea : rAd ra x1 = some (ra 18) := by unfold rAd; rw [if_pos g, en]
      rw [ea]
      rw [en] at hq ⊢
      exact CtI.qfr (us := [rmW k xa rm, ruW k (fun j => ra (0 + j)) (rz 0), ruW k (fun j => ra (6 + j)) (rz 1), ruW k (fun j => ra (12 + j)) (rz 2), ruW k (fun j => ra (18 + j)) (rz 3), ruW k (fun j => ra (24 + j)) (rz 4), ruW k (fun j => ra (30 + j)) (rz 5)]) (us' := [rmW k xa q.2.1, ruW k (fun j => ra (0 + j)) (uF rz 3 q.2.2 0), ruW k (fun j => ra (6 + j)) (uF rz 3 q.2.2 1), ruW k (fun j => ra (12 + j)) (uF rz 3 q.2.2 2), ruW k (fun j => ra (18 + j)) (uF rz 3 q.2.2 3), ruW k (fun j => ra (24 + j)) (uF rz 3 q.2.2 4), ruW k (fun j => ra (30 + j)) (uF rz 3 q.2.2 5)]) [0, 4] [1, 2, 3, 5, 6] [0, 1, 2, 3, 4, 5, 6] (c_X3_passMinute_r l D k sz  xa (fun j => ra (18 + j)) F rm (rz 3) hq) (by decide +kernel) (qall_of ⟨rfl, rfl, rfl, rfl, rfl, trivial⟩)
    · have en : (Int32.toInt x1).toNat = 4 := by omega
      have ea : rAd ra x1 = some (ra 24) := by unfold rAd; rw [if_pos g, en]
      rw [ea]
      rw [en] at hq ⊢
      exact CtI.qfr (us := [rmW k xa rm, ruW k (fun j => ra (0 + j)) (rz 0), ruW k (fun j => ra (6 + j)) (rz 1), ruW k (fun j => ra (12 + j)) (rz 2), ruW k (fun j => ra (18 + j)) (rz 3), ruW k (fun j => ra (24 + j)) (rz 4), ruW k (fun j => ra (30 + j)) (rz 5)]) (us' := [rmW k xa q.2.1, ruW k (fun j => ra (0 + j)) (uF rz 4 q.2.2 0), ruW k (fun j => ra (6 + j)) (uF rz 4 q.2.2 1), ruW k (fun j => ra (12 + j)) (uF rz 4 q.2.2 2), ruW k (fun j => ra (18 + j)) (uF rz 4 q.2.2 3), ruW k (fun j => ra (24 + j)) (uF rz 4 q.2.2 4), ruW k (fun j => ra (30 + j)) (uF rz 4 q.2.2 5)]) [0, 5] [1, 2, 3, 4, 6] [0, 1, 2, 3, 4, 5, 6] (c_X3_passMinute_r l D k sz  xa (fun j => ra (24 + j)) F rm (rz 4) hq) (by decide +kernel) (qall_of ⟨rfl, rfl, rfl, rfl, rfl, trivial⟩)
    · have en : (Int32.toInt x1).toNat = 5 := by omega
      have ea : rAd ra x1 = some (ra 30) := by unfold rAd; rw [if_pos g, en]
      rw [ea]
      rw [en] at hq ⊢
      exact CtI.qfr (us := [rmW k xa rm, ruW k (fun j => ra (0 + j)) (rz 0), ruW k (fun j => ra (6 + j)) (rz 1), ruW k (fun j => ra (12 + j)) (rz 2), ruW k (fun j => ra (18 + j)) (rz 3), ruW k (fun j => ra (24 + j)) (rz 4), ruW k (fun j => ra (30 + j)) (rz 5)]) (us' := [rmW k xa q.2.1, ruW k (fun j => ra (0 + j)) (uF rz 5 q.2.2 0), ruW k (fun j => ra (6 + j)) (uF rz 5 q.2.2 1), ruW k (fun j => ra (12 + j)) (uF rz 5 q.2.2 2), ruW k (fun j => ra (18 + j)) (uF rz 5 q.2.2 3), ruW k (fun j => ra (24 + j)) (uF rz 5 q.2.2 4), ruW k (fun j => ra (30 + j)) (uF rz 5 q.2.2 5)]) [0, 6] [1, 2, 3, 4, 5] [0, 1, 2, 3, 4, 5, 6] (c_X3_passMinute_r l D k sz  xa (fun j => ra (30 + j)) F rm (rz 5) hq) (by decide +kernel) (qall_of ⟨rfl, rfl, rfl, rfl, rfl, trivial⟩)
  · have h := fw_f g h
    obtain ⟨q, hq, h⟩ := fw_b h
    cases h
    have ea : rAd ra x1 = none := by unfold rAd; rw [if_neg g]
    rw [ea]
    exact CtI.qf0 (c_X3_passMinute_n l D k sz xa F rm hq) (RU k ra rz)
noncomputable def b_X3_passMinutes_2 (F : Nat)    (k2 : (Int32 × Int32 × Int32 × OB × (Nat → OB)) → Option (OB × (Nat → OB))) (a2 : (Int32 × Int32 × Int32 × OB × (Nat → OB))) : Option (OB × (Nat → OB)) :=
  if a2.1 ≤ a2.2.2.1 then (some (a2.2.2.2.1, a2.2.2.2.2)) else (Option.bind (f_X3_passMinute F a2.2.1 a2.2.2.2.1 a2.2.2.2.2) (fun q2 => (k2 (a2.1, a2.2.1, (a2.2.2.1 + 1), q2.2.1, q2.2.2))))
noncomputable def f_X3_passMinutes (F : Nat)  (x1 : Int32) (x2 : Int32) (rm : OB) (rz : Nat → OB) : Option (OB × (Nat → OB)) :=
  lp (b_X3_passMinutes_2 F) F (x1, x2, 0, rm, rz)
set_option maxHeartbeats 4000000 in
set_option maxRecDepth 100000 in
theorem c_X3_passMinutes (l : Launch) (D : va_G) (k : Nat → ClassId) (sz : Nat)  (xa : Nat → Nat) (ra : Nat → Nat) (F : Nat)  (x1 : Int32) (x2 : Int32) (rm : OB) (rz : Nat → OB)  {res : OB × (Nat → OB)} (h : f_X3_passMinutes F x1 x2 rm rz = some res) : CtV l yX3_passMinutes wsX3_passMinutes (rmK 6 0 0) [.ref (xa 0), .int x1, va_rf (rAd ra x2)] D k sz (rmW k xa rm ++ (RU k ra rz)) (fun (_ : Unit) => True) (fun _ : Unit => rmW k xa res.1 ++ (RU k ra res.2)) 0 0 := by
  refine CtV.mk (cc := cX3_passMinutes) (maxL := 4) (ret := none) (by decide) rfl (by cases rAd ra x2 <;> exact Nat.le_of_ble_eq_true rfl) ?_
  intro p e s m below meth c A ls E hP hD hS hl
  obtain ⟨hx, hb, hr, hml, hown, hts, hlocks, hin, hG, hA⟩ := E
  have hown : s.vm.findClass RX3 = some m.cls := hown
  have in3 : ∀ w ∈ u_ws RX3 TX3 17, w ∈ wsX3_passMinutes := fun _ h => List.mem_cons_of_mem _ (List.mem_append_left _ (List.mem_append_right _ h))
  have in4 : ∀ w ∈ u_ws RX4 TX4 8, w ∈ wsX3_passMinutes := fun _ h => List.mem_cons_of_mem _ (List.mem_append_right _ h)
  have hl : lv_has ls 4 [(0, .ref (xa 0)), (1, .int x1), (2, va_rf (rAd ra x2))] := (by cases h9 : rAd ra x2 <;> (rw [h9] at hl; exact hl))
  have B2 : ∀ a2 : (Int32 × Int32 × Int32 × OB × (Nat → OB)), lp (b_X3_passMinutes_2 F) F a2 = some res → ∀ (H : Heap) (locs : List Loc) (ls : Array Slot), va_P D vwCl (rmW k xa a2.2.2.2.1 ++ (RU k ra a2.2.2.2.2)) H → va_D A (rmW k xa a2.2.2.2.1 ++ (RU k ra a2.2.2.2.2)) → va_S A s.heap H locs → lv_has ls 4 [(0, .ref (xa 0)), (1, .int a2.1), (2, va_rf (rAd ra a2.2.1)), (3, .int a2.2.2.1)] → W p l e (rmK 6 0 0) s m (List.toArray [.ref (xa 0), .int x1, va_rf (rAd ra x2)]) below meth c H locs 0 0 (MQ below (va_Qv (fun (_ : Unit) => True) (hcB D (fun _ : Unit => rmW k xa res.1 ++ (RU k ra res.2)) A) A) (List.toArray [.ref (xa 0), .int x1, va_rf (rAd ra x2)]) s 0 0 A) (F0 m 2 ls []) := by
    refine lp_W ?_ F
    intro k2 hk2 a2 h H locs ls hP hD hS hl
    have hc2 : ∀ (v1 : Int32) (v2 : Int32) (v3 : Int32) (rm : OB) (rz : Nat → OB), k2 (v1, v2, v3, rm, rz) = some res → ∀ (H : Heap) (locs : List Loc) (ls : Array Slot), va_P D vwCl (rmW k xa rm ++ (RU k ra rz)) H → va_D A (rmW k xa rm ++ (RU k ra rz)) → va_S A s.heap H locs → lv_has ls 4 [(0, .ref (xa 0)), (1, .int v1), (2, va_rf (rAd ra v2)), (3, .int v3)] → W p l e (rmK 6 0 0) s m (List.toArray [.ref (xa 0), .int x1, va_rf (rAd ra x2)]) below meth c H locs 0 0 (MQ below (va_Qv (fun (_ : Unit) => True) (hcB D (fun _ : Unit => rmW k xa res.1 ++ (RU k ra res.2)) A) A) (List.toArray [.ref (xa 0), .int x1, va_rf (rAd ra x2)]) s 0 0 A) (F0 m 2 ls []) := fun v1 v2 v3 rm rz => hk2 (v1, v2, v3, rm, rz)
    refine lv_iload_n hx hb dX3_passMinutes_2 rfl (lv_at hl 3 rfl) ?_
    refine lv_iload_n hx hb dX3_passMinutes_3 rfl (lv_at hl 1 rfl) ?_
    refine lv_icmp_ge (tgt := 19) hx hb dX3_passMinutes_4 (by decide) (fun c1 => ?_) (fun c1 => ?_)
    · have h := fw_t c1 h
      exact fw_endV (wp := fun b : OB × (Nat → OB) => rmW k xa b.1 ++ (RU k ra b.2)) hx hb hr hlocks h hP hD hS dX3_passMinutes_19
    · have h := fw_f c1 h
      refine lv_aload_n hx hb dX3_passMinutes_7 rfl (lv_at hl 0 rfl) ?_
      refine lv_aload_nO hx hb dX3_passMinutes_8 rfl (lv_at hl 2 rfl) ?_
      refine fw_Vi (As := [va_rf (rAd ra a2.2.1)]) (rest := []) (n := 1) (wr := []) (rv := fun b : Int32 × OB × (Nat → OB) => b.1) (wp := fun b : Int32 × OB × (Nat → OB) => rmW k xa b.2.1 ++ (RU k ra b.2.2)) h hx hb hml hown hts hG hA hP hD hS hl.1 (List.range (rmW k xa a2.2.2.2.1 ++ (RU k ra a2.2.2.2.2)).length) [] (fun q hq9 => c_X3_passMinute l D k _  xa ra F a2.2.1 a2.2.2.2.1 a2.2.2.2.2  hq9) (ci := 2) (q0 := 0) rfl rfl gX3_passMinutes_X3_passMinute rfl ⟨rfl, rfl, Nat.le_of_ble_eq_true rfl, Nat.le_of_ble_eq_true rfl⟩ (by decide +kernel) (al_C _) rfl (al_n _) ⟨rfl, rfl, Nat.le_of_ble_eq_true rfl, Nat.le_of_ble_eq_true rfl, Nat.le_of_ble_eq_true rfl⟩ dX3_passMinutes_9 (fun q2 H locs h hP hD hS => ?_)
      obtain ⟨hP, hD⟩ := cv (w' := rmW k xa q2.2.1 ++ (RU k ra q2.2.2)) hP hD rfl
      refine hc_is (z := q2.1) rfl ?_
      refine lv_pop hx hb dX3_passMinutes_12 rfl ?_
      refine lv_iinc (v := (a2.2.2.1 + 1)) (lv' := [(3, .int (a2.2.2.1 + 1)), (0, .ref (xa 0)), (1, .int a2.1), (2, va_rf (rAd ra a2.2.1))]) hx hb dX3_passMinutes_13 hl (k := 3) rfl rfl (by decide) (by cases rAd ra a2.2.1 <;> rfl) (fun ls hl => ?_)
      refine lv_goto (tgt := 2) hx hb dX3_passMinutes_16 (by decide) ?_
      exact hc2 _ _ _ _ _ h _ _ _ hP hD hS (lv_sub hl [1, 2, 3, 0] rfl)
  have C2 : ∀ (v1 : Int32) (v2 : Int32) (v3 : Int32) (rm : OB) (rz : Nat → OB), lp (b_X3_passMinutes_2 F) F (v1, v2, v3, rm, rz) = some res → ∀ (H : Heap) (locs : List Loc) (ls : Array Slot), va_P D vwCl (rmW k xa rm ++ (RU k ra rz)) H → va_D A (rmW k xa rm ++ (RU k ra rz)) → va_S A s.heap H locs → lv_has ls 4 [(0, .ref (xa 0)), (1, .int v1), (2, va_rf (rAd ra v2)), (3, .int v3)] → W p l e (rmK 6 0 0) s m (List.toArray [.ref (xa 0), .int x1, va_rf (rAd ra x2)]) below meth c H locs 0 0 (MQ below (va_Qv (fun (_ : Unit) => True) (hcB D (fun _ : Unit => rmW k xa res.1 ++ (RU k ra res.2)) A) A) (List.toArray [.ref (xa 0), .int x1, va_rf (rAd ra x2)]) s 0 0 A) (F0 m 2 ls []) := fun v1 v2 v3 rm rz => B2 (v1, v2, v3, rm, rz)
  refine lv_iconst (v := 0) hx hb dX3_passMinutes_0 (by decide) ?_
  refine lv_istore_n (lv' := [(3, .int 0), (0, .ref (xa 0)), (1, .int x1), (2, va_rf (rAd ra x2))]) hx hb dX3_passMinutes_1 rfl hl (by decide) (by cases rAd ra x2 <;> rfl) (fun ls hl => ?_)
  exact C2 _ _ _ _ _ h _ _ _ hP hD hS (lv_sub hl [1, 2, 3, 0] rfl)
noncomputable def f_X5_read_u (F : Nat) (x1 : Int32) (tp : OB) (rz : Nat → OB) : Option (Int32 × OB × (Nat → OB)) :=
  if 0 ≤ (Int32.toInt x1) ∧ (Int32.toInt x1) < 6 then (Option.bind (f_X5_read F tp (rz (Int32.toInt x1).toNat)) (fun q => some (q.1, q.2.1, uF rz (Int32.toInt x1).toNat q.2.2))) else (none)
set_option maxHeartbeats 4000000 in
set_option maxRecDepth 100000 in
theorem c_X5_read_u (l : Launch) (D : va_G) (k : Nat → ClassId) (sz : Nat) (ad tv : Nat → Nat) (ta : Nat → Nat) (ra : Nat → Nat) (F : Nat) (x1 : Int32) (tp : OB) (rz : Nat → OB) {res : Int32 × OB × (Nat → OB)} (h : f_X5_read_u F x1 tp rz = some res) : CtIE l yX5_read wsX5_read (rmK 28 0 0) [.ref (ta 0), va_rf (rAd ra x1)] D k (EX ad tv) sz (tpW k ta tp ++ (RU k ra rz)) (fun r (_ : Unit) => r = res.1) (fun _ : Unit => tpW k ta res.2.1 ++ (RU k ra res.2.2)) 0 0 := by
  by_cases g : 0 ≤ (Int32.toInt x1) ∧ (Int32.toInt x1) < 6
  · have h := fw_t g h
    obtain ⟨q, hq, h⟩ := fw_b h
    cases h
    have ec : (Int32.toInt x1) = 0 ∨ (Int32.toInt x1) = 1 ∨ (Int32.toInt x1) = 2 ∨ (Int32.toInt x1) = 3 ∨ (Int32.toInt x1) = 4 ∨ (Int32.toInt x1) = 5 := by omega
    rcases ec with ec | ec | ec | ec | ec | ec
    · have en : (Int32.toInt x1).toNat = 0 := by omega
      have ea : rAd ra x1 = some (ra 0) := by unfold rAd; rw [if_pos g, en]
      rw [ea]
      rw [en] at hq ⊢
      exact CtIE.qfr (us := [tpW k ta tp, ruW k (fun j => ra (0 + j)) (rz 0), ruW k (fun j => ra (6 + j)) (rz 1), ruW k (fun j => ra (12 + j)) (rz 2), ruW k (fun j => ra (18 + j)) (rz 3), ruW k (fun j => ra (24 + j)) (rz 4), ruW k (fun j => ra (30 + j)) (rz 5)]) (us' := [tpW k ta q.2.1, ruW k (fun j => ra (0 + j)) (uF rz 0 q.2.2 0), ruW k (fun j => ra (6 + j)) (uF rz 0 q.2.2 1), ruW k (fun j => ra (12 + j)) (uF rz 0 q.2.2 2), ruW k (fun j => ra (18 + j)) (uF rz 0 q.2.2 3), ruW k (fun j => ra (24 + j)) (uF rz 0 q.2.2 4), ruW k (fun j => ra (30 + j)) (uF rz 0 q.2.2 5)]) (EX.ok ad tv) [0, 1] [2, 3, 4, 5, 6] [0, 1, 2, 3, 4, 5, 6] (c_X5_read l D k sz ad tv ta (fun j => ra (0 + j)) F tp (rz 0) hq) (by decide +kernel) (qall_of ⟨rfl, rfl, rfl, rfl, rfl, trivial⟩)
    · have en : (Int32.toInt x1).toNat = 1 := by omega
      have ea : rAd ra x1 = some (ra 6) := by unfold rAd; rw [if_pos g, en]
      rw [ea]
      rw [en] at hq ⊢
      exact CtIE.qfr (us := [tpW k ta tp, ruW k (fun j => ra (0 + j)) (rz 0), ruW k (fun j => ra (6 + j)) (rz 1), ruW k (fun j => ra (12 + j)) (rz 2), ruW k (fun j => ra (18 + j)) (rz 3), ruW k (fun j => ra (24 + j)) (rz 4), ruW k (fun j => ra (30 + j)) (rz 5)]) (us' := [tpW k ta q.2.1, ruW k (fun j => ra (0 + j)) (uF rz 1 q.2.2 0), ruW k (fun j => ra (6 + j)) (uF rz 1 q.2.2 1), ruW k (fun j => ra (12 + j)) (uF rz 1 q.2.2 2), ruW k (fun j => ra (18 + j)) (uF rz 1 q.2.2 3), ruW k (fun j => ra (24 + j)) (uF rz 1 q.2.2 4), ruW k (fun j => ra (30 + j)) (uF rz 1 q.2.2 5)]) (EX.ok ad tv) [0, 2] [1, 3, 4, 5, 6] [0, 1, 2, 3, 4, 5, 6] (c_X5_read l D k sz ad tv ta (fun j => ra (6 + j)) F tp (rz 1) hq) (by decide +kernel) (qall_of ⟨rfl, rfl, rfl, rfl, rfl, trivial⟩)
    · have en : (Int32.toInt x1).toNat = 2 := by omega
      have ea : rAd ra x1 = some (ra 12) := by unfold rAd; rw [if_pos g, en]
      rw [ea]
      rw [en] at hq ⊢
      exact CtIE.qfr (us := [tpW k ta tp, ruW k (fun j => ra (0 + j)) (rz 0), ruW k (fun j => ra (6 + j)) (rz 1), ruW k (fun j => ra (12 + j)) (rz 2), ruW k (fun j => ra (18 + j)) (rz 3), ruW k (fun j => ra (24 + j)) (rz 4), ruW k (fun j => ra (30 + j)) (rz 5)]) (us' := [tpW k ta q.2.1, ruW k (fun j => ra (0 + j)) (uF rz 2 q.2.2 0), ruW k (fun j => ra (6 + j)) (uF rz 2 q.2.2 1), ruW k (fun j => ra (12 + j)) (uF rz 2 q.2.2 2), ruW k (fun j => ra (18 + j)) (uF rz 2 q.2.2 3), ruW k (fun j => ra (24 + j)) (uF rz 2 q.2.2 4), ruW k (fun j => ra (30 + j)) (uF rz 2 q.2.2 5)]) (EX.ok ad tv) [0, 3] [1, 2, 4, 5, 6] [0, 1, 2, 3, 4, 5, 6] (c_X5_read l D k sz ad tv ta (fun j => ra (12 + j)) F tp (rz 2) hq) (by decide +kernel) (qall_of ⟨rfl, rfl, rfl, rfl, rfl, trivial⟩)
    · have en : (Int32.toInt x1).toNat = 3 := by omega
      have ea : rAd ra x1 = some (ra 18) := by unfold rAd; rw [if_pos g, en]
      rw [ea]
      rw [en] at hq ⊢
      exact CtIE.qfr (us := [tpW k ta tp, ruW k (fun j => ra (0 + j)) (rz 0), ruW k (fun j => ra (6 + j)) (rz 1), ruW k (fun j => ra (12 + j)) (rz 2), ruW k (fun j => ra (18 + j)) (rz 3), ruW k (fun j => ra (24 + j)) (rz 4), ruW k (fun j => ra (30 + j)) (rz 5)]) (us' := [tpW k ta q.2.1, ruW k (fun j => ra (0 + j)) (uF rz 3 q.2.2 0), ruW k (fun j => ra (6 + j)) (uF rz 3 q.2.2 1), ruW k (fun j => ra (12 + j)) (uF rz 3 q.2.2 2), ruW k (fun j => ra (18 + j)) (uF rz 3 q.2.2 3), ruW k (fun j => ra (24 + j)) (uF rz 3 q.2.2 4), ruW k (fun j => ra (30 + j)) (uF rz 3 q.2.2 5)]) (EX.ok ad tv) [0, 4] [1, 2, 3, 5, 6] [0, 1, 2, 3, 4, 5, 6] (c_X5_read l D k sz ad tv ta (fun j => ra (18 + j)) F tp (rz 3) hq) (by decide +kernel) (qall_of ⟨rfl, rfl, rfl, rfl, rfl, trivial⟩)
    · have en : (Int32.toInt x1).toNat = 4 := by omega
      have ea : rAd ra x1 = some (ra 24) := by unfold rAd; rw [if_pos g, en]
      rw [ea]
      rw [en] at hq ⊢
      exact CtIE.qfr (us := [tpW k ta tp, ruW k (fun j => ra (0 + j)) (rz 0), ruW k (fun j => ra (6 + j)) (rz 1), ruW k (fun j => ra (12 + j)) (rz 2), ruW k (fun j => ra (18 + j)) (rz 3), ruW k (fun j => ra (24 + j)) (rz 4), ruW k (fun j => ra (30 + j)) (rz 5)]) (us' := [tpW k ta q.2.1, ruW k (fun j => ra (0 + j)) (uF rz 4 q.2.2 0), ruW k (fun j => ra (6 + j)) (uF rz 4 q.2.2 1), ruW k (fun j => ra (12 + j)) (uF rz 4 q.2.2 2), ruW k (fun j => ra (18 + j)) (uF rz 4 q.2.2 3), ruW k (fun j => ra (24 + j)) (uF rz 4 q.2.2 4), ruW k (fun j => ra (30 + j)) (uF rz 4 q.2.2 5)]) (EX.ok ad tv) [0, 5] [1, 2, 3, 4, 6] [0, 1, 2, 3, 4, 5, 6] (c_X5_read l D k sz ad tv ta (fun j => ra (24 + j)) F tp (rz 4) hq) (by decide +kernel) (qall_of ⟨rfl, rfl, rfl, rfl, rfl, trivial⟩)
    · have en : (Int32.toInt x1).toNat = 5 := by omega
      have ea : rAd ra x1 = some (ra 30) := by unfold rAd; rw [if_pos g, en]
      rw [ea]
      rw [en] at hq ⊢
      exact CtIE.qfr (us := [tpW k ta tp, ruW k (fun j => ra (0 + j)) (rz 0), ruW k (fun j => ra (6 + j)) (rz 1), ruW k (fun j => ra (12 + j)) (rz 2), ruW k (fun j => ra (18 + j)) (rz 3), ruW k (fun j => ra (24 + j)) (rz 4), ruW k (fun j => ra (30 + j)) (rz 5)]) (us' := [tpW k ta q.2.1, ruW k (fun j => ra (0 + j)) (uF rz 5 q.2.2 0), ruW k (fun j => ra (6 + j)) (uF rz 5 q.2.2 1), ruW k (fun j => ra (12 + j)) (uF rz 5 q.2.2 2), ruW k (fun j => ra (18 + j)) (uF rz 5 q.2.2 3), ruW k (fun j => ra (24 + j)) (uF rz 5 q.2.2 4), ruW k (fun j => ra (30 + j)) (uF rz 5 q.2.2 5)]) (EX.ok ad tv) [0, 6] [1, 2, 3, 4, 5] [0, 1, 2, 3, 4, 5, 6] (c_X5_read l D k sz ad tv ta (fun j => ra (30 + j)) F tp (rz 5) hq) (by decide +kernel) (qall_of ⟨rfl, rfl, rfl, rfl, rfl, trivial⟩)
  · have h := fw_f g h
    cases h
noncomputable def f_X6_copyFrom (F : Nat)   (si : Nat → Int32) (rm : OB) (ac : OB) (nt : OB) (sj : Nat → Int32) (rn : OB) (ae : OB) (nu : OB) : Option ((Nat → Int32) × OB × OB × OB) :=
  Option.bind (f_X3_copyFrom F rm rn) (fun q1 => (Option.bind (f_X0_copyFrom F ac ae) (fun q2 => (Option.bind (f_X2_copyFrom F nt nu) (fun q3 => (some ((uF (uF si 3 (sj 3)) 4 (sj 4)), q1, q2, q3)))))))
set_option maxHeartbeats 4000000 in
set_option maxRecDepth 100000 in
theorem c_X6_copyFrom (l : Launch) (D : va_G) (k : Nat → ClassId) (sz : Nat)  (sa : Nat → Nat) (xa : Nat → Nat) (ca : Nat → Nat) (na : Nat → Nat) (sb : Nat → Nat) (xb : Nat → Nat) (cb : Nat → Nat) (nb : Nat → Nat) (F : Nat)   (si : Nat → Int32) (rm : OB) (ac : OB) (nt : OB) (sj : Nat → Int32) (rn : OB) (ae : OB) (nu : OB)  {res : (Nat → Int32) × OB × OB × OB} (h : f_X6_copyFrom F si rm ac nt sj rn ae nu = some res) : CtV l yX6_copyFrom wsX6_copyFrom (rmK 3 0 0) [.ref (sa 0), .ref (sb 0)] D k sz (([((sa 0), .inr (4, [.ref (xa 0), .ref (ca 0), .ref (na 0), .int (si 3), .int (si 4)]))] : va_W) ++ (rmW k xa rm ++ (acW k ca ac ++ (ntW k na nt ++ (([((sb 0), .inr (4, [.ref (xb 0), .ref (cb 0), .ref (nb 0), .int (sj 3), .int (sj 4)]))] : va_W) ++ (rmW k xb rn ++ (acW k cb ae ++ (ntW k nb nu)))))))) (fun (_ : Unit) => True) (fun _ : Unit => ([((sa 0), .inr (4, [.ref (xa 0), .ref (ca 0), .ref (na 0), .int (res.1 3), .int (res.1 4)]))] : va_W) ++ (rmW k xa res.2.1 ++ (acW k ca res.2.2.1 ++ (ntW k na res.2.2.2 ++ (([((sb 0), .inr (4, [.ref (xb 0), .ref (cb 0), .ref (nb 0), .int (sj 3), .int (sj 4)]))] : va_W) ++ (rmW k xb rn ++ (acW k cb ae ++ (ntW k nb nu)))))))) 0 0 := by
  refine CtV.mk (cc := cX6_copyFrom) (maxL := 2) (ret := none) (by decide) rfl (Nat.le_of_ble_eq_true rfl) ?_
  intro p e s m below meth c A ls E hP hD hS hl
  obtain ⟨hx, hb, hr, hml, hown, hts, hlocks, hin, hG, hA⟩ := E
  have hown : s.vm.findClass RX6 = some m.cls := hown
  have in0 : ∀ w ∈ u_ws RX0 TX0 5, w ∈ wsX6_copyFrom := fun _ h => List.mem_cons_of_mem _ (List.mem_append_left _ (List.mem_append_right _ h))
  have in2 : ∀ w ∈ u_ws RX2 TX2 4, w ∈ wsX6_copyFrom := fun _ h => List.mem_cons_of_mem _ (List.mem_append_right _ h)
  have in3 : ∀ w ∈ u_ws RX3 TX3 17, w ∈ wsX6_copyFrom := fun _ h => List.mem_cons_of_mem _ (List.mem_append_left _ (List.mem_append_left _ (List.mem_append_right _ h)))
  have in6 : ∀ w ∈ u_ws RX6 TX6 5, w ∈ wsX6_copyFrom := fun _ h => List.mem_cons_of_mem _ (List.mem_append_left _ (List.mem_append_left _ (List.mem_append_left _ (List.mem_append_right _ h))))
  have hl : lv_has ls 2 [(0, .ref (sa 0)), (1, .ref (sb 0))] := hl
  refine lv_aload_n hx hb dX6_copyFrom_0 rfl (lv_at hl 0 rfl) ?_
  refine va_get (D := D) (ci := 4) (v := .ref (xa 0)) (C := RX6) (T := TX6) (N := 5) hx hb hts in6 hown hG.1 hP 0 rfl rfl 0 (by decide) (hts (.fieldLink RX6 12 "ChairCane$Standing" "room" "LChairCane$Room;") (mem_b bq_wsX6_copyFrom 0 0 rfl)) (fun _ h9 => h9) rfl dX6_copyFrom_1 ?_
  refine lv_aload_n hx hb dX6_copyFrom_4 rfl (lv_at hl 1 rfl) ?_
  refine va_get (D := D) (ci := 4) (v := .ref (xb 0)) (C := RX6) (T := TX6) (N := 5) hx hb hts in6 hown hG.1 hP 18 rfl rfl 0 (by decide) (hts (.fieldLink RX6 12 "ChairCane$Standing" "room" "LChairCane$Room;") (mem_b bq_wsX6_copyFrom 0 0 rfl)) (fun _ h9 => h9) rfl dX6_copyFrom_5 ?_
  obtain ⟨hP, hD⟩ := qm hP hD (q_to [([((sa 0), .inr (4, [.ref (xa 0), .ref (ca 0), .ref (na 0), .int (si 3), .int (si 4)]))] : va_W), rmW k xa rm, acW k ca ac, ntW k na nt, ([((sb 0), .inr (4, [.ref (xb 0), .ref (cb 0), .ref (nb 0), .int (sj 3), .int (sj 4)]))] : va_W), rmW k xb rn, acW k cb ae, ntW k nb nu] [0, 1, 2, 3, 4, 5, 6, 7] [1, 5] [0, 2, 3, 4, 6, 7] (by decide +kernel))
  refine fw_Vv (As := [.ref (xb 0)]) (rest := []) (n := 1) (wp := fun b : OB => rmW k xa b ++ (rmW k xb rn)) h hx hb hml hown hts hG hA hP hD hS hl.1 _ _ (fun q hq9 => c_X3_copyFrom l D k _  xa xb F  rm rn  hq9) (ci := 2) (q0 := 0) rfl rfl gX6_copyFrom_X3_copyFrom rfl ⟨rfl, rfl, Nat.le_of_ble_eq_true rfl, Nat.le_of_ble_eq_true rfl⟩ (by decide +kernel) (q_l _ _) (q_r _ _) (q_nd _ _) ⟨rfl, rfl, Nat.le_of_ble_eq_true rfl, Nat.le_of_ble_eq_true rfl, Nat.le_of_ble_eq_true rfl⟩ dX6_copyFrom_8 (fun q1 H locs h hP hD hS => ?_)
  obtain ⟨hP, hD⟩ := qm (w2 := ([((sa 0), .inr (4, [.ref (xa 0), .ref (ca 0), .ref (na 0), .int (si 3), .int (si 4)]))] : va_W) ++ (rmW k xa q1 ++ (acW k ca ac ++ (ntW k na nt ++ (([((sb 0), .inr (4, [.ref (xb 0), .ref (cb 0), .ref (nb 0), .int (sj 3), .int (sj 4)]))] : va_W) ++ (rmW k xb rn ++ (acW k cb ae ++ (ntW k nb nu)))))))) hP hD (q_from [([((sa 0), .inr (4, [.ref (xa 0), .ref (ca 0), .ref (na 0), .int (si 3), .int (si 4)]))] : va_W), rmW k xa q1, acW k ca ac, ntW k na nt, ([((sb 0), .inr (4, [.ref (xb 0), .ref (cb 0), .ref (nb 0), .int (sj 3), .int (sj 4)]))] : va_W), rmW k xb rn, acW k cb ae, ntW k nb nu] [0, 2, 3, 4, 6, 7] [1, 5] [0, 1, 2, 3, 4, 5, 6, 7] (by decide +kernel))
  refine lv_aload_n hx hb dX6_copyFrom_11 rfl (lv_at hl 0 rfl) ?_
  refine va_get (D := D) (ci := 4) (v := .ref (ca 0)) (C := RX6) (T := TX6) (N := 5) hx hb hts in6 hown hG.1 hP 0 rfl rfl 1 (by decide) (hts (.fieldLink RX6 21 "ChairCane$Standing" "acts" "LChairCane$Acts;") (mem_b bq_wsX6_copyFrom 0 1 rfl)) (fun _ h9 => h9) rfl dX6_copyFrom_12 ?_
  refine lv_aload_n hx hb dX6_copyFrom_15 rfl (lv_at hl 1 rfl) ?_
  refine va_get (D := D) (ci := 4) (v := .ref (cb 0)) (C := RX6) (T := TX6) (N := 5) hx hb hts in6 hown hG.1 hP 18 rfl rfl 1 (by decide) (hts (.fieldLink RX6 21 "ChairCane$Standing" "acts" "LChairCane$Acts;") (mem_b bq_wsX6_copyFrom 0 1 rfl)) (fun _ h9 => h9) rfl dX6_copyFrom_16 ?_
  obtain ⟨hP, hD⟩ := qm hP hD (q_to [([((sa 0), .inr (4, [.ref (xa 0), .ref (ca 0), .ref (na 0), .int (si 3), .int (si 4)]))] : va_W), rmW k xa q1, acW k ca ac, ntW k na nt, ([((sb 0), .inr (4, [.ref (xb 0), .ref (cb 0), .ref (nb 0), .int (sj 3), .int (sj 4)]))] : va_W), rmW k xb rn, acW k cb ae, ntW k nb nu] [0, 1, 2, 3, 4, 5, 6, 7] [2, 6] [0, 1, 3, 4, 5, 7] (by decide +kernel))
  refine fw_Vv (As := [.ref (cb 0)]) (rest := []) (n := 1) (wp := fun b : OB => acW k ca b ++ (acW k cb ae)) h hx hb hml hown hts hG hA hP hD hS hl.1 _ _ (fun q hq9 => c_X0_copyFrom l D k _  ca cb F  ac ae  hq9) (ci := 0) (q0 := 0) rfl rfl gX6_copyFrom_X0_copyFrom rfl ⟨rfl, rfl, Nat.le_of_ble_eq_true rfl, Nat.le_of_ble_eq_true rfl⟩ (by decide +kernel) (q_l _ _) (q_r _ _) (q_nd _ _) ⟨rfl, rfl, Nat.le_of_ble_eq_true rfl, Nat.le_of_ble_eq_true rfl, Nat.le_of_ble_eq_true rfl⟩ dX6_copyFrom_19 (fun q2 H locs h hP hD hS => ?_)
  obtain ⟨hP, hD⟩ := qm (w2 := ([((sa 0), .inr (4, [.ref (xa 0), .ref (ca 0), .ref (na 0), .int (si 3), .int (si 4)]))] : va_W) ++ (rmW k xa q1 ++ (acW k ca q2 ++ (ntW k na nt ++ (([((sb 0), .inr (4, [.ref (xb 0), .ref (cb 0), .ref (nb 0), .int (sj 3), .int (sj 4)]))] : va_W) ++ (rmW k xb rn ++ (acW k cb ae ++ (ntW k nb nu)))))))) hP hD (q_from [([((sa 0), .inr (4, [.ref (xa 0), .ref (ca 0), .ref (na 0), .int (si 3), .int (si 4)]))] : va_W), rmW k xa q1, acW k ca q2, ntW k na nt, ([((sb 0), .inr (4, [.ref (xb 0), .ref (cb 0), .ref (nb 0), .int (sj 3), .int (sj 4)]))] : va_W), rmW k xb rn, acW k cb ae, ntW k nb nu] [0, 1, 3, 4, 5, 7] [2, 6] [0, 1, 2, 3, 4, 5, 6, 7] (by decide +kernel))
  refine lv_aload_n hx hb dX6_copyFrom_22 rfl (lv_at hl 0 rfl) ?_
  refine va_get (D := D) (ci := 4) (v := .ref (na 0)) (C := RX6) (T := TX6) (N := 5) hx hb hts in6 hown hG.1 hP 0 rfl rfl 2 (by decide) (hts (.fieldLink RX6 28 "ChairCane$Standing" "notes" "LChairCane$Notes;") (mem_b bq_wsX6_copyFrom 0 2 rfl)) (fun _ h9 => h9) rfl dX6_copyFrom_23 ?_
  refine lv_aload_n hx hb dX6_copyFrom_26 rfl (lv_at hl 1 rfl) ?_
  refine va_get (D := D) (ci := 4) (v := .ref (nb 0)) (C := RX6) (T := TX6) (N := 5) hx hb hts in6 hown hG.1 hP 18 rfl rfl 2 (by decide) (hts (.fieldLink RX6 28 "ChairCane$Standing" "notes" "LChairCane$Notes;") (mem_b bq_wsX6_copyFrom 0 2 rfl)) (fun _ h9 => h9) rfl dX6_copyFrom_27 ?_
  obtain ⟨hP, hD⟩ := qm hP hD (q_to [([((sa 0), .inr (4, [.ref (xa 0), .ref (ca 0), .ref (na 0), .int (si 3), .int (si 4)]))] : va_W), rmW k xa q1, acW k ca q2, ntW k na nt, ([((sb 0), .inr (4, [.ref (xb 0), .ref (cb 0), .ref (nb 0), .int (sj 3), .int (sj 4)]))] : va_W), rmW k xb rn, acW k cb ae, ntW k nb nu] [0, 1, 2, 3, 4, 5, 6, 7] [3, 7] [0, 1, 2, 4, 5, 6] (by decide +kernel))
  refine fw_Vv (As := [.ref (nb 0)]) (rest := []) (n := 1) (wp := fun b : OB => ntW k na b ++ (ntW k nb nu)) h hx hb hml hown hts hG hA hP hD hS hl.1 _ _ (fun q hq9 => c_X2_copyFrom l D k _  na nb F  nt nu  hq9) (ci := 1) (q0 := 0) rfl rfl gX6_copyFrom_X2_copyFrom rfl ⟨rfl, rfl, Nat.le_of_ble_eq_true rfl, Nat.le_of_ble_eq_true rfl⟩ (by decide +kernel) (q_l _ _) (q_r _ _) (q_nd _ _) ⟨rfl, rfl, Nat.le_of_ble_eq_true rfl, Nat.le_of_ble_eq_true rfl, Nat.le_of_ble_eq_true rfl⟩ dX6_copyFrom_30 (fun q3 H locs h hP hD hS => ?_)
  obtain ⟨hP, hD⟩ := qm (w2 := ([((sa 0), .inr (4, [.ref (xa 0), .ref (ca 0), .ref (na 0), .int (si 3), .int (si 4)]))] : va_W) ++ (rmW k xa q1 ++ (acW k ca q2 ++ (ntW k na q3 ++ (([((sb 0), .inr (4, [.ref (xb 0), .ref (cb 0), .ref (nb 0), .int (sj 3), .int (sj 4)]))] : va_W) ++ (rmW k xb rn ++ (acW k cb ae ++ (ntW k nb nu)))))))) hP hD (q_from [([((sa 0), .inr (4, [.ref (xa 0), .ref (ca 0), .ref (na 0), .int (si 3), .int (si 4)]))] : va_W), rmW k xa q1, acW k ca q2, ntW k na q3, ([((sb 0), .inr (4, [.ref (xb 0), .ref (cb 0), .ref (nb 0), .int (sj 3), .int (sj 4)]))] : va_W), rmW k xb rn, acW k cb ae, ntW k nb nu] [0, 1, 2, 4, 5, 6] [3, 7] [0, 1, 2, 3, 4, 5, 6, 7] (by decide +kernel))
  refine lv_aload_n hx hb dX6_copyFrom_33 rfl (lv_at hl 0 rfl) ?_
  refine lv_aload_n hx hb dX6_copyFrom_34 rfl (lv_at hl 1 rfl) ?_
  refine va_get (D := D) (ci := 4) (v := .int (sj 3)) (C := RX6) (T := TX6) (N := 5) hx hb hts in6 hown hG.1 hP 18 rfl rfl 3 (by decide) (hts (.fieldLink RX6 32 "ChairCane$Standing" "inForce" "I") (mem_b bq_wsX6_copyFrom 0 3 rfl)) (fun _ h9 => h9) rfl dX6_copyFrom_35 ?_
  refine va_put (D := D) (ci := 4) (v := .int (sj 3)) (C := RX6) (T := TX6) (N := 5) hx hb hts in6 tyX6 tyX6_ok nmX6 hown hG.1 hP hD hS 0 rfl rfl 3 (by decide) (hts (.fieldLink RX6 32 "ChairCane$Standing" "inForce" "I") (mem_b bq_wsX6_copyFrom 0 3 rfl)) (fun _ h9 => h9) rfl (tyX6_ok 3 (by decide)) rfl rfl (Nat.le_of_ble_eq_true rfl) dX6_copyFrom_38 (fun H locs hP hD hS => ?_)
  refine lv_aload_n hx hb dX6_copyFrom_41 rfl (lv_at hl 0 rfl) ?_
  refine lv_aload_n hx hb dX6_copyFrom_42 rfl (lv_at hl 1 rfl) ?_
  refine va_get (D := D) (ci := 4) (v := .int (sj 4)) (C := RX6) (T := TX6) (N := 5) hx hb hts in6 hown hG.1 hP 18 rfl rfl 4 (by decide) (hts (.fieldLink RX6 36 "ChairCane$Standing" "x" "I") (mem_b bq_wsX6_copyFrom 0 4 rfl)) (fun _ h9 => h9) rfl dX6_copyFrom_43 ?_
  refine va_put (D := D) (ci := 4) (v := .int (sj 4)) (C := RX6) (T := TX6) (N := 5) hx hb hts in6 tyX6 tyX6_ok nmX6 hown hG.1 hP hD hS 0 rfl rfl 4 (by decide) (hts (.fieldLink RX6 36 "ChairCane$Standing" "x" "I") (mem_b bq_wsX6_copyFrom 0 4 rfl)) (fun _ h9 => h9) rfl (tyX6_ok 4 (by decide)) rfl rfl (Nat.le_of_ble_eq_true rfl) dX6_copyFrom_46 (fun H locs hP hD hS => ?_)
  exact fw_endV (wp := fun b : (Nat → Int32) × OB × OB × OB => ([((sa 0), .inr (4, [.ref (xa 0), .ref (ca 0), .ref (na 0), .int (b.1 3), .int (b.1 4)]))] : va_W) ++ (rmW k xa b.2.1 ++ (acW k ca b.2.2.1 ++ (ntW k na b.2.2.2 ++ (([((sb 0), .inr (4, [.ref (xb 0), .ref (cb 0), .ref (nb 0), .int (sj 3), .int (sj 4)]))] : va_W) ++ (rmW k xb rn ++ (acW k cb ae ++ (ntW k nb nu)))))))) hx hb hr hlocks h hP hD hS dX6_copyFrom_49
