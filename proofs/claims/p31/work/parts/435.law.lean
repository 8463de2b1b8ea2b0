/-! 435.law -/
section
/-! the words of the law's calls, by list and place -/
noncomputable def lawRs : List (List Cond) := [wsL_law_r1, wsL_law_r2, wsL_law_r3, wsL_law_r4, wsL_law_r5, wsL_law_r6, wsL_law_r7, wsL_law_r8, wsL_law_r9, wsL_law_r10, wsL_law_r11, wsL_law_r12, wsL_law_r13, wsL_law_r14, wsL_law_r15, wsL_law_r16, wsL_law_r17, wsL_law_r18, wsL_law_r19, wsL_law_r20, wsL_law_r21, wsL_law_r22, wsL_law_r23, wsL_law_r24, wsL_law_r25, wsL_law_r26, wsL_law_r27, wsL_law_r28, wsL_law_r29, wsL_law_r30, wsL_law_r31, wsL_law_r32, wsL_law_r33, wsL_law_r34, wsL_law_r35, wsL_law_r36, wsL_law_r37, wsL_law_r38, wsL_law_r39, wsL_law_r40, wsL_law_r41, wsL_law_r42, wsL_law_r43, wsL_law_r44, wsL_law_r45, wsL_law_r46, wsL_law_r47, wsL_law_r48, wsL_law_r49, wsL_law_r50, wsL_law_r51, wsX80, wsX90, wsX70, wsX60, wsX30, wsX40, wsX00, wsX20]
theorem lawRs_in : ∀ l ∈ lawRs, ∀ w ∈ l, w ∈ lw_tbl := List.forall_mem_cons.mpr ⟨in_wsL_law_r1, List.forall_mem_cons.mpr ⟨in_wsL_law_r2, List.forall_mem_cons.mpr ⟨in_wsL_law_r3, List.forall_mem_cons.mpr ⟨in_wsL_law_r4, List.forall_mem_cons.mpr ⟨in_wsL_law_r5, List.forall_mem_cons.mpr ⟨in_wsL_law_r6, List.forall_mem_cons.mpr ⟨in_wsL_law_r7, List.forall_mem_cons.mpr ⟨in_wsL_law_r8, List.forall_mem_cons.mpr ⟨in_wsL_law_r9, List.forall_mem_cons.mpr ⟨in_wsL_law_r10, List.forall_mem_cons.mpr ⟨in_wsL_law_r11, List.forall_mem_cons.mpr ⟨in_wsL_law_r12, List.forall_mem_cons.mpr ⟨in_wsL_law_r13, List.forall_mem_cons.mpr ⟨in_wsL_law_r14, List.forall_mem_cons.mpr ⟨in_wsL_law_r15, List.forall_mem_cons.mpr ⟨in_wsL_law_r16, List.forall_mem_cons.mpr ⟨in_wsL_law_r17, List.forall_mem_cons.mpr ⟨in_wsL_law_r18, List.forall_mem_cons.mpr ⟨in_wsL_law_r19, List.forall_mem_cons.mpr ⟨in_wsL_law_r20, List.forall_mem_cons.mpr ⟨in_wsL_law_r21, List.forall_mem_cons.mpr ⟨in_wsL_law_r22, List.forall_mem_cons.mpr ⟨in_wsL_law_r23, List.forall_mem_cons.mpr ⟨in_wsL_law_r24, List.forall_mem_cons.mpr ⟨in_wsL_law_r25, List.forall_mem_cons.mpr ⟨in_wsL_law_r26, List.forall_mem_cons.mpr ⟨in_wsL_law_r27, List.forall_mem_cons.mpr ⟨in_wsL_law_r28, List.forall_mem_cons.mpr ⟨in_wsL_law_r29, List.forall_mem_cons.mpr ⟨in_wsL_law_r30, List.forall_mem_cons.mpr ⟨in_wsL_law_r31, List.forall_mem_cons.mpr ⟨in_wsL_law_r32, List.forall_mem_cons.mpr ⟨in_wsL_law_r33, List.forall_mem_cons.mpr ⟨in_wsL_law_r34, List.forall_mem_cons.mpr ⟨in_wsL_law_r35, List.forall_mem_cons.mpr ⟨in_wsL_law_r36, List.forall_mem_cons.mpr ⟨in_wsL_law_r37, List.forall_mem_cons.mpr ⟨in_wsL_law_r38, List.forall_mem_cons.mpr ⟨in_wsL_law_r39, List.forall_mem_cons.mpr ⟨in_wsL_law_r40, List.forall_mem_cons.mpr ⟨in_wsL_law_r41, List.forall_mem_cons.mpr ⟨in_wsL_law_r42, List.forall_mem_cons.mpr ⟨in_wsL_law_r43, List.forall_mem_cons.mpr ⟨in_wsL_law_r44, List.forall_mem_cons.mpr ⟨in_wsL_law_r45, List.forall_mem_cons.mpr ⟨in_wsL_law_r46, List.forall_mem_cons.mpr ⟨in_wsL_law_r47, List.forall_mem_cons.mpr ⟨in_wsL_law_r48, List.forall_mem_cons.mpr ⟨in_wsL_law_r49, List.forall_mem_cons.mpr ⟨in_wsL_law_r50, List.forall_mem_cons.mpr ⟨in_wsL_law_r51, List.forall_mem_cons.mpr ⟨inX8, List.forall_mem_cons.mpr ⟨inX9, List.forall_mem_cons.mpr ⟨inX7, List.forall_mem_cons.mpr ⟨inX6, List.forall_mem_cons.mpr ⟨inX3, List.forall_mem_cons.mpr ⟨inX4, List.forall_mem_cons.mpr ⟨inX0, List.forall_mem_cons.mpr ⟨inX2, fun _ h => absurd h List.not_mem_nil⟩⟩⟩⟩⟩⟩⟩⟩⟩⟩⟩⟩⟩⟩⟩⟩⟩⟩⟩⟩⟩⟩⟩⟩⟩⟩⟩⟩⟩⟩⟩⟩⟩⟩⟩⟩⟩⟩⟩⟩⟩⟩⟩⟩⟩⟩⟩⟩⟩⟩⟩⟩⟩⟩⟩⟩⟩⟩⟩
theorem good_rr (ws : List Cond) (ps : List (Nat × Nat)) (hp : ws = ps.filterMap (fun i => (lawRs[i.1]?).bind (fun l => l[i.2]?))) (h : ws.all goodWord = true) : GoodIn lw_tbl ws := by
  intro w hw
  have h1 := List.all_eq_true.mp h w hw
  rw [hp] at hw
  obtain ⟨i, -, hi⟩ := List.mem_filterMap.mp hw
  obtain ⟨l, hl, hi⟩ := Option.bind_eq_some_iff.mp hi
  have hm : w ∈ l := by first | exact List.mem_of_getElem? hi | exact List.getElem?_mem hi
  have hm2 : l ∈ lawRs := by first | exact List.mem_of_getElem? hl | exact List.getElem?_mem hl
  exact ⟨lawRs_in l hm2 w hm, good_of_word h1⟩
set_option maxRecDepth 100000 in
set_option maxHeartbeats 4000000 in
theorem gtl_X7 : GoodIn lw_tbl wsX70 := good_rr _ [(53, 0), (53, 1), (53, 2), (53, 3), (53, 4), (53, 5), (53, 6), (53, 7)] rfl (by decide +kernel)
set_option maxRecDepth 100000 in
set_option maxHeartbeats 4000000 in
theorem gtl_X8 : GoodIn lw_tbl wsX80 := good_rr _ [(51, 0), (51, 1), (51, 2), (51, 3), (51, 4), (51, 5), (51, 6), (51, 7), (51, 8), (51, 9), (51, 10), (51, 11)] rfl (by decide +kernel)
set_option maxRecDepth 100000 in
set_option maxHeartbeats 4000000 in
theorem gtl_X6 : GoodIn lw_tbl wsX60 := good_rr _ [(54, 0), (54, 1), (54, 2), (54, 3), (54, 4)] rfl (by decide +kernel)
set_option maxRecDepth 100000 in
set_option maxHeartbeats 4000000 in
theorem gtl_X3 : GoodIn lw_tbl wsX30 := good_rr _ [(55, 0), (55, 1), (55, 2), (55, 3), (55, 4), (55, 5), (55, 6), (55, 7), (55, 8), (55, 9), (55, 10), (55, 11), (55, 12), (55, 13), (55, 14), (55, 15), (55, 16)] rfl (by decide +kernel)
set_option maxRecDepth 100000 in
set_option maxHeartbeats 4000000 in
theorem gtl_X4 : GoodIn lw_tbl wsX40 := good_rr _ [(56, 0), (56, 1), (56, 2), (56, 3), (56, 4), (56, 5), (56, 6), (56, 7)] rfl (by decide +kernel)
set_option maxRecDepth 100000 in
set_option maxHeartbeats 4000000 in
theorem gtl_X0 : GoodIn lw_tbl wsX00 := good_rr _ [(57, 0), (57, 1), (57, 2), (57, 3), (57, 4)] rfl (by decide +kernel)
set_option maxRecDepth 100000 in
set_option maxHeartbeats 4000000 in
theorem gtl_X2 : GoodIn lw_tbl wsX20 := good_rr _ [(58, 0), (58, 1), (58, 2), (58, 3)] rfl (by decide +kernel)
set_option maxRecDepth 100000 in
set_option maxHeartbeats 4000000 in
theorem gtl_X9 : GoodIn lw_tbl wsX90 := good_rr _ [(52, 0), (52, 1), (52, 2), (52, 3), (52, 4), (52, 5), (52, 6), (52, 7), (52, 8), (52, 9), (52, 10), (52, 11), (52, 12), (52, 13), (52, 14), (52, 15), (52, 16), (52, 17), (52, 18), (52, 19), (52, 20), (52, 21), (52, 22), (52, 23), (52, 24), (52, 25), (52, 26), (52, 27), (52, 28), (52, 29), (52, 30), (52, 31), (52, 32), (52, 33), (52, 34), (52, 35), (52, 36), (52, 37), (52, 38), (52, 39), (52, 40), (52, 41), (52, 42), (52, 43), (52, 44), (52, 45), (52, 46), (52, 47), (52, 48), (52, 49), (52, 50), (52, 51), (52, 52)] rfl (by decide +kernel)
set_option maxRecDepth 100000 in
set_option maxHeartbeats 4000000 in
theorem ggL_law_X8_init : GoodIn lw_tbl wsX8_init := goodIn_cons (good_rr [_] [(0, 8)] rfl (by decide +kernel)) (goodIn_app (goodIn_app (goodIn_app (goodIn_app (goodIn_app (goodIn_app (goodIn_app (good_rr _ [(0, 9), (0, 10), (0, 11), (0, 12), (0, 13), (0, 14), (0, 15), (0, 16), (0, 17), (0, 18), (0, 19), (0, 20), (0, 21), (0, 22), (0, 23), (1, 0), (1, 1), (1, 2), (1, 3), (1, 4), (1, 5), (1, 6), (1, 7), (1, 8), (1, 9), (1, 10), (1, 11), (1, 12), (1, 13), (1, 14), (1, 15), (1, 16), (1, 17), (1, 18), (1, 19), (1, 20), (1, 21), (1, 22), (1, 23), (2, 0), (2, 1), (2, 2), (2, 3), (2, 4), (2, 5), (2, 6), (2, 7), (2, 8), (2, 9), (2, 10), (2, 11), (2, 12), (2, 13), (2, 14), (2, 15), (2, 16), (2, 17), (2, 18), (2, 19), (2, 20), (2, 21), (2, 22), (2, 23), (3, 0), (3, 1), (3, 2), (3, 3), (3, 4), (3, 5), (3, 6), (3, 7), (3, 8), (3, 9), (3, 10), (3, 11), (3, 12), (3, 13), (3, 14), (3, 15), (3, 16), (3, 17), (3, 18), (3, 19), (3, 20), (3, 21), (3, 22), (3, 23), (4, 0), (4, 1), (4, 2), (4, 3), (4, 4), (4, 5), (4, 6), (4, 7), (4, 8), (4, 9), (4, 10), (4, 11), (4, 12), (4, 13), (4, 14), (4, 15)] rfl (by decide +kernel)) gtl_X7) gtl_X8) gtl_X6) gtl_X3) gtl_X4) gtl_X0) gtl_X2)
set_option maxRecDepth 100000 in
set_option maxHeartbeats 4000000 in
theorem ggL_law_X8_feed : GoodIn lw_tbl wsX8_feed := goodIn_cons (good_rr [_] [(6, 13)] rfl (by decide +kernel)) (goodIn_app (goodIn_app (good_rr _ [(0, 15), (6, 14), (6, 15), (6, 16), (6, 17), (0, 14), (6, 18), (1, 19), (1, 18)] rfl (by decide +kernel)) gtl_X8) gtl_X7)
theorem gL_law_X8_feed : GoodIn lw_tbl (wsV RL 13 RX8 yX8_feed wsX8_feed) := goodIn_app (good_rr ([.methodLink RL 13 yX8_feed, .instanceMethod yX8_feed, .selects RX8 yX8_feed yX8_feed, .initialized RX8] : List Cond) [(6, 10), (6, 11), (6, 12), (0, 2)] rfl (by decide +kernel)) ggL_law_X8_feed
set_option maxRecDepth 100000 in
set_option maxHeartbeats 4000000 in
theorem ggL_law_X8_end : GoodIn lw_tbl wsX8_end := goodIn_cons (good_rr [_] [(7, 7)] rfl (by decide +kernel)) (goodIn_app (goodIn_app (good_rr _ [(0, 15), (6, 14)] rfl (by decide +kernel)) gtl_X8) gtl_X7)
theorem gL_law_X8_end : GoodIn lw_tbl (wsV RL 18 RX8 yX8_end wsX8_end) := goodIn_app (good_rr ([.methodLink RL 18 yX8_end, .instanceMethod yX8_end, .selects RX8 yX8_end yX8_end, .initialized RX8] : List Cond) [(7, 4), (7, 5), (7, 6), (0, 2)] rfl (by decide +kernel)) ggL_law_X8_end
set_option maxRecDepth 100000 in
set_option maxHeartbeats 4000000 in
theorem ggL_law_X8_hall : GoodIn lw_tbl wsX8_hall := goodIn_cons (good_rr [_] [(7, 15)] rfl (by decide +kernel)) (goodIn_app (goodIn_app (goodIn_app (goodIn_app (goodIn_app (goodIn_app (good_rr _ [(0, 15), (1, 5), (7, 16), (6, 14), (0, 22), (7, 17), (7, 18), (7, 19), (7, 20), (7, 21), (7, 22), (7, 23), (8, 0), (8, 1), (8, 2), (8, 3), (0, 14), (8, 4), (1, 23), (2, 0), (2, 1), (1, 19), (8, 5), (8, 6), (8, 7), (8, 8), (8, 9), (8, 10), (8, 11), (8, 12), (1, 18), (8, 13), (8, 14), (8, 15), (8, 16), (8, 17), (8, 18), (8, 19), (8, 20), (8, 21), (8, 22), (8, 23), (9, 0), (9, 1), (9, 2), (9, 3), (9, 4), (9, 5), (9, 6), (9, 7), (9, 8), (9, 9), (9, 10), (9, 11), (9, 12), (9, 13), (9, 14), (9, 15), (9, 16), (9, 17), (9, 18), (9, 19), (9, 20), (9, 21), (9, 22), (9, 23), (10, 0), (10, 1), (10, 2), (10, 3), (10, 4), (10, 5), (10, 6), (10, 7), (10, 8), (10, 9), (10, 10), (10, 11), (10, 12), (10, 13), (10, 14), (10, 15), (10, 16), (10, 17), (10, 18), (10, 19), (10, 20), (10, 21), (10, 22), (10, 23), (11, 0), (11, 1), (11, 2), (11, 3), (11, 4), (11, 5), (11, 6), (11, 7), (11, 8), (11, 9), (11, 10), (11, 11), (1, 20), (1, 21), (1, 22), (11, 12), (11, 13), (11, 14), (11, 15), (11, 16), (11, 17), (11, 18), (11, 19), (11, 20), (11, 21), (1, 4), (11, 22), (2, 20), (2, 21), (2, 22), (2, 23), (11, 23), (12, 0), (12, 1), (12, 2), (12, 3), (12, 4), (12, 5), (12, 6), (12, 7), (12, 8), (12, 9), (12, 10), (12, 11), (12, 12), (12, 13), (12, 14), (12, 15), (12, 16), (12, 17), (12, 18), (12, 19), (12, 20), (12, 21), (12, 22), (12, 23), (13, 0), (13, 1), (13, 2), (13, 3), (13, 4), (13, 5), (13, 6), (13, 7), (13, 8), (13, 9), (13, 10), (13, 11), (13, 12), (13, 13), (13, 14), (13, 15), (13, 16), (13, 17), (13, 18), (13, 19), (13, 20), (13, 21), (13, 22), (13, 23), (3, 3), (14, 0), (14, 1), (14, 2), (14, 3), (3, 0), (3, 5), (14, 4), (14, 5), (14, 6), (14, 7), (3, 6), (3, 7), (3, 8), (3, 11), (14, 8), (14, 9), (14, 10), (14, 11), (3, 9), (3, 10), (3, 2), (3, 4), (14, 12), (14, 13), (14, 14), (14, 15), (14, 16), (14, 17), (14, 18), (14, 19), (14, 20), (14, 21), (14, 22), (14, 23), (15, 0), (15, 1), (15, 2), (15, 3), (3, 1), (15, 4), (15, 5), (15, 6), (2, 9), (15, 7), (3, 20), (15, 8), (15, 9), (15, 10), (2, 13), (15, 11), (4, 3)] rfl (by decide +kernel)) gtl_X8) gtl_X7) gtl_X6) gtl_X3) gtl_X0) gtl_X2)
theorem gL_law_X8_hall : GoodIn lw_tbl (wsV RL 23 RX8 yX8_hall wsX8_hall) := goodIn_app (good_rr ([.methodLink RL 23 yX8_hall, .instanceMethod yX8_hall, .selects RX8 yX8_hall yX8_hall, .initialized RX8] : List Cond) [(7, 12), (7, 13), (7, 14), (0, 2)] rfl (by decide +kernel)) ggL_law_X8_hall
set_option maxRecDepth 100000 in
set_option maxHeartbeats 4000000 in
theorem ggL_law_X8_rule : GoodIn lw_tbl wsX8_rule := goodIn_cons (good_rr [_] [(19, 3)] rfl (by decide +kernel)) (goodIn_app (goodIn_app (goodIn_app (good_rr _ [(0, 18), (0, 15), (0, 17), (7, 16), (6, 14), (19, 4), (19, 5), (19, 6), (19, 7), (19, 8), (19, 9), (8, 2), (8, 3), (0, 14), (8, 4), (1, 23), (2, 0), (2, 1), (1, 19), (8, 5), (8, 6), (8, 7), (8, 8), (8, 9), (8, 10), (8, 11), (8, 12), (1, 18), (8, 13), (8, 14), (8, 15), (8, 16), (8, 17), (8, 18), (8, 19), (8, 20), (8, 21), (8, 22), (8, 23), (9, 0), (9, 1), (9, 2), (9, 3), (9, 4), (9, 5), (9, 6), (9, 7), (9, 8), (9, 9), (9, 10), (9, 11), (9, 12), (9, 13), (9, 14), (9, 15), (9, 16), (9, 17), (9, 18), (9, 19), (9, 20), (9, 21), (9, 22), (9, 23), (10, 0), (10, 1), (10, 2), (10, 3), (10, 4), (10, 5), (10, 6), (10, 7), (10, 8), (10, 9), (10, 10), (10, 11), (10, 12), (10, 13), (10, 14), (10, 15), (10, 16), (10, 17), (10, 18), (10, 19), (10, 20), (10, 21), (10, 22), (10, 23), (11, 0), (11, 1), (11, 2), (11, 3), (11, 4), (11, 5), (11, 6), (11, 7), (11, 8), (11, 9), (11, 10), (11, 11), (1, 20), (1, 21), (1, 22), (11, 12), (11, 13), (11, 14), (11, 15), (11, 16), (11, 17), (11, 18), (19, 10), (19, 11), (19, 12), (1, 13), (19, 13), (4, 13), (4, 14), (4, 15), (19, 14), (19, 15), (19, 16), (19, 17), (12, 6), (12, 7), (12, 8), (19, 18), (12, 10), (12, 11), (12, 12), (19, 19), (12, 14), (12, 15), (12, 16), (19, 20), (19, 21), (19, 22), (19, 23), (20, 0), (20, 1), (20, 2), (20, 3), (13, 4), (13, 5), (13, 6), (20, 4), (20, 5), (20, 6), (20, 7), (4, 7), (20, 8), (20, 9), (20, 10), (20, 11), (14, 21), (14, 22), (14, 23), (13, 1), (13, 7), (20, 12), (20, 13), (20, 14), (20, 15), (20, 16), (20, 17), (20, 18), (20, 19), (20, 20), (20, 21), (20, 22), (20, 23), (21, 0), (4, 8), (4, 9), (4, 10)] rfl (by decide +kernel)) gtl_X8) gtl_X7) gtl_X4)
theorem gL_law_X8_rule : GoodIn lw_tbl (wsV RL 28 RX8 yX8_rule wsX8_rule) := goodIn_app (good_rr ([.methodLink RL 28 yX8_rule, .instanceMethod yX8_rule, .selects RX8 yX8_rule yX8_rule, .initialized RX8] : List Cond) [(19, 0), (19, 1), (19, 2), (0, 2)] rfl (by decide +kernel)) ggL_law_X8_rule
set_option maxRecDepth 100000 in
set_option maxHeartbeats 4000000 in
theorem ggL_law_X8_force : GoodIn lw_tbl wsX8_force := goodIn_cons (good_rr [_] [(23, 18)] rfl (by decide +kernel)) (goodIn_app (goodIn_app (good_rr _ [(0, 18), (0, 22), (23, 19)] rfl (by decide +kernel)) gtl_X8) gtl_X6)
theorem gL_law_X8_force : GoodIn lw_tbl (wsV RL 32 RX8 yX8_force wsX8_force) := goodIn_app (good_rr ([.methodLink RL 32 yX8_force, .instanceMethod yX8_force, .selects RX8 yX8_force yX8_force, .initialized RX8] : List Cond) [(23, 15), (23, 16), (23, 17), (0, 2)] rfl (by decide +kernel)) ggL_law_X8_force
set_option maxRecDepth 100000 in
set_option maxHeartbeats 4000000 in
theorem ggL_law_X8_strand : GoodIn lw_tbl wsX8_strand := goodIn_cons (good_rr [_] [(24, 4)] rfl (by decide +kernel)) (goodIn_app (goodIn_app (goodIn_app (good_rr _ [(0, 22), (7, 17), (24, 5), (24, 6), (24, 7), (24, 8), (1, 4), (24, 9), (2, 21)] rfl (by decide +kernel)) gtl_X8) gtl_X6) gtl_X3)
theorem gL_law_X8_strand : GoodIn lw_tbl (wsV RL 36 RX8 yX8_strand wsX8_strand) := goodIn_app (good_rr ([.methodLink RL 36 yX8_strand, .instanceMethod yX8_strand, .selects RX8 yX8_strand yX8_strand, .initialized RX8] : List Cond) [(24, 1), (24, 2), (24, 3), (0, 2)] rfl (by decide +kernel)) ggL_law_X8_strand
set_option maxRecDepth 100000 in
set_option maxHeartbeats 4000000 in
theorem ggL_law_X8_chair : GoodIn lw_tbl wsX8_chair := goodIn_cons (good_rr [_] [(24, 21)] rfl (by decide +kernel)) (goodIn_app (goodIn_app (goodIn_app (good_rr _ [(0, 22), (7, 17), (24, 22), (24, 23), (25, 0), (25, 1), (25, 2), (1, 4), (25, 3), (2, 22), (25, 4), (13, 21), (13, 22), (13, 23), (2, 23), (3, 3), (25, 5), (25, 6), (25, 7), (25, 8), (3, 6), (3, 2), (3, 9), (3, 5), (3, 4)] rfl (by decide +kernel)) gtl_X8) gtl_X6) gtl_X3)
theorem gL_law_X8_chair : GoodIn lw_tbl (wsV RL 40 RX8 yX8_chair wsX8_chair) := goodIn_app (good_rr ([.methodLink RL 40 yX8_chair, .instanceMethod yX8_chair, .selects RX8 yX8_chair yX8_chair, .initialized RX8] : List Cond) [(24, 18), (24, 19), (24, 20), (0, 2)] rfl (by decide +kernel)) ggL_law_X8_chair
set_option maxRecDepth 100000 in
set_option maxHeartbeats 4000000 in
theorem ggL_law_X8_sitter : GoodIn lw_tbl wsX8_sitter := goodIn_cons (good_rr [_] [(27, 0)] rfl (by decide +kernel)) (goodIn_app (goodIn_app (goodIn_app (good_rr _ [(0, 22), (7, 17), (27, 1), (27, 2), (27, 3), (27, 4), (27, 5), (1, 4), (27, 6), (2, 23), (27, 7), (27, 8), (27, 9), (27, 10), (3, 7), (3, 6), (27, 11)] rfl (by decide +kernel)) gtl_X8) gtl_X6) gtl_X3)
theorem gL_law_X8_sitter : GoodIn lw_tbl (wsV RL 45 RX8 yX8_sitter wsX8_sitter) := goodIn_app (good_rr ([.methodLink RL 45 yX8_sitter, .instanceMethod yX8_sitter, .selects RX8 yX8_sitter yX8_sitter, .initialized RX8] : List Cond) [(26, 21), (26, 22), (26, 23), (0, 2)] rfl (by decide +kernel)) ggL_law_X8_sitter
set_option maxRecDepth 100000 in
set_option maxHeartbeats 4000000 in
theorem ggL_law_X8_minute : GoodIn lw_tbl wsX8_minute := goodIn_cons (good_rr [_] [(28, 0)] rfl (by decide +kernel)) (goodIn_app (goodIn_app (goodIn_app (goodIn_app (goodIn_app (good_rr _ [(0, 22), (7, 17), (28, 1), (28, 2), (7, 18), (28, 3), (28, 4), (28, 5), (2, 9), (28, 6), (3, 16), (3, 19), (28, 7), (28, 8), (3, 17), (28, 9), (28, 10), (3, 18), (3, 20), (28, 11), (28, 12), (8, 7), (28, 13), (28, 14), (28, 15), (28, 16), (0, 2), (28, 17), (23, 19), (28, 18), (28, 19), (28, 20), (28, 21), (0, 18), (0, 17), (28, 22), (28, 23), (29, 0), (1, 4), (29, 1), (2, 23), (3, 11), (3, 12), (3, 8), (29, 2), (29, 3), (29, 4), (29, 5), (3, 2), (3, 3), (3, 6), (3, 9), (3, 4), (3, 10), (29, 6), (29, 7), (29, 8), (29, 9), (3, 7), (14, 16), (14, 17), (14, 18), (14, 19), (29, 10), (29, 11), (29, 12), (1, 13), (29, 13), (4, 14), (4, 9), (4, 10), (4, 8), (29, 14), (29, 15), (29, 16), (29, 17), (4, 13), (4, 7), (4, 12), (29, 18), (29, 19), (29, 20), (29, 21), (3, 1), (3, 5), (27, 11), (27, 4), (27, 5), (27, 6), (29, 22), (25, 6), (25, 7), (25, 8), (29, 23), (30, 0), (30, 1), (30, 2), (30, 3), (30, 4), (30, 5), (30, 6), (30, 7), (30, 8), (30, 9), (30, 10), (30, 11), (30, 12), (30, 13), (30, 14), (30, 15), (30, 16), (14, 8), (14, 9), (14, 10), (14, 11), (14, 12), (14, 13), (14, 14), (14, 15)] rfl (by decide +kernel)) gtl_X8) gtl_X6) gtl_X3) gtl_X0) gtl_X4)
theorem gL_law_X8_minute : GoodIn lw_tbl (wsV RL 49 RX8 yX8_minute wsX8_minute) := goodIn_app (good_rr ([.methodLink RL 49 yX8_minute, .instanceMethod yX8_minute, .selects RX8 yX8_minute yX8_minute, .initialized RX8] : List Cond) [(27, 21), (27, 22), (27, 23), (0, 2)] rfl (by decide +kernel)) ggL_law_X8_minute
set_option maxRecDepth 100000 in
set_option maxHeartbeats 4000000 in
theorem ggL_law_X8_sit : GoodIn lw_tbl wsX8_sit := goodIn_cons (good_rr [_] [(33, 7)] rfl (by decide +kernel)) (goodIn_app (goodIn_app (goodIn_app (goodIn_app (good_rr _ [(0, 22), (7, 17), (7, 18), (27, 7), (27, 8), (27, 9), (1, 4), (27, 10), (3, 7), (3, 6), (27, 11), (27, 4), (27, 5), (27, 6), (2, 23), (28, 3), (28, 4), (28, 5), (2, 9), (28, 6), (3, 16), (3, 19), (28, 7), (28, 8), (3, 17), (28, 9), (28, 10), (3, 18), (3, 20), (28, 11), (28, 12), (8, 7), (28, 13), (33, 8), (29, 3), (29, 4), (29, 5), (3, 2), (3, 3), (3, 9), (3, 4), (3, 10), (29, 6), (29, 7), (29, 8), (29, 9), (14, 16), (14, 17), (14, 18), (14, 19), (33, 9), (30, 10), (30, 11), (30, 12), (30, 13), (30, 14), (30, 15), (30, 16), (3, 1), (29, 22), (25, 6), (25, 7), (25, 8), (3, 5), (14, 8), (14, 9), (14, 10), (14, 11), (14, 12), (14, 13), (14, 14), (14, 15)] rfl (by decide +kernel)) gtl_X8) gtl_X6) gtl_X3) gtl_X0)
theorem gL_law_X8_sit : GoodIn lw_tbl (wsV RL 53 RX8 yX8_sit wsX8_sit) := goodIn_app (good_rr ([.methodLink RL 53 yX8_sit, .instanceMethod yX8_sit, .selects RX8 yX8_sit yX8_sit, .initialized RX8] : List Cond) [(33, 4), (33, 5), (33, 6), (0, 2)] rfl (by decide +kernel)) ggL_law_X8_sit
set_option maxRecDepth 100000 in
set_option maxHeartbeats 4000000 in
theorem ggL_law_X8_rise : GoodIn lw_tbl wsX8_rise := goodIn_cons (good_rr [_] [(33, 21)] rfl (by decide +kernel)) (goodIn_app (goodIn_app (goodIn_app (goodIn_app (good_rr _ [(0, 22), (7, 17), (7, 18), (33, 22), (14, 17), (14, 18), (1, 4), (14, 19), (2, 23), (3, 6), (28, 3), (28, 4), (28, 5), (2, 9), (28, 6), (3, 16), (3, 19), (28, 7), (28, 8), (3, 17), (28, 9), (28, 10), (3, 18), (3, 20), (28, 11), (28, 12), (8, 7), (28, 13), (33, 8), (29, 3), (29, 4), (29, 5), (3, 2), (3, 3), (3, 9), (3, 4), (3, 10), (29, 6), (29, 7), (29, 8), (29, 9), (3, 7), (14, 16), (33, 9), (30, 10), (30, 11), (30, 12), (30, 13), (30, 14), (30, 15), (30, 16), (3, 1), (29, 22), (25, 6), (25, 7), (25, 8), (3, 5), (14, 8), (14, 9), (14, 10), (14, 11), (14, 12), (14, 13), (14, 14), (14, 15)] rfl (by decide +kernel)) gtl_X8) gtl_X6) gtl_X3) gtl_X0)
theorem gL_law_X8_rise : GoodIn lw_tbl (wsV RL 57 RX8 yX8_rise wsX8_rise) := goodIn_app (good_rr ([.methodLink RL 57 yX8_rise, .instanceMethod yX8_rise, .selects RX8 yX8_rise yX8_rise, .initialized RX8] : List Cond) [(33, 18), (33, 19), (33, 20), (0, 2)] rfl (by decide +kernel)) ggL_law_X8_rise
set_option maxRecDepth 100000 in
set_option maxHeartbeats 4000000 in
theorem ggL_law_X8_help : GoodIn lw_tbl wsX8_help := goodIn_cons (good_rr [_] [(34, 6)] rfl (by decide +kernel)) (goodIn_app (goodIn_app (goodIn_app (goodIn_app (good_rr _ [(0, 22), (7, 17), (7, 18), (34, 7), (27, 7), (27, 8), (27, 9), (1, 4), (27, 10), (3, 7), (3, 6), (27, 11), (27, 4), (27, 5), (27, 6), (2, 23), (28, 3), (28, 4), (28, 5), (2, 9), (28, 6), (3, 16), (3, 19), (28, 7), (28, 8), (3, 17), (28, 9), (28, 10), (3, 18), (3, 20), (28, 11), (28, 12), (8, 7), (28, 13), (34, 8), (30, 0), (30, 1), (30, 2), (30, 3), (30, 4), (30, 5)] rfl (by decide +kernel)) gtl_X8) gtl_X6) gtl_X3) gtl_X0)
theorem gL_law_X8_help : GoodIn lw_tbl (wsV RL 61 RX8 yX8_help wsX8_help) := goodIn_app (good_rr ([.methodLink RL 61 yX8_help, .instanceMethod yX8_help, .selects RX8 yX8_help yX8_help, .initialized RX8] : List Cond) [(34, 3), (34, 4), (34, 5), (0, 2)] rfl (by decide +kernel)) ggL_law_X8_help
set_option maxRecDepth 100000 in
set_option maxHeartbeats 4000000 in
theorem ggL_law_X8_let : GoodIn lw_tbl wsX8_let := goodIn_cons (good_rr [_] [(34, 16)] rfl (by decide +kernel)) (goodIn_app (goodIn_app (goodIn_app (goodIn_app (good_rr _ [(0, 22), (7, 17), (24, 5), (7, 18), (24, 6), (24, 7), (24, 8), (1, 4), (24, 9), (2, 21), (28, 3), (28, 4), (28, 5), (2, 9), (28, 6), (3, 16), (3, 19), (28, 7), (28, 8), (3, 17), (28, 9), (28, 10), (3, 18), (3, 20), (28, 11), (28, 12), (8, 7), (28, 13), (33, 9), (30, 10), (30, 11), (30, 12), (3, 6), (3, 7), (30, 13), (30, 14), (30, 15), (30, 16), (2, 23), (3, 1), (3, 3), (29, 22), (25, 6), (25, 7), (25, 8), (3, 2), (3, 9), (3, 5), (3, 4), (14, 8), (14, 9), (14, 10), (14, 11), (3, 10), (14, 12), (14, 13), (14, 14), (14, 15), (14, 16), (14, 17), (14, 18), (14, 19)] rfl (by decide +kernel)) gtl_X8) gtl_X6) gtl_X3) gtl_X0)
theorem gL_law_X8_let : GoodIn lw_tbl (wsV RL 65 RX8 yX8_let wsX8_let) := goodIn_app (good_rr ([.methodLink RL 65 yX8_let, .instanceMethod yX8_let, .selects RX8 yX8_let yX8_let, .initialized RX8] : List Cond) [(34, 13), (34, 14), (34, 15), (0, 2)] rfl (by decide +kernel)) ggL_law_X8_let
set_option maxRecDepth 100000 in
set_option maxHeartbeats 4000000 in
theorem ggL_law_X8_undo : GoodIn lw_tbl wsX8_undo := goodIn_cons (good_rr [_] [(35, 1)] rfl (by decide +kernel)) (goodIn_app (goodIn_app (goodIn_app (goodIn_app (good_rr _ [(0, 22), (7, 18), (35, 2), (7, 17), (35, 3), (35, 4), (35, 5), (2, 9), (35, 6), (3, 20), (3, 19), (3, 16), (28, 7), (28, 8), (3, 17), (28, 9), (28, 10), (3, 18), (35, 7), (14, 9), (14, 10), (1, 4), (14, 11), (3, 9), (3, 10), (2, 23), (3, 2), (3, 3), (3, 4), (14, 12), (14, 13), (14, 14), (14, 15), (14, 16), (14, 17), (14, 18), (14, 19), (3, 6)] rfl (by decide +kernel)) gtl_X8) gtl_X6) gtl_X0) gtl_X3)
theorem gL_law_X8_undo : GoodIn lw_tbl (wsV RL 69 RX8 yX8_undo wsX8_undo) := goodIn_app (good_rr ([.methodLink RL 69 yX8_undo, .instanceMethod yX8_undo, .selects RX8 yX8_undo yX8_undo, .initialized RX8] : List Cond) [(34, 22), (34, 23), (35, 0), (0, 2)] rfl (by decide +kernel)) ggL_law_X8_undo
set_option maxRecDepth 100000 in
set_option maxHeartbeats 4000000 in
theorem ggL_law_X8_ahead : GoodIn lw_tbl wsX8_ahead := goodIn_cons (good_rr [_] [(35, 15)] rfl (by decide +kernel)) (goodIn_app (goodIn_app (goodIn_app (goodIn_app (good_rr _ [(0, 22), (7, 17), (28, 1), (1, 5), (34, 7), (27, 3), (27, 4), (27, 5), (1, 4), (27, 6), (2, 23), (15, 0), (15, 1), (15, 2), (15, 3), (2, 20), (2, 21), (2, 22), (3, 0), (14, 4), (14, 5), (14, 6), (14, 7), (3, 1), (3, 2), (3, 3), (3, 4), (3, 5), (3, 9), (3, 10), (3, 6), (3, 7), (3, 8), (3, 11), (28, 14), (28, 15), (28, 16), (0, 2), (28, 17), (23, 19), (28, 18), (28, 19), (28, 20), (28, 21), (0, 18), (0, 17), (35, 16), (35, 17), (35, 18), (35, 19), (35, 20), (28, 23), (29, 0), (29, 1), (3, 12), (29, 2), (29, 3), (29, 4), (29, 5), (29, 6), (29, 7), (29, 8), (29, 9), (14, 16), (14, 17), (14, 18), (14, 19), (29, 10), (29, 11), (29, 12), (1, 13), (29, 13), (4, 14), (4, 9), (4, 10), (4, 8), (29, 14), (29, 15), (29, 16), (29, 17), (4, 13), (4, 7), (4, 12), (29, 18), (29, 19), (29, 20), (29, 21), (27, 11), (29, 22), (25, 6), (25, 7), (25, 8), (29, 23), (30, 0), (30, 1), (30, 2), (30, 3), (30, 4), (30, 5), (30, 6), (30, 7), (30, 8), (30, 9), (30, 10), (30, 11), (30, 12), (30, 13), (30, 14), (30, 15), (30, 16), (14, 8), (14, 9), (14, 10), (14, 11), (14, 12), (14, 13), (14, 14), (14, 15), (34, 8), (27, 7), (27, 8), (27, 9), (27, 10), (25, 5)] rfl (by decide +kernel)) gtl_X8) gtl_X6) gtl_X3) gtl_X4)
theorem gL_law_X8_ahead : GoodIn lw_tbl (wsV RL 73 RX8 yX8_ahead wsX8_ahead) := goodIn_app (good_rr ([.methodLink RL 73 yX8_ahead, .instanceMethod yX8_ahead, .selects RX8 yX8_ahead yX8_ahead, .initialized RX8] : List Cond) [(35, 12), (35, 13), (35, 14), (0, 2)] rfl (by decide +kernel)) ggL_law_X8_ahead
set_option maxRecDepth 100000 in
set_option maxHeartbeats 4000000 in
theorem ggL_law_X8_falls : GoodIn lw_tbl wsX8_falls := goodIn_cons (good_rr [_] [(37, 3)] rfl (by decide +kernel)) (goodIn_app (goodIn_app (goodIn_app (goodIn_app (good_rr _ [(0, 22), (7, 17), (28, 1), (1, 5), (28, 2), (28, 14), (28, 15), (28, 16), (0, 2), (28, 17), (23, 19), (28, 18), (28, 19), (28, 20), (28, 21), (0, 18), (0, 17), (15, 0), (15, 1), (15, 2), (1, 4), (15, 3), (2, 20), (2, 21), (2, 22), (2, 23), (3, 0), (14, 4), (14, 5), (14, 6), (14, 7), (3, 1), (3, 2), (3, 3), (3, 4), (3, 5), (3, 9), (3, 10), (3, 6), (3, 7), (3, 8), (3, 11), (28, 22), (28, 23), (29, 0), (29, 1), (3, 12), (29, 2), (29, 3), (29, 4), (29, 5), (29, 6), (29, 7), (29, 8), (29, 9), (14, 16), (14, 17), (14, 18), (14, 19), (29, 10), (29, 11), (29, 12), (1, 13), (29, 13), (4, 14), (4, 9), (4, 10), (4, 8), (29, 14), (29, 15), (29, 16), (29, 17), (4, 13), (4, 7), (4, 12), (29, 18), (29, 19), (29, 20), (29, 21), (27, 11), (27, 4), (27, 5), (27, 6), (29, 22), (25, 6), (25, 7), (25, 8), (29, 23), (30, 0), (30, 1), (30, 2), (30, 3), (30, 4), (30, 5), (30, 6), (30, 7), (30, 8), (30, 9), (30, 10), (30, 11), (30, 12), (30, 13), (30, 14), (30, 15), (30, 16), (14, 8), (14, 9), (14, 10), (14, 11), (14, 12), (14, 13), (14, 14), (14, 15)] rfl (by decide +kernel)) gtl_X8) gtl_X6) gtl_X3) gtl_X4)
theorem gL_law_X8_falls : GoodIn lw_tbl (wsV RL 78 RX8 yX8_falls wsX8_falls) := goodIn_app (good_rr ([.methodLink RL 78 yX8_falls, .instanceMethod yX8_falls, .selects RX8 yX8_falls yX8_falls, .initialized RX8] : List Cond) [(37, 0), (37, 1), (37, 2), (0, 2)] rfl (by decide +kernel)) ggL_law_X8_falls
set_option maxRecDepth 100000 in
set_option maxHeartbeats 4000000 in
theorem ggL_law_X8_felled : GoodIn lw_tbl wsX8_felled := goodIn_cons (good_rr [_] [(37, 11)] rfl (by decide +kernel)) (goodIn_app (goodIn_app (goodIn_app (good_rr _ [(0, 22), (7, 17), (33, 22), (14, 17), (14, 18), (1, 4), (14, 19), (2, 23), (3, 6), (37, 12), (37, 13), (37, 14), (0, 2), (37, 15), (1, 5), (15, 0), (15, 1), (15, 2), (15, 3), (2, 20), (2, 21), (2, 22), (3, 0), (14, 4), (14, 5), (14, 6), (14, 7), (3, 1), (3, 2), (3, 3), (3, 4), (3, 5), (3, 9), (3, 10), (3, 7), (3, 8), (3, 11), (33, 8), (29, 3), (29, 4), (29, 5), (29, 6), (29, 7), (29, 8), (29, 9), (14, 16), (33, 9), (30, 10), (30, 11), (30, 12), (30, 13), (30, 14), (30, 15), (30, 16), (29, 22), (25, 6), (25, 7), (25, 8), (14, 8), (14, 9), (14, 10), (14, 11), (14, 12), (14, 13), (14, 14), (14, 15)] rfl (by decide +kernel)) gtl_X8) gtl_X6) gtl_X3)
theorem gL_law_X8_felled : GoodIn lw_tbl (wsV RL 82 RX8 yX8_felled wsX8_felled) := goodIn_app (good_rr ([.methodLink RL 82 yX8_felled, .instanceMethod yX8_felled, .selects RX8 yX8_felled yX8_felled, .initialized RX8] : List Cond) [(37, 8), (37, 9), (37, 10), (0, 2)] rfl (by decide +kernel)) ggL_law_X8_felled
set_option maxRecDepth 100000 in
set_option maxHeartbeats 4000000 in
theorem ggL_law_X8_tall : GoodIn lw_tbl wsX8_tall := goodIn_cons (good_rr [_] [(38, 3)] rfl (by decide +kernel)) (goodIn_app (goodIn_app (goodIn_app (good_rr _ [(0, 22), (7, 17), (28, 1), (7, 20), (33, 22), (14, 17), (14, 18), (1, 4), (14, 19), (2, 23), (3, 6), (37, 12), (37, 13), (37, 14), (0, 2), (37, 15), (1, 5), (15, 0), (15, 1), (15, 2), (15, 3), (2, 20), (2, 21), (2, 22), (3, 0), (14, 4), (14, 5), (14, 6), (14, 7), (3, 1), (3, 2), (3, 3), (3, 4), (3, 5), (3, 9), (3, 10), (3, 7), (3, 8), (3, 11), (33, 8), (29, 3), (29, 4), (29, 5), (29, 6), (29, 7), (29, 8), (29, 9), (14, 16), (33, 9), (30, 10), (30, 11), (30, 12), (30, 13), (30, 14), (30, 15), (30, 16), (29, 22), (25, 6), (25, 7), (25, 8), (14, 8), (14, 9), (14, 10), (14, 11), (14, 12), (14, 13), (14, 14), (14, 15), (34, 8), (30, 0), (30, 1), (30, 2), (30, 3), (30, 4), (30, 5)] rfl (by decide +kernel)) gtl_X8) gtl_X6) gtl_X3)
theorem gL_law_X8_tall : GoodIn lw_tbl (wsV RL 86 RX8 yX8_tall wsX8_tall) := goodIn_app (good_rr ([.methodLink RL 86 yX8_tall, .instanceMethod yX8_tall, .selects RX8 yX8_tall yX8_tall, .initialized RX8] : List Cond) [(38, 0), (38, 1), (38, 2), (0, 2)] rfl (by decide +kernel)) ggL_law_X8_tall
set_option maxRecDepth 100000 in
set_option maxHeartbeats 4000000 in
theorem ggL_law_X8_ease : GoodIn lw_tbl wsX8_ease := goodIn_cons (good_rr [_] [(38, 11)] rfl (by decide +kernel)) (goodIn_app (goodIn_app (goodIn_app (good_rr _ [(0, 22), (7, 17), (28, 1), (1, 5), (38, 12), (38, 13), (38, 14), (38, 15), (1, 4), (38, 16), (2, 23), (3, 6), (3, 7), (15, 0), (15, 1), (15, 2), (15, 3), (2, 20), (2, 21), (2, 22), (3, 0), (14, 4), (14, 5), (14, 6), (14, 7), (3, 1), (3, 2), (3, 3), (3, 4), (3, 5), (3, 9), (3, 10), (3, 8), (3, 11), (34, 8), (30, 0), (30, 1), (30, 2), (30, 3), (30, 4), (30, 5), (38, 17), (38, 18), (38, 19), (38, 20), (14, 8), (14, 9), (14, 10), (14, 11), (14, 12), (14, 13), (14, 14), (14, 15), (14, 16), (14, 17), (14, 18), (14, 19), (30, 13), (30, 14), (30, 15), (30, 16), (29, 22), (25, 6), (25, 7), (25, 8)] rfl (by decide +kernel)) gtl_X8) gtl_X6) gtl_X3)
theorem gL_law_X8_ease : GoodIn lw_tbl (wsV RL 90 RX8 yX8_ease wsX8_ease) := goodIn_app (good_rr ([.methodLink RL 90 yX8_ease, .instanceMethod yX8_ease, .selects RX8 yX8_ease yX8_ease, .initialized RX8] : List Cond) [(38, 8), (38, 9), (38, 10), (0, 2)] rfl (by decide +kernel)) ggL_law_X8_ease
set_option maxRecDepth 100000 in
set_option maxHeartbeats 4000000 in
theorem ggL_law_X8_way : GoodIn lw_tbl wsX8_way := goodIn_cons (good_rr [_] [(39, 4)] rfl (by decide +kernel)) (goodIn_app (goodIn_app (goodIn_app (good_rr _ [(0, 22), (7, 17), (28, 1), (38, 12), (34, 8), (30, 0), (30, 1), (30, 2), (30, 3), (30, 4), (30, 5), (39, 5), (39, 6), (39, 7), (0, 2), (39, 8), (1, 5), (1, 6), (15, 0), (15, 1), (15, 2), (1, 4), (15, 3), (2, 20), (2, 21), (2, 22), (2, 23), (3, 0), (14, 4), (14, 5), (14, 6), (14, 7), (3, 1), (3, 2), (3, 3), (3, 4), (3, 5), (3, 9), (3, 10), (3, 6), (3, 7), (3, 8), (3, 11), (39, 9), (39, 10), (39, 11), (39, 12), (38, 17), (38, 18), (38, 19), (38, 20), (14, 8), (14, 9), (14, 10), (14, 11), (14, 12), (14, 13), (14, 14), (14, 15), (14, 16), (14, 17), (14, 18), (14, 19), (30, 13), (30, 14), (30, 15), (30, 16), (29, 22), (25, 6), (25, 7), (25, 8)] rfl (by decide +kernel)) gtl_X8) gtl_X6) gtl_X3)
theorem gL_law_X8_way : GoodIn lw_tbl (wsV RL 94 RX8 yX8_way wsX8_way) := goodIn_app (good_rr ([.methodLink RL 94 yX8_way, .instanceMethod yX8_way, .selects RX8 yX8_way yX8_way, .initialized RX8] : List Cond) [(39, 1), (39, 2), (39, 3), (0, 2)] rfl (by decide +kernel)) ggL_law_X8_way
set_option maxRecDepth 100000 in
set_option maxHeartbeats 4000000 in
theorem ggL_law_X8_most : GoodIn lw_tbl wsX8_most := goodIn_cons (good_rr [_] [(40, 1)] rfl (by decide +kernel)) (goodIn_app (goodIn_app (goodIn_app (good_rr _ [(0, 22), (7, 17), (1, 5), (24, 5), (24, 6), (24, 7), (24, 8), (1, 4), (24, 9), (2, 21), (15, 0), (15, 1), (15, 2), (15, 3), (2, 20), (2, 22), (2, 23), (3, 0), (14, 4), (14, 5), (14, 6), (14, 7), (3, 1), (3, 2), (3, 3), (3, 4), (3, 5), (3, 9), (3, 10), (3, 6), (3, 7), (3, 8), (3, 11), (40, 2), (30, 14), (30, 15), (30, 16), (29, 22), (25, 6), (25, 7), (25, 8)] rfl (by decide +kernel)) gtl_X8) gtl_X6) gtl_X3)
theorem gL_law_X8_most : GoodIn lw_tbl (wsV RL 98 RX8 yX8_most wsX8_most) := goodIn_app (good_rr ([.methodLink RL 98 yX8_most, .instanceMethod yX8_most, .selects RX8 yX8_most yX8_most, .initialized RX8] : List Cond) [(39, 22), (39, 23), (40, 0), (0, 2)] rfl (by decide +kernel)) ggL_law_X8_most
set_option maxRecDepth 100000 in
set_option maxHeartbeats 4000000 in
theorem ggL_law_X8_heavy : GoodIn lw_tbl wsX8_heavy := goodIn_cons (good_rr [_] [(40, 10)] rfl (by decide +kernel)) (goodIn_app (goodIn_app (goodIn_app (good_rr _ [(0, 22), (7, 17), (1, 5), (27, 2), (38, 12), (40, 11), (29, 7), (29, 8), (1, 4), (29, 9), (2, 23), (3, 7), (15, 0), (15, 1), (15, 2), (15, 3), (2, 20), (2, 21), (2, 22), (3, 0), (14, 4), (14, 5), (14, 6), (14, 7), (3, 1), (3, 2), (3, 3), (3, 4), (3, 5), (3, 9), (3, 10), (3, 6), (3, 8), (3, 11), (38, 17), (38, 18), (38, 19), (38, 20), (14, 8), (14, 9), (14, 10), (14, 11), (14, 12), (14, 13), (14, 14), (14, 15), (14, 16), (14, 17), (14, 18), (14, 19), (30, 13), (30, 14), (30, 15), (30, 16), (29, 22), (25, 6), (25, 7), (25, 8)] rfl (by decide +kernel)) gtl_X8) gtl_X6) gtl_X3)
theorem gL_law_X8_heavy : GoodIn lw_tbl (wsV RL 102 RX8 yX8_heavy wsX8_heavy) := goodIn_app (good_rr ([.methodLink RL 102 yX8_heavy, .instanceMethod yX8_heavy, .selects RX8 yX8_heavy yX8_heavy, .initialized RX8] : List Cond) [(40, 7), (40, 8), (40, 9), (0, 2)] rfl (by decide +kernel)) ggL_law_X8_heavy
set_option maxRecDepth 100000 in
set_option maxHeartbeats 4000000 in
theorem ggL_law_X8_strung : GoodIn lw_tbl wsX8_strung := goodIn_cons (good_rr [_] [(40, 19)] rfl (by decide +kernel)) (goodIn_app (goodIn_app (goodIn_app (goodIn_app (goodIn_app (good_rr _ [(0, 22), (7, 17), (40, 20), (25, 0), (25, 1), (25, 2), (1, 4), (25, 3), (2, 22), (28, 14), (28, 15), (28, 16), (0, 2), (28, 17), (23, 19), (28, 18), (28, 19), (28, 20), (28, 21), (0, 18), (0, 17), (40, 21), (40, 22), (40, 23), (41, 0), (7, 19), (41, 1), (28, 12), (8, 7), (28, 13), (1, 5), (24, 23), (41, 2), (41, 3), (41, 4), (2, 13), (41, 5), (4, 3), (4, 0), (41, 6), (8, 6), (8, 8), (41, 7), (41, 8), (41, 9), (41, 10), (15, 0), (15, 1), (15, 2), (15, 3), (2, 20), (2, 21), (2, 23), (3, 0), (14, 4), (14, 5), (14, 6), (14, 7), (3, 1), (3, 2), (3, 3), (3, 4), (3, 5), (3, 9), (3, 10), (3, 6), (3, 7), (3, 8), (3, 11), (41, 11), (14, 1), (14, 2), (14, 3), (14, 8), (14, 9), (14, 10), (14, 11), (14, 12), (14, 13), (14, 14), (14, 15), (14, 16), (14, 17), (14, 18), (14, 19), (24, 6), (24, 7), (24, 8), (24, 9), (41, 12), (41, 13), (41, 14), (41, 15), (4, 1), (4, 2), (41, 16), (27, 8), (27, 9), (27, 10), (27, 11), (27, 4), (27, 5), (27, 6), (28, 22), (28, 23), (29, 0), (29, 1), (3, 12), (29, 2), (29, 3), (29, 4), (29, 5), (29, 6), (29, 7), (29, 8), (29, 9), (29, 10), (29, 11), (29, 12), (1, 13), (29, 13), (4, 14), (4, 9), (4, 10), (4, 8), (29, 14), (29, 15), (29, 16), (29, 17), (4, 13), (4, 7), (4, 12), (29, 18), (29, 19), (29, 20), (29, 21), (29, 22), (25, 6), (25, 7), (25, 8), (29, 23), (30, 0), (30, 1), (30, 2), (30, 3), (30, 4), (30, 5), (30, 6), (30, 7), (30, 8), (30, 9), (30, 10), (30, 11), (30, 12), (30, 13), (30, 14), (30, 15), (30, 16)] rfl (by decide +kernel)) gtl_X8) gtl_X6) gtl_X3) gtl_X2) gtl_X4)
theorem gL_law_X8_strung : GoodIn lw_tbl (wsV RL 106 RX8 yX8_strung wsX8_strung) := goodIn_app (good_rr ([.methodLink RL 106 yX8_strung, .instanceMethod yX8_strung, .selects RX8 yX8_strung yX8_strung, .initialized RX8] : List Cond) [(40, 16), (40, 17), (40, 18), (0, 2)] rfl (by decide +kernel)) ggL_law_X8_strung
set_option maxRecDepth 100000 in
set_option maxHeartbeats 4000000 in
theorem ggL_law_X8_rests : GoodIn lw_tbl wsX8_rests := goodIn_cons (good_rr [_] [(42, 8)] rfl (by decide +kernel)) (goodIn_app (goodIn_app (goodIn_app (goodIn_app (good_rr _ [(0, 22), (7, 17), (1, 8), (1, 9), (40, 11), (29, 7), (29, 8), (1, 4), (29, 9), (2, 23), (3, 7), (42, 9), (42, 10), (42, 11), (0, 2), (42, 12), (1, 5), (42, 13), (42, 14), (28, 14), (28, 15), (28, 16), (28, 17), (23, 19), (28, 18), (28, 19), (28, 20), (28, 21), (0, 18), (0, 17), (15, 0), (15, 1), (15, 2), (15, 3), (2, 20), (2, 21), (2, 22), (3, 0), (14, 4), (14, 5), (14, 6), (14, 7), (3, 1), (3, 2), (3, 3), (3, 4), (3, 5), (3, 9), (3, 10), (3, 6), (3, 8), (3, 11), (28, 22), (28, 23), (29, 0), (29, 1), (3, 12), (29, 2), (29, 3), (29, 4), (29, 5), (29, 6), (14, 16), (14, 17), (14, 18), (14, 19), (29, 10), (29, 11), (29, 12), (1, 13), (29, 13), (4, 14), (4, 9), (4, 10), (4, 8), (29, 14), (29, 15), (29, 16), (29, 17), (4, 13), (4, 7), (4, 12), (29, 18), (29, 19), (29, 20), (29, 21), (27, 11), (27, 4), (27, 5), (27, 6), (29, 22), (25, 6), (25, 7), (25, 8), (29, 23), (30, 0), (30, 1), (30, 2), (30, 3), (30, 4), (30, 5), (30, 6), (30, 7), (30, 8), (30, 9), (30, 10), (30, 11), (30, 12), (30, 13), (30, 14), (30, 15), (30, 16), (14, 8), (14, 9), (14, 10), (14, 11), (14, 12), (14, 13), (14, 14), (14, 15), (42, 15), (42, 16), (42, 17), (42, 18), (27, 7), (27, 8), (27, 9), (27, 10)] rfl (by decide +kernel)) gtl_X8) gtl_X6) gtl_X3) gtl_X4)
theorem gL_law_X8_rests : GoodIn lw_tbl (wsV RL 110 RX8 yX8_rests wsX8_rests) := goodIn_app (good_rr ([.methodLink RL 110 yX8_rests, .instanceMethod yX8_rests, .selects RX8 yX8_rests yX8_rests, .initialized RX8] : List Cond) [(42, 5), (42, 6), (42, 7), (0, 2)] rfl (by decide +kernel)) ggL_law_X8_rests
set_option maxRecDepth 100000 in
set_option maxHeartbeats 4000000 in
theorem ggL_law_X8_ring : GoodIn lw_tbl wsX8_ring := goodIn_cons (good_rr [_] [(43, 11)] rfl (by decide +kernel)) (goodIn_app (goodIn_app (goodIn_app (goodIn_app (good_rr _ [(0, 22), (7, 17), (28, 1), (1, 10), (28, 2), (43, 12), (43, 13), (43, 14), (0, 2), (43, 15), (1, 5), (38, 12), (34, 7), (28, 14), (28, 15), (28, 16), (28, 17), (23, 19), (28, 18), (28, 19), (28, 20), (28, 21), (0, 18), (0, 17), (15, 0), (15, 1), (15, 2), (1, 4), (15, 3), (2, 20), (2, 21), (2, 22), (2, 23), (3, 0), (14, 4), (14, 5), (14, 6), (14, 7), (3, 1), (3, 2), (3, 3), (3, 4), (3, 5), (3, 9), (3, 10), (3, 6), (3, 7), (3, 8), (3, 11), (28, 22), (28, 23), (29, 0), (29, 1), (3, 12), (29, 2), (29, 3), (29, 4), (29, 5), (29, 6), (29, 7), (29, 8), (29, 9), (14, 16), (14, 17), (14, 18), (14, 19), (29, 10), (29, 11), (29, 12), (1, 13), (29, 13), (4, 14), (4, 9), (4, 10), (4, 8), (29, 14), (29, 15), (29, 16), (29, 17), (4, 13), (4, 7), (4, 12), (29, 18), (29, 19), (29, 20), (29, 21), (27, 11), (27, 4), (27, 5), (27, 6), (29, 22), (25, 6), (25, 7), (25, 8), (29, 23), (30, 0), (30, 1), (30, 2), (30, 3), (30, 4), (30, 5), (30, 6), (30, 7), (30, 8), (30, 9), (30, 10), (30, 11), (30, 12), (30, 13), (30, 14), (30, 15), (30, 16), (14, 8), (14, 9), (14, 10), (14, 11), (14, 12), (14, 13), (14, 14), (14, 15)] rfl (by decide +kernel)) gtl_X8) gtl_X6) gtl_X3) gtl_X4)
theorem gL_law_X8_ring : GoodIn lw_tbl (wsV RL 115 RX8 yX8_ring wsX8_ring) := goodIn_app (good_rr ([.methodLink RL 115 yX8_ring, .instanceMethod yX8_ring, .selects RX8 yX8_ring yX8_ring, .initialized RX8] : List Cond) [(43, 8), (43, 9), (43, 10), (0, 2)] rfl (by decide +kernel)) ggL_law_X8_ring
set_option maxRecDepth 100000 in
set_option maxHeartbeats 4000000 in
theorem ggL_law_X8_pence : GoodIn lw_tbl wsX8_pence := goodIn_cons (good_rr [_] [(44, 3)] rfl (by decide +kernel)) (goodIn_app (goodIn_app (goodIn_app (good_rr _ [(0, 22), (7, 17), (7, 20), (27, 3), (27, 4), (27, 5), (1, 4), (27, 6), (2, 23), (44, 4), (44, 5), (44, 6), (44, 7), (29, 22), (25, 6), (25, 7), (25, 8), (3, 6), (3, 2), (3, 3), (3, 9), (3, 5), (3, 4), (25, 5)] rfl (by decide +kernel)) gtl_X8) gtl_X6) gtl_X3)
theorem gL_law_X8_pence : GoodIn lw_tbl (wsV RL 119 RX8 yX8_pence wsX8_pence) := goodIn_app (good_rr ([.methodLink RL 119 yX8_pence, .instanceMethod yX8_pence, .selects RX8 yX8_pence yX8_pence, .initialized RX8] : List Cond) [(44, 0), (44, 1), (44, 2), (0, 2)] rfl (by decide +kernel)) ggL_law_X8_pence
set_option maxRecDepth 100000 in
set_option maxHeartbeats 4000000 in
theorem ggL_law_X8_note : GoodIn lw_tbl wsX8_note := goodIn_cons (good_rr [_] [(44, 20)] rfl (by decide +kernel)) (goodIn_app (goodIn_app (goodIn_app (goodIn_app (good_rr _ [(0, 22), (7, 19), (7, 17), (44, 21), (15, 8), (15, 9), (15, 10), (2, 13), (15, 11), (4, 3), (27, 3), (27, 4), (27, 5), (1, 4), (27, 6), (2, 23), (44, 22), (44, 23), (45, 0), (45, 1), (4, 0), (4, 1), (4, 2)] rfl (by decide +kernel)) gtl_X8) gtl_X6) gtl_X2) gtl_X3)
theorem gL_law_X8_note : GoodIn lw_tbl (wsV RL 123 RX8 yX8_note wsX8_note) := goodIn_app (good_rr ([.methodLink RL 123 yX8_note, .instanceMethod yX8_note, .selects RX8 yX8_note yX8_note, .initialized RX8] : List Cond) [(44, 17), (44, 18), (44, 19), (0, 2)] rfl (by decide +kernel)) ggL_law_X8_note
set_option maxRecDepth 100000 in
set_option maxHeartbeats 4000000 in
theorem ggL_law_X8_ruled : GoodIn lw_tbl wsX8_ruled := goodIn_cons (good_rr [_] [(45, 10)] rfl (by decide +kernel)) (goodIn_app (goodIn_app (goodIn_app (goodIn_app (goodIn_app (good_rr _ [(0, 22), (7, 17), (28, 1), (0, 18), (28, 18), (28, 19), (28, 20), (0, 2), (28, 21), (0, 17), (40, 21), (40, 22), (40, 23), (41, 0), (7, 19), (41, 1), (28, 12), (8, 7), (28, 13), (1, 5), (24, 23), (41, 2), (41, 3), (41, 4), (2, 13), (41, 5), (4, 3), (4, 0), (41, 6), (8, 6), (8, 8), (41, 7), (41, 8), (41, 9), (41, 10), (15, 0), (15, 1), (15, 2), (1, 4), (15, 3), (2, 20), (2, 21), (2, 22), (2, 23), (3, 0), (14, 4), (14, 5), (14, 6), (14, 7), (3, 1), (3, 2), (3, 3), (3, 4), (3, 5), (3, 9), (3, 10), (3, 6), (3, 7), (3, 8), (3, 11), (41, 11), (14, 1), (14, 2), (14, 3), (14, 8), (14, 9), (14, 10), (14, 11), (14, 12), (14, 13), (14, 14), (14, 15), (14, 16), (14, 17), (14, 18), (14, 19), (25, 0), (25, 1), (25, 2), (25, 3), (24, 6), (24, 7), (24, 8), (24, 9), (41, 12), (41, 13), (41, 14), (41, 15), (4, 1), (4, 2), (41, 16), (27, 8), (27, 9), (27, 10), (27, 11), (27, 4), (27, 5), (27, 6), (28, 22), (28, 23), (29, 0), (29, 1), (3, 12), (29, 2), (29, 3), (29, 4), (29, 5), (29, 6), (29, 7), (29, 8), (29, 9), (29, 10), (29, 11), (29, 12), (1, 13), (29, 13), (4, 14), (4, 9), (4, 10), (4, 8), (29, 14), (29, 15), (29, 16), (29, 17), (4, 13), (4, 7), (4, 12), (29, 18), (29, 19), (29, 20), (29, 21), (29, 22), (25, 6), (25, 7), (25, 8), (29, 23), (30, 0), (30, 1), (30, 2), (30, 3), (30, 4), (30, 5), (30, 6), (30, 7), (30, 8), (30, 9), (30, 10), (30, 11), (30, 12), (30, 13), (30, 14), (30, 15), (30, 16)] rfl (by decide +kernel)) gtl_X8) gtl_X6) gtl_X3) gtl_X2) gtl_X4)
theorem gL_law_X8_ruled : GoodIn lw_tbl (wsV RL 127 RX8 yX8_ruled wsX8_ruled) := goodIn_app (good_rr ([.methodLink RL 127 yX8_ruled, .instanceMethod yX8_ruled, .selects RX8 yX8_ruled yX8_ruled, .initialized RX8] : List Cond) [(45, 7), (45, 8), (45, 9), (0, 2)] rfl (by decide +kernel)) ggL_law_X8_ruled
set_option maxRecDepth 100000 in
set_option maxHeartbeats 4000000 in
theorem ggL_law_X8_look : GoodIn lw_tbl wsX8_look := goodIn_cons (good_rr [_] [(45, 22)] rfl (by decide +kernel)) (goodIn_app (goodIn_app (goodIn_app (goodIn_app (goodIn_app (good_rr _ [(0, 22), (7, 17), (28, 1), (7, 20), (45, 23), (46, 0), (46, 1), (0, 2), (46, 2), (1, 11), (0, 18), (1, 5), (46, 3), (14, 13), (14, 14), (14, 15), (28, 18), (28, 19), (28, 20), (28, 21), (0, 17), (40, 21), (40, 22), (40, 23), (41, 0), (7, 19), (41, 1), (28, 12), (8, 7), (28, 13), (24, 23), (41, 2), (41, 3), (41, 4), (2, 13), (41, 5), (4, 3), (4, 0), (41, 6), (8, 6), (8, 8), (41, 7), (41, 8), (41, 9), (41, 10), (15, 0), (15, 1), (15, 2), (1, 4), (15, 3), (2, 20), (2, 21), (2, 22), (2, 23), (3, 0), (14, 4), (14, 5), (14, 6), (14, 7), (3, 1), (3, 2), (3, 3), (3, 4), (3, 5), (3, 9), (3, 10), (3, 6), (3, 7), (3, 8), (3, 11), (41, 11), (14, 1), (14, 2), (14, 3), (14, 8), (14, 9), (14, 10), (14, 11), (14, 12), (14, 16), (14, 17), (14, 18), (14, 19), (25, 0), (25, 1), (25, 2), (25, 3), (24, 6), (24, 7), (24, 8), (24, 9), (41, 12), (41, 13), (41, 14), (41, 15), (4, 1), (4, 2), (41, 16), (27, 8), (27, 9), (27, 10), (27, 11), (27, 4), (27, 5), (27, 6), (28, 22), (28, 23), (29, 0), (29, 1), (3, 12), (29, 2), (29, 3), (29, 4), (29, 5), (29, 6), (29, 7), (29, 8), (29, 9), (29, 10), (29, 11), (29, 12), (1, 13), (29, 13), (4, 14), (4, 9), (4, 10), (4, 8), (29, 14), (29, 15), (29, 16), (29, 17), (4, 13), (4, 7), (4, 12), (29, 18), (29, 19), (29, 20), (29, 21), (29, 22), (25, 6), (25, 7), (25, 8), (29, 23), (30, 0), (30, 1), (30, 2), (30, 3), (30, 4), (30, 5), (30, 6), (30, 7), (30, 8), (30, 9), (30, 10), (30, 11), (30, 12), (30, 13), (30, 14), (30, 15), (30, 16), (35, 16), (35, 17), (35, 18), (35, 19), (35, 20), (27, 7), (46, 4), (46, 5), (46, 6), (46, 7), (46, 8)] rfl (by decide +kernel)) gtl_X8) gtl_X6) gtl_X3) gtl_X2) gtl_X4)
theorem gL_law_X8_look : GoodIn lw_tbl (wsV RL 131 RX8 yX8_look wsX8_look) := goodIn_app (good_rr ([.methodLink RL 131 yX8_look, .instanceMethod yX8_look, .selects RX8 yX8_look yX8_look, .initialized RX8] : List Cond) [(45, 19), (45, 20), (45, 21), (0, 2)] rfl (by decide +kernel)) ggL_law_X8_look
set_option maxRecDepth 100000 in
set_option maxHeartbeats 4000000 in
theorem ggL_law_X8_seed : GoodIn lw_tbl wsX8_seed := goodIn_cons (good_rr [_] [(46, 20)] rfl (by decide +kernel)) (goodIn_app (goodIn_app (good_rr _ [(0, 22), (46, 21)] rfl (by decide +kernel)) gtl_X8) gtl_X6)
theorem gL_law_X8_seed : GoodIn lw_tbl (wsV RL 135 RX8 yX8_seed wsX8_seed) := goodIn_app (good_rr ([.methodLink RL 135 yX8_seed, .instanceMethod yX8_seed, .selects RX8 yX8_seed yX8_seed, .initialized RX8] : List Cond) [(46, 17), (46, 18), (46, 19), (0, 2)] rfl (by decide +kernel)) ggL_law_X8_seed
set_option maxRecDepth 100000 in
set_option maxHeartbeats 4000000 in
theorem ggL_law_X8_toasts : GoodIn lw_tbl wsX8_toasts := goodIn_cons (good_rr [_] [(47, 5)] rfl (by decide +kernel)) (goodIn_app (goodIn_app (goodIn_app (goodIn_app (good_rr _ [(0, 22), (7, 17), (28, 1), (46, 21), (1, 5), (34, 7), (38, 12), (47, 6), (47, 7), (47, 8), (0, 2), (47, 9), (7, 20), (28, 14), (28, 15), (28, 16), (28, 17), (23, 19), (28, 18), (28, 19), (28, 20), (28, 21), (0, 18), (0, 17), (15, 0), (15, 1), (15, 2), (1, 4), (15, 3), (2, 20), (2, 21), (2, 22), (2, 23), (3, 0), (14, 4), (14, 5), (14, 6), (14, 7), (3, 1), (3, 2), (3, 3), (3, 4), (3, 5), (3, 9), (3, 10), (3, 6), (3, 7), (3, 8), (3, 11), (47, 10), (47, 11), (47, 12), (47, 13), (47, 14), (47, 15), (47, 16), (47, 17), (47, 18), (47, 19), (47, 20), (47, 21), (47, 22), (47, 23), (14, 16), (14, 17), (14, 18), (14, 19), (29, 2), (29, 3), (29, 4), (29, 5), (29, 6), (29, 7), (29, 8), (29, 9), (30, 9), (30, 10), (30, 11), (30, 12), (30, 13), (30, 14), (30, 15), (30, 16), (29, 22), (25, 6), (25, 7), (25, 8), (14, 8), (14, 9), (14, 10), (14, 11), (14, 12), (14, 13), (14, 14), (14, 15), (28, 22), (28, 23), (29, 0), (29, 1), (3, 12), (29, 10), (29, 11), (29, 12), (1, 13), (29, 13), (4, 14), (4, 9), (4, 10), (4, 8), (29, 14), (29, 15), (29, 16), (29, 17), (4, 13), (4, 7), (4, 12), (29, 18), (29, 19), (29, 20), (29, 21), (27, 11), (27, 4), (27, 5), (27, 6), (29, 23), (30, 0), (30, 1), (30, 2), (30, 3), (30, 4), (30, 5), (30, 6), (30, 7), (30, 8), (34, 8)] rfl (by decide +kernel)) gtl_X8) gtl_X6) gtl_X3) gtl_X4)
theorem gL_law_X8_toasts : GoodIn lw_tbl (wsV RL 139 RX8 yX8_toasts wsX8_toasts) := goodIn_app (good_rr ([.methodLink RL 139 yX8_toasts, .instanceMethod yX8_toasts, .selects RX8 yX8_toasts yX8_toasts, .initialized RX8] : List Cond) [(47, 2), (47, 3), (47, 4), (0, 2)] rfl (by decide +kernel)) ggL_law_X8_toasts
set_option maxRecDepth 100000 in
set_option maxHeartbeats 4000000 in
theorem ggL_law_X8_count : GoodIn lw_tbl wsX8_count := goodIn_cons (good_rr [_] [(48, 20)] rfl (by decide +kernel)) (goodIn_app (goodIn_app (goodIn_app (goodIn_app (goodIn_app (goodIn_app (good_rr _ [(0, 22), (7, 17), (40, 20), (48, 21), (7, 20), (0, 18), (23, 19), (28, 2), (38, 12), (34, 7), (7, 19), (44, 21), (7, 18), (35, 2), (46, 21), (0, 15), (6, 14), (44, 4), (44, 5), (44, 6), (1, 4), (44, 7), (2, 23), (29, 22), (25, 6), (25, 7), (25, 8), (3, 6), (3, 2), (3, 3), (3, 9), (3, 5), (3, 4)] rfl (by decide +kernel)) gtl_X8) gtl_X6) gtl_X3) gtl_X2) gtl_X0) gtl_X7)
theorem gL_law_X8_count : GoodIn lw_tbl (wsV RL 143 RX8 yX8_count wsX8_count) := goodIn_app (good_rr ([.methodLink RL 143 yX8_count, .instanceMethod yX8_count, .selects RX8 yX8_count yX8_count, .initialized RX8] : List Cond) [(48, 17), (48, 18), (48, 19), (0, 2)] rfl (by decide +kernel)) ggL_law_X8_count
set_option maxRecDepth 100000 in
set_option maxHeartbeats 4000000 in
theorem ggL_law_X8_image : GoodIn lw_tbl wsX8_image := goodIn_cons (good_rr [_] [(49, 5)] rfl (by decide +kernel)) (goodIn_app (goodIn_app (goodIn_app (goodIn_app (goodIn_app (good_rr _ [(0, 23), (0, 22), (1, 1), (7, 17), (28, 2), (49, 6), (49, 7), (49, 8), (0, 21), (49, 9), (2, 6), (2, 10), (2, 14), (2, 15), (2, 16), (49, 10), (15, 1), (15, 2), (1, 4), (15, 3), (2, 20), (2, 21), (2, 22), (2, 23), (3, 0), (14, 4), (14, 5), (14, 6), (14, 7), (3, 1), (3, 2), (3, 3), (3, 4), (3, 5), (3, 9), (3, 10), (3, 6), (3, 7), (3, 8), (3, 11), (49, 11), (49, 12), (49, 13), (2, 9), (49, 14), (3, 16), (49, 15), (3, 17), (3, 18), (3, 19), (3, 20), (49, 16), (49, 17), (49, 18), (2, 13), (49, 19), (4, 0), (49, 20), (4, 1), (4, 2), (4, 3)] rfl (by decide +kernel)) gtl_X8) gtl_X6) gtl_X3) gtl_X0) gtl_X2)
theorem gL_law_X8_image : GoodIn lw_tbl (wsV RL 147 RX8 yX8_image wsX8_image) := goodIn_app (good_rr ([.methodLink RL 147 yX8_image, .instanceMethod yX8_image, .selects RX8 yX8_image yX8_image, .initialized RX8] : List Cond) [(49, 2), (49, 3), (49, 4), (0, 2)] rfl (by decide +kernel)) ggL_law_X8_image
set_option maxRecDepth 100000 in
set_option maxHeartbeats 4000000 in
theorem ggL_law_X8_back : GoodIn lw_tbl wsX8_back := goodIn_cons (good_rr [_] [(50, 4)] rfl (by decide +kernel)) (goodIn_app (goodIn_app (goodIn_app (goodIn_app (goodIn_app (good_rr _ [(1, 1), (0, 22), (0, 23), (7, 17), (28, 2), (49, 6), (49, 7), (49, 8), (0, 21), (49, 9), (2, 6), (2, 10), (2, 14), (2, 15), (2, 16), (49, 10), (15, 1), (15, 2), (1, 4), (15, 3), (2, 20), (2, 21), (2, 22), (2, 23), (3, 0), (14, 4), (14, 5), (14, 6), (14, 7), (3, 1), (3, 2), (3, 3), (3, 4), (3, 5), (3, 9), (3, 10), (3, 6), (3, 7), (3, 8), (3, 11), (49, 11), (49, 12), (49, 13), (2, 9), (49, 14), (3, 16), (49, 15), (3, 17), (3, 18), (3, 19), (3, 20), (49, 16), (49, 17), (49, 18), (2, 13), (49, 19), (4, 0), (49, 20), (4, 1), (4, 2), (4, 3)] rfl (by decide +kernel)) gtl_X8) gtl_X6) gtl_X3) gtl_X0) gtl_X2)
theorem gL_law_X8_back : GoodIn lw_tbl (wsV RL 151 RX8 yX8_back wsX8_back) := goodIn_app (good_rr ([.methodLink RL 151 yX8_back, .instanceMethod yX8_back, .selects RX8 yX8_back yX8_back, .initialized RX8] : List Cond) [(50, 1), (50, 2), (50, 3), (0, 2)] rfl (by decide +kernel)) ggL_law_X8_back
set_option maxRecDepth 100000 in
set_option maxHeartbeats 4000000 in
theorem ggL_law_X9_init : GoodIn lw_tbl wsX9_init := goodIn_cons (good_rr [_] [(4, 18)] rfl (by decide +kernel)) (goodIn_app (good_rr _ [(4, 19), (0, 10), (0, 11), (1, 7), (4, 20), (4, 21), (4, 22), (4, 23), (5, 0), (5, 1), (5, 2), (5, 3), (5, 4), (5, 5), (5, 6), (5, 7), (5, 8), (5, 9), (5, 10), (5, 11), (5, 12), (5, 13), (1, 17), (5, 14), (5, 15), (5, 16), (5, 17), (5, 18), (5, 19), (5, 20), (5, 21), (4, 11), (5, 22), (5, 23), (6, 0), (6, 1), (6, 2), (1, 0), (6, 3), (6, 4), (6, 5), (6, 6), (6, 7), (6, 8), (6, 9)] rfl (by decide +kernel)) gtl_X9)
set_option maxRecDepth 100000 in
set_option maxHeartbeats 4000000 in
theorem ggL_law_X9_feed : GoodIn lw_tbl wsX9_feed := goodIn_cons (good_rr [_] [(6, 22)] rfl (by decide +kernel)) (goodIn_app (good_rr _ [(6, 23), (7, 0), (7, 1), (7, 2), (0, 5), (7, 3), (5, 14)] rfl (by decide +kernel)) gtl_X9)
theorem gL_law_X9_feed : GoodIn lw_tbl (wsV RL 17 RX9 yX9_feed wsX9_feed) := goodIn_app (good_rr ([.methodLink RL 17 yX9_feed, .instanceMethod yX9_feed, .selects RX9 yX9_feed yX9_feed, .initialized RX9] : List Cond) [(6, 19), (6, 20), (6, 21), (0, 5)] rfl (by decide +kernel)) ggL_law_X9_feed
set_option maxRecDepth 100000 in
set_option maxHeartbeats 4000000 in
theorem ggL_law_X9_end : GoodIn lw_tbl wsX9_end := goodIn_cons (good_rr [_] [(7, 11)] rfl (by decide +kernel)) (goodIn_app (good_rr _ [(6, 23)] rfl (by decide +kernel)) gtl_X9)
theorem gL_law_X9_end : GoodIn lw_tbl (wsV RL 22 RX9 yX9_end wsX9_end) := goodIn_app (good_rr ([.methodLink RL 22 yX9_end, .instanceMethod yX9_end, .selects RX9 yX9_end yX9_end, .initialized RX9] : List Cond) [(7, 8), (7, 9), (7, 10), (0, 5)] rfl (by decide +kernel)) ggL_law_X9_end
set_option maxRecDepth 100000 in
set_option maxHeartbeats 4000000 in
theorem ggL_law_X9_hall : GoodIn lw_tbl wsX9_hall := goodIn_cons (good_rr [_] [(15, 15)] rfl (by decide +kernel)) (goodIn_app (good_rr _ [(15, 16), (4, 20), (5, 7), (5, 8), (5, 6), (5, 9), (5, 1), (5, 10), (4, 23), (5, 11), (5, 2), (5, 12), (5, 0), (15, 17), (15, 18), (15, 19), (15, 20), (0, 5), (15, 21), (6, 23), (15, 22), (15, 23), (16, 0), (16, 1), (16, 2), (16, 3), (16, 4), (16, 5), (16, 6), (16, 7), (16, 8), (16, 9), (16, 10), (16, 11), (16, 12), (16, 13), (16, 14), (16, 15), (16, 16), (16, 17), (5, 14), (16, 18), (16, 19), (16, 20), (16, 21), (16, 22), (16, 23), (17, 0), (17, 1), (9, 8), (9, 9), (9, 10), (9, 11), (9, 12), (9, 13), (9, 14), (9, 15), (9, 16), (9, 17), (9, 18), (17, 2), (9, 20), (9, 21), (9, 22), (9, 23), (10, 0), (10, 1), (10, 2), (10, 3), (10, 4), (10, 5), (10, 6), (10, 7), (10, 8), (10, 9), (10, 10), (10, 11), (10, 12), (10, 13), (10, 14), (10, 15), (10, 16), (10, 17), (10, 18), (10, 19), (10, 20), (10, 21), (10, 22), (10, 23), (11, 0), (11, 1), (11, 2), (11, 3), (11, 4), (11, 5), (11, 6), (11, 7), (17, 3), (17, 4), (17, 5), (17, 6), (17, 7), (17, 8), (17, 9), (17, 10), (17, 11), (17, 12), (17, 13), (17, 14), (17, 15), (17, 16), (17, 17), (17, 18), (17, 19), (17, 20), (17, 21), (17, 22), (17, 23), (18, 0), (18, 1), (18, 2), (18, 3), (18, 4), (18, 5), (18, 6), (18, 7), (18, 8), (18, 9), (18, 10), (18, 11), (18, 12), (18, 13), (18, 14), (18, 15), (18, 16), (18, 17), (18, 18), (18, 19), (18, 20), (18, 21), (18, 22), (18, 23), (4, 21), (4, 22)] rfl (by decide +kernel)) gtl_X9)
theorem gL_law_X9_hall : GoodIn lw_tbl (wsV RL 27 RX9 yX9_hall wsX9_hall) := goodIn_app (good_rr ([.methodLink RL 27 yX9_hall, .instanceMethod yX9_hall, .selects RX9 yX9_hall yX9_hall, .initialized RX9] : List Cond) [(15, 12), (15, 13), (15, 14), (0, 5)] rfl (by decide +kernel)) ggL_law_X9_hall
set_option maxRecDepth 100000 in
set_option maxHeartbeats 4000000 in
theorem ggL_law_X9_rule : GoodIn lw_tbl wsX9_rule := goodIn_cons (good_rr [_] [(21, 4)] rfl (by decide +kernel)) (goodIn_app (good_rr _ [(21, 5), (21, 6), (6, 23), (5, 17), (15, 16), (15, 22), (15, 23), (16, 0), (0, 5), (16, 1), (16, 2), (16, 3), (16, 4), (16, 5), (21, 7), (21, 8), (21, 9), (21, 10), (5, 18), (5, 19), (5, 20), (16, 10), (16, 11), (16, 12), (16, 13), (16, 14), (16, 15), (16, 16), (16, 17), (5, 14), (16, 21), (16, 22), (16, 23), (17, 0), (17, 1), (9, 8), (9, 9), (9, 10), (9, 11), (9, 12), (9, 13), (9, 14), (9, 15), (9, 16), (9, 17), (9, 18), (17, 2), (9, 20), (9, 21), (9, 22), (9, 23), (10, 0), (10, 1), (10, 2), (10, 3), (10, 4), (10, 5), (10, 6), (10, 7), (10, 8), (10, 9), (10, 10), (10, 11), (10, 12), (10, 13), (10, 14), (10, 15), (10, 16), (10, 17), (10, 18), (10, 19), (10, 20), (10, 21), (10, 22), (10, 23), (11, 0), (11, 1), (11, 2), (11, 3), (11, 4), (11, 5), (11, 6), (11, 7), (17, 3), (17, 4), (17, 5), (17, 6), (21, 11), (21, 12), (21, 13), (21, 14), (21, 15), (21, 16), (21, 17), (21, 18), (21, 19), (21, 20), (21, 21), (21, 22), (17, 19), (5, 13), (18, 0), (18, 1), (18, 2), (18, 3), (18, 4), (18, 5), (18, 6), (18, 7), (18, 8), (17, 20), (17, 21), (17, 22), (17, 23), (21, 23), (22, 0), (22, 1), (22, 2), (22, 3), (22, 4), (22, 5), (22, 6), (5, 15), (5, 16), (22, 7), (22, 8), (22, 9), (22, 10), (22, 11), (22, 12), (22, 13), (22, 14), (22, 15), (22, 16), (22, 17), (22, 18), (22, 19), (22, 20), (22, 21), (22, 22), (22, 23), (23, 0), (23, 1), (23, 2), (5, 21), (23, 3), (23, 4), (23, 5), (23, 6), (23, 7), (23, 8), (23, 9), (23, 10), (23, 11), (23, 12), (23, 13), (23, 14), (18, 13), (18, 14), (18, 15), (18, 16)] rfl (by decide +kernel)) gtl_X9)
theorem gL_law_X9_rule : GoodIn lw_tbl (wsV RL 31 RX9 yX9_rule wsX9_rule) := goodIn_app (good_rr ([.methodLink RL 31 yX9_rule, .instanceMethod yX9_rule, .selects RX9 yX9_rule yX9_rule, .initialized RX9] : List Cond) [(21, 1), (21, 2), (21, 3), (0, 5)] rfl (by decide +kernel)) ggL_law_X9_rule
set_option maxRecDepth 100000 in
set_option maxHeartbeats 4000000 in
theorem ggL_law_X9_force : GoodIn lw_tbl wsX9_force := goodIn_cons (good_rr [_] [(23, 23)] rfl (by decide +kernel)) (goodIn_app (good_rr _ [(24, 0), (21, 5), (4, 20), (18, 6), (18, 7), (0, 5), (18, 8)] rfl (by decide +kernel)) gtl_X9)
theorem gL_law_X9_force : GoodIn lw_tbl (wsV RL 35 RX9 yX9_force wsX9_force) := goodIn_app (good_rr ([.methodLink RL 35 yX9_force, .instanceMethod yX9_force, .selects RX9 yX9_force yX9_force, .initialized RX9] : List Cond) [(23, 20), (23, 21), (23, 22), (0, 5)] rfl (by decide +kernel)) ggL_law_X9_force
set_option maxRecDepth 100000 in
set_option maxHeartbeats 4000000 in
theorem ggL_law_X9_strand : GoodIn lw_tbl wsX9_strand := goodIn_cons (good_rr [_] [(24, 13)] rfl (by decide +kernel)) (goodIn_app (good_rr _ [(4, 21), (24, 14), (24, 15), (24, 16), (0, 5), (24, 17), (4, 20), (18, 6), (18, 7), (18, 8)] rfl (by decide +kernel)) gtl_X9)
theorem gL_law_X9_strand : GoodIn lw_tbl (wsV RL 39 RX9 yX9_strand wsX9_strand) := goodIn_app (good_rr ([.methodLink RL 39 yX9_strand, .instanceMethod yX9_strand, .selects RX9 yX9_strand yX9_strand, .initialized RX9] : List Cond) [(24, 10), (24, 11), (24, 12), (0, 5)] rfl (by decide +kernel)) ggL_law_X9_strand
set_option maxRecDepth 100000 in
set_option maxHeartbeats 4000000 in
theorem ggL_law_X9_chair : GoodIn lw_tbl wsX9_chair := goodIn_cons (good_rr [_] [(25, 12)] rfl (by decide +kernel)) (goodIn_app (good_rr _ [(25, 13), (5, 1), (4, 23), (25, 14), (25, 15), (25, 16), (0, 5), (25, 17), (4, 20), (18, 6), (18, 7), (18, 8), (25, 18), (25, 19), (25, 20), (25, 21), (5, 2), (25, 22), (25, 23), (26, 0), (26, 1), (26, 2), (26, 3), (26, 4), (26, 5), (4, 22), (26, 6), (26, 7), (26, 8), (26, 9), (4, 21), (5, 0), (26, 10), (26, 11), (26, 12), (26, 13), (26, 14), (26, 15), (26, 16), (26, 17), (26, 18), (26, 19), (26, 20)] rfl (by decide +kernel)) gtl_X9)
theorem gL_law_X9_chair : GoodIn lw_tbl (wsV RL 44 RX9 yX9_chair wsX9_chair) := goodIn_app (good_rr ([.methodLink RL 44 yX9_chair, .instanceMethod yX9_chair, .selects RX9 yX9_chair yX9_chair, .initialized RX9] : List Cond) [(25, 9), (25, 10), (25, 11), (0, 5)] rfl (by decide +kernel)) ggL_law_X9_chair
set_option maxRecDepth 100000 in
set_option maxHeartbeats 4000000 in
theorem ggL_law_X9_sitter : GoodIn lw_tbl wsX9_sitter := goodIn_cons (good_rr [_] [(27, 15)] rfl (by decide +kernel)) (goodIn_app (good_rr _ [(27, 16), (5, 2), (5, 0), (4, 22), (27, 17), (27, 18), (27, 19), (0, 5), (27, 20), (4, 20), (18, 6), (18, 7), (18, 8)] rfl (by decide +kernel)) gtl_X9)
theorem gL_law_X9_sitter : GoodIn lw_tbl (wsV RL 48 RX9 yX9_sitter wsX9_sitter) := goodIn_app (good_rr ([.methodLink RL 48 yX9_sitter, .instanceMethod yX9_sitter, .selects RX9 yX9_sitter yX9_sitter, .initialized RX9] : List Cond) [(27, 12), (27, 13), (27, 14), (0, 5)] rfl (by decide +kernel)) ggL_law_X9_sitter
set_option maxRecDepth 100000 in
set_option maxHeartbeats 4000000 in
theorem ggL_law_X9_minute : GoodIn lw_tbl wsX9_minute := goodIn_cons (good_rr [_] [(30, 20)] rfl (by decide +kernel)) (goodIn_app (good_rr _ [(4, 20), (30, 21), (30, 22), (30, 23), (0, 5), (31, 0), (31, 1), (31, 2), (31, 3), (31, 4), (15, 17), (6, 1), (31, 5), (31, 6), (31, 7), (31, 8), (31, 9), (31, 10), (4, 21), (4, 22), (31, 11), (31, 12), (31, 13), (31, 14), (31, 15), (31, 16), (31, 17), (31, 18), (31, 19), (31, 20), (31, 21), (31, 22), (31, 23), (32, 0), (32, 1), (32, 2), (6, 0), (4, 23), (5, 2), (5, 22), (5, 0), (5, 1), (26, 2), (26, 3), (26, 4), (26, 5), (26, 13), (26, 14), (26, 15), (26, 16), (26, 10), (26, 11), (26, 12), (25, 22), (25, 23), (26, 0), (26, 1), (26, 6), (26, 7), (26, 8), (26, 9), (26, 17), (26, 18), (26, 19), (26, 20), (32, 3), (32, 4), (32, 5), (32, 6), (32, 7), (32, 8), (32, 9), (5, 17), (5, 19), (5, 20), (5, 18), (32, 10), (32, 11), (32, 12), (32, 13), (5, 15), (5, 16), (5, 23), (32, 14), (32, 15), (32, 16), (32, 17), (32, 18), (32, 19), (32, 20), (32, 21), (32, 22), (32, 23), (33, 0), (33, 1), (33, 2), (33, 3)] rfl (by decide +kernel)) gtl_X9)
theorem gL_law_X9_minute : GoodIn lw_tbl (wsV RL 52 RX9 yX9_minute wsX9_minute) := goodIn_app (good_rr ([.methodLink RL 52 yX9_minute, .instanceMethod yX9_minute, .selects RX9 yX9_minute yX9_minute, .initialized RX9] : List Cond) [(30, 17), (30, 18), (30, 19), (0, 5)] rfl (by decide +kernel)) ggL_law_X9_minute
set_option maxRecDepth 100000 in
set_option maxHeartbeats 4000000 in
theorem ggL_law_X9_sit : GoodIn lw_tbl wsX9_sit := goodIn_cons (good_rr [_] [(33, 13)] rfl (by decide +kernel)) (goodIn_app (good_rr _ [(4, 22), (33, 14), (33, 15), (33, 16), (0, 5), (33, 17), (27, 17), (27, 18), (27, 19), (27, 20), (4, 20), (18, 6), (18, 7), (18, 8), (31, 1), (31, 2), (31, 3), (31, 4), (15, 17), (6, 1), (31, 5), (31, 6), (31, 7), (31, 8), (31, 9), (31, 10), (4, 21), (31, 11), (31, 12), (31, 13), (31, 14), (31, 15), (31, 16), (31, 17), (31, 18), (32, 20), (32, 21), (32, 22), (32, 23), (26, 2), (26, 3), (26, 4), (26, 5), (33, 0), (33, 1), (33, 2), (33, 3), (5, 1), (5, 2), (26, 10), (26, 11), (26, 12), (26, 6), (26, 7), (26, 8), (26, 9), (4, 23), (5, 0), (26, 13), (26, 14), (26, 15), (26, 16), (26, 17), (26, 18), (26, 19), (26, 20)] rfl (by decide +kernel)) gtl_X9)
theorem gL_law_X9_sit : GoodIn lw_tbl (wsV RL 56 RX9 yX9_sit wsX9_sit) := goodIn_app (good_rr ([.methodLink RL 56 yX9_sit, .instanceMethod yX9_sit, .selects RX9 yX9_sit yX9_sit, .initialized RX9] : List Cond) [(33, 10), (33, 11), (33, 12), (0, 5)] rfl (by decide +kernel)) ggL_law_X9_sit
set_option maxRecDepth 100000 in
set_option maxHeartbeats 4000000 in
theorem ggL_law_X9_rise : GoodIn lw_tbl wsX9_rise := goodIn_cons (good_rr [_] [(34, 2)] rfl (by decide +kernel)) (goodIn_app (good_rr _ [(4, 22), (33, 14), (33, 15), (33, 16), (0, 5), (33, 17), (27, 17), (27, 18), (27, 19), (27, 20), (4, 20), (18, 6), (18, 7), (18, 8), (31, 1), (31, 2), (31, 3), (31, 4), (15, 17), (6, 1), (31, 5), (31, 6), (31, 7), (31, 8), (31, 9), (31, 10), (4, 21), (31, 11), (31, 12), (31, 13), (31, 14), (31, 15), (31, 16), (31, 17), (31, 18), (32, 20), (32, 21), (32, 22), (32, 23), (26, 2), (26, 3), (26, 4), (26, 5), (33, 0), (33, 1), (33, 2), (33, 3), (5, 1), (5, 2), (26, 10), (26, 11), (26, 12), (26, 6), (26, 7), (26, 8), (26, 9), (4, 23), (5, 0), (26, 13), (26, 14), (26, 15), (26, 16), (26, 17), (26, 18), (26, 19), (26, 20)] rfl (by decide +kernel)) gtl_X9)
theorem gL_law_X9_rise : GoodIn lw_tbl (wsV RL 60 RX9 yX9_rise wsX9_rise) := goodIn_app (good_rr ([.methodLink RL 60 yX9_rise, .instanceMethod yX9_rise, .selects RX9 yX9_rise yX9_rise, .initialized RX9] : List Cond) [(33, 23), (34, 0), (34, 1), (0, 5)] rfl (by decide +kernel)) ggL_law_X9_rise
set_option maxRecDepth 100000 in
set_option maxHeartbeats 4000000 in
theorem ggL_law_X9_help : GoodIn lw_tbl wsX9_help := goodIn_cons (good_rr [_] [(34, 12)] rfl (by decide +kernel)) (goodIn_app (good_rr _ [(4, 22), (33, 14), (33, 15), (33, 16), (0, 5), (33, 17), (27, 17), (27, 18), (27, 19), (27, 20), (4, 20), (18, 6), (18, 7), (18, 8), (31, 1), (31, 2), (31, 3), (31, 4), (15, 17), (6, 1), (31, 5), (31, 6), (31, 7), (31, 8), (31, 9), (31, 10), (4, 21), (31, 11), (31, 12), (31, 13), (31, 14), (31, 15), (31, 16), (31, 17), (31, 18), (26, 2), (26, 3), (26, 4), (26, 5), (32, 3), (32, 4), (32, 5)] rfl (by decide +kernel)) gtl_X9)
theorem gL_law_X9_help : GoodIn lw_tbl (wsV RL 64 RX9 yX9_help wsX9_help) := goodIn_app (good_rr ([.methodLink RL 64 yX9_help, .instanceMethod yX9_help, .selects RX9 yX9_help yX9_help, .initialized RX9] : List Cond) [(34, 9), (34, 10), (34, 11), (0, 5)] rfl (by decide +kernel)) ggL_law_X9_help
set_option maxRecDepth 100000 in
set_option maxHeartbeats 4000000 in
theorem ggL_law_X9_let : GoodIn lw_tbl wsX9_let := goodIn_cons (good_rr [_] [(34, 20)] rfl (by decide +kernel)) (goodIn_app (good_rr _ [(34, 21), (4, 21), (24, 14), (24, 15), (24, 16), (0, 5), (24, 17), (4, 20), (18, 6), (18, 7), (18, 8), (31, 1), (31, 2), (31, 3), (31, 4), (15, 17), (6, 1), (31, 5), (31, 6), (31, 7), (31, 8), (31, 9), (31, 10), (4, 22), (31, 11), (31, 12), (31, 13), (31, 14), (31, 15), (31, 16), (31, 17), (31, 18), (32, 20), (32, 21), (32, 22), (32, 23), (26, 2), (26, 3), (26, 4), (26, 5), (33, 0), (33, 1), (33, 2), (33, 3), (5, 1), (5, 2), (26, 10), (26, 11), (26, 12), (26, 6), (26, 7), (26, 8), (26, 9), (4, 23), (5, 0), (26, 13), (26, 14), (26, 15), (26, 16), (26, 17), (26, 18), (26, 19), (26, 20)] rfl (by decide +kernel)) gtl_X9)
theorem gL_law_X9_let : GoodIn lw_tbl (wsV RL 68 RX9 yX9_let wsX9_let) := goodIn_app (good_rr ([.methodLink RL 68 yX9_let, .instanceMethod yX9_let, .selects RX9 yX9_let yX9_let, .initialized RX9] : List Cond) [(34, 17), (34, 18), (34, 19), (0, 5)] rfl (by decide +kernel)) ggL_law_X9_let
set_option maxRecDepth 100000 in
set_option maxHeartbeats 4000000 in
theorem ggL_law_X9_undo : GoodIn lw_tbl wsX9_undo := goodIn_cons (good_rr [_] [(35, 11)] rfl (by decide +kernel)) (goodIn_app (good_rr _ [(15, 17), (31, 5), (31, 6), (31, 7), (0, 5), (31, 8), (31, 9), (31, 10), (4, 20), (4, 21), (4, 22), (31, 11), (31, 12), (31, 13), (31, 14), (6, 1), (31, 15), (31, 16), (31, 17), (31, 18)] rfl (by decide +kernel)) gtl_X9)
theorem gL_law_X9_undo : GoodIn lw_tbl (wsV RL 72 RX9 yX9_undo wsX9_undo) := goodIn_app (good_rr ([.methodLink RL 72 yX9_undo, .instanceMethod yX9_undo, .selects RX9 yX9_undo yX9_undo, .initialized RX9] : List Cond) [(35, 8), (35, 9), (35, 10), (0, 5)] rfl (by decide +kernel)) ggL_law_X9_undo
set_option maxRecDepth 100000 in
set_option maxHeartbeats 4000000 in
theorem ggL_law_X9_ahead : GoodIn lw_tbl wsX9_ahead := goodIn_cons (good_rr [_] [(36, 0)] rfl (by decide +kernel)) (goodIn_app (good_rr _ [(27, 16), (36, 1), (4, 22), (30, 21), (30, 22), (30, 23), (0, 5), (31, 0), (4, 20), (18, 6), (18, 7), (18, 8), (27, 17), (27, 18), (27, 19), (27, 20), (36, 2), (36, 3), (36, 4), (36, 5), (36, 6), (36, 7), (36, 8), (36, 9), (36, 10), (36, 11), (4, 21), (4, 23), (5, 0), (6, 2), (15, 17), (5, 1), (5, 2), (5, 3), (5, 4), (5, 5), (5, 6), (6, 1), (36, 12), (36, 13), (36, 14), (36, 15), (6, 8), (36, 16), (36, 17), (36, 18), (36, 19), (31, 19), (31, 20), (31, 21), (31, 22), (31, 23), (32, 0), (32, 1), (32, 2), (6, 0), (5, 22), (26, 2), (26, 3), (26, 4), (26, 5), (26, 13), (26, 14), (26, 15), (26, 16), (26, 10), (26, 11), (26, 12), (25, 22), (25, 23), (26, 0), (26, 1), (26, 6), (26, 7), (26, 8), (26, 9), (26, 17), (26, 18), (26, 19), (26, 20), (32, 3), (32, 4), (32, 5), (32, 6), (32, 7), (32, 8), (32, 9), (5, 17), (5, 19), (5, 20), (5, 18), (32, 10), (32, 11), (32, 12), (32, 13), (5, 15), (5, 16), (5, 23), (32, 14), (32, 15), (32, 16), (32, 17), (32, 18), (32, 19), (32, 20), (32, 21), (32, 22), (32, 23), (33, 0), (33, 1), (33, 2), (33, 3), (36, 20), (36, 21), (36, 22), (36, 23)] rfl (by decide +kernel)) gtl_X9)
theorem gL_law_X9_ahead : GoodIn lw_tbl (wsV RL 77 RX9 yX9_ahead wsX9_ahead) := goodIn_app (good_rr ([.methodLink RL 77 yX9_ahead, .instanceMethod yX9_ahead, .selects RX9 yX9_ahead yX9_ahead, .initialized RX9] : List Cond) [(35, 21), (35, 22), (35, 23), (0, 5)] rfl (by decide +kernel)) ggL_law_X9_ahead
set_option maxRecDepth 100000 in
set_option maxHeartbeats 4000000 in
theorem ggL_law_X9_falls : GoodIn lw_tbl wsX9_falls := goodIn_cons (good_rr [_] [(37, 7)] rfl (by decide +kernel)) (goodIn_app (good_rr _ [(4, 20), (30, 21), (30, 22), (30, 23), (0, 5), (31, 0), (18, 6), (18, 7), (18, 8), (36, 2), (36, 3), (36, 4), (36, 5), (36, 6), (36, 7), (36, 8), (36, 9), (36, 10), (36, 11), (4, 21), (4, 22), (4, 23), (5, 0), (6, 2), (15, 17), (5, 1), (5, 2), (5, 3), (5, 4), (5, 5), (5, 6), (6, 1), (36, 12), (36, 13), (36, 14), (36, 15), (6, 8), (31, 19), (31, 20), (31, 21), (31, 22), (31, 23), (32, 0), (32, 1), (32, 2), (6, 0), (5, 22), (26, 2), (26, 3), (26, 4), (26, 5), (26, 13), (26, 14), (26, 15), (26, 16), (26, 10), (26, 11), (26, 12), (25, 22), (25, 23), (26, 0), (26, 1), (26, 6), (26, 7), (26, 8), (26, 9), (26, 17), (26, 18), (26, 19), (26, 20), (32, 3), (32, 4), (32, 5), (32, 6), (32, 7), (32, 8), (32, 9), (5, 17), (5, 19), (5, 20), (5, 18), (32, 10), (32, 11), (32, 12), (32, 13), (5, 15), (5, 16), (5, 23), (32, 14), (32, 15), (32, 16), (32, 17), (32, 18), (32, 19), (32, 20), (32, 21), (32, 22), (32, 23), (33, 0), (33, 1), (33, 2), (33, 3), (36, 20), (36, 21), (36, 22), (36, 23)] rfl (by decide +kernel)) gtl_X9)
theorem gL_law_X9_falls : GoodIn lw_tbl (wsV RL 81 RX9 yX9_falls wsX9_falls) := goodIn_app (good_rr ([.methodLink RL 81 yX9_falls, .instanceMethod yX9_falls, .selects RX9 yX9_falls yX9_falls, .initialized RX9] : List Cond) [(37, 4), (37, 5), (37, 6), (0, 5)] rfl (by decide +kernel)) ggL_law_X9_falls
set_option maxRecDepth 100000 in
set_option maxHeartbeats 4000000 in
theorem ggL_law_X9_felled : GoodIn lw_tbl wsX9_felled := goodIn_cons (good_rr [_] [(37, 19)] rfl (by decide +kernel)) (goodIn_app (good_rr _ [(33, 14), (33, 15), (33, 16), (0, 5), (33, 17), (4, 22), (27, 17), (27, 18), (27, 19), (27, 20), (4, 20), (18, 6), (18, 7), (18, 8), (37, 20), (37, 21), (37, 22), (37, 23), (36, 2), (36, 3), (36, 4), (36, 5), (36, 6), (36, 7), (36, 8), (36, 9), (36, 10), (36, 11), (4, 21), (4, 23), (5, 0), (6, 2), (15, 17), (5, 1), (5, 2), (5, 3), (5, 4), (5, 5), (5, 6), (6, 1), (36, 12), (36, 13), (36, 14), (36, 15), (6, 8), (32, 20), (32, 21), (32, 22), (32, 23), (26, 2), (26, 3), (26, 4), (26, 5), (33, 0), (33, 1), (33, 2), (33, 3), (26, 10), (26, 11), (26, 12), (26, 6), (26, 7), (26, 8), (26, 9), (26, 13), (26, 14), (26, 15), (26, 16), (26, 17), (26, 18), (26, 19), (26, 20), (36, 20), (36, 21), (36, 22), (36, 23)] rfl (by decide +kernel)) gtl_X9)
theorem gL_law_X9_felled : GoodIn lw_tbl (wsV RL 85 RX9 yX9_felled wsX9_felled) := goodIn_app (good_rr ([.methodLink RL 85 yX9_felled, .instanceMethod yX9_felled, .selects RX9 yX9_felled yX9_felled, .initialized RX9] : List Cond) [(37, 16), (37, 17), (37, 18), (0, 5)] rfl (by decide +kernel)) ggL_law_X9_felled
set_option maxRecDepth 100000 in
set_option maxHeartbeats 4000000 in
theorem ggL_law_X9_tall : GoodIn lw_tbl wsX9_tall := goodIn_cons (good_rr [_] [(38, 7)] rfl (by decide +kernel)) (goodIn_app (good_rr _ [(4, 20), (4, 22), (30, 21), (30, 22), (30, 23), (0, 5), (31, 0), (18, 6), (18, 7), (18, 8), (37, 20), (37, 21), (37, 22), (37, 23), (36, 2), (36, 3), (36, 4), (36, 5), (36, 6), (36, 7), (36, 8), (36, 9), (36, 10), (36, 11), (4, 21), (4, 23), (5, 0), (6, 2), (15, 17), (5, 1), (5, 2), (5, 3), (5, 4), (5, 5), (5, 6), (6, 1), (36, 12), (36, 13), (36, 14), (36, 15), (6, 8), (32, 20), (32, 21), (32, 22), (32, 23), (26, 2), (26, 3), (26, 4), (26, 5), (33, 0), (33, 1), (33, 2), (33, 3), (26, 10), (26, 11), (26, 12), (26, 6), (26, 7), (26, 8), (26, 9), (26, 13), (26, 14), (26, 15), (26, 16), (26, 17), (26, 18), (26, 19), (26, 20), (36, 20), (36, 21), (36, 22), (36, 23), (32, 3), (32, 4), (32, 5)] rfl (by decide +kernel)) gtl_X9)
theorem gL_law_X9_tall : GoodIn lw_tbl (wsV RL 89 RX9 yX9_tall wsX9_tall) := goodIn_app (good_rr ([.methodLink RL 89 yX9_tall, .instanceMethod yX9_tall, .selects RX9 yX9_tall yX9_tall, .initialized RX9] : List Cond) [(38, 4), (38, 5), (38, 6), (0, 5)] rfl (by decide +kernel)) ggL_law_X9_tall
set_option maxRecDepth 100000 in
set_option maxHeartbeats 4000000 in
theorem ggL_law_X9_ease : GoodIn lw_tbl wsX9_ease := goodIn_cons (good_rr [_] [(39, 0)] rfl (by decide +kernel)) (goodIn_app (good_rr _ [(30, 21), (30, 22), (30, 23), (0, 5), (31, 0), (4, 20), (18, 6), (18, 7), (18, 8), (26, 2), (26, 3), (26, 4), (26, 5), (4, 22), (32, 3), (32, 4), (32, 5), (33, 0), (33, 1), (33, 2), (33, 3), (5, 1), (5, 2), (26, 10), (26, 11), (26, 12), (26, 6), (26, 7), (26, 8), (26, 9), (4, 23), (4, 21), (5, 0), (26, 13), (26, 14), (26, 15), (26, 16), (26, 17), (26, 18), (26, 19), (26, 20)] rfl (by decide +kernel)) gtl_X9)
theorem gL_law_X9_ease : GoodIn lw_tbl (wsV RL 93 RX9 yX9_ease wsX9_ease) := goodIn_app (good_rr ([.methodLink RL 93 yX9_ease, .instanceMethod yX9_ease, .selects RX9 yX9_ease yX9_ease, .initialized RX9] : List Cond) [(38, 21), (38, 22), (38, 23), (0, 5)] rfl (by decide +kernel)) ggL_law_X9_ease
set_option maxRecDepth 100000 in
set_option maxHeartbeats 4000000 in
theorem ggL_law_X9_way : GoodIn lw_tbl wsX9_way := goodIn_cons (good_rr [_] [(39, 16)] rfl (by decide +kernel)) (goodIn_app (good_rr _ [(39, 17), (6, 3), (30, 21), (30, 22), (30, 23), (0, 5), (31, 0), (4, 20), (18, 6), (18, 7), (18, 8), (26, 2), (26, 3), (26, 4), (26, 5), (4, 22), (39, 18), (39, 19), (39, 20), (39, 21), (26, 10), (26, 11), (26, 12), (33, 0), (33, 1), (33, 2), (33, 3), (5, 1), (5, 2), (26, 6), (26, 7), (26, 8), (26, 9), (4, 23), (4, 21), (5, 0), (26, 13), (26, 14), (26, 15), (26, 16), (26, 17), (26, 18), (26, 19), (26, 20)] rfl (by decide +kernel)) gtl_X9)
theorem gL_law_X9_way : GoodIn lw_tbl (wsV RL 97 RX9 yX9_way wsX9_way) := goodIn_app (good_rr ([.methodLink RL 97 yX9_way, .instanceMethod yX9_way, .selects RX9 yX9_way yX9_way, .initialized RX9] : List Cond) [(39, 13), (39, 14), (39, 15), (0, 5)] rfl (by decide +kernel)) ggL_law_X9_way
set_option maxRecDepth 100000 in
set_option maxHeartbeats 4000000 in
theorem ggL_law_X9_most : GoodIn lw_tbl wsX9_most := goodIn_cons (good_rr [_] [(40, 6)] rfl (by decide +kernel)) (goodIn_app (good_rr _ [(4, 21), (24, 14), (24, 15), (24, 16), (0, 5), (24, 17), (4, 20), (18, 6), (18, 7), (18, 8), (26, 2), (26, 3), (26, 4), (26, 5), (4, 22), (33, 0), (33, 1), (33, 2), (33, 3), (5, 1), (5, 2), (26, 10), (26, 11), (26, 12), (26, 6), (26, 7), (26, 8), (26, 9), (4, 23), (5, 0), (26, 13), (26, 14), (26, 15), (26, 16), (26, 17), (26, 18), (26, 19), (26, 20)] rfl (by decide +kernel)) gtl_X9)
theorem gL_law_X9_most : GoodIn lw_tbl (wsV RL 101 RX9 yX9_most wsX9_most) := goodIn_app (good_rr ([.methodLink RL 101 yX9_most, .instanceMethod yX9_most, .selects RX9 yX9_most yX9_most, .initialized RX9] : List Cond) [(40, 3), (40, 4), (40, 5), (0, 5)] rfl (by decide +kernel)) ggL_law_X9_most
set_option maxRecDepth 100000 in
set_option maxHeartbeats 4000000 in
theorem ggL_law_X9_heavy : GoodIn lw_tbl wsX9_heavy := goodIn_cons (good_rr [_] [(40, 15)] rfl (by decide +kernel)) (goodIn_app (good_rr _ [(4, 22), (5, 0), (27, 17), (27, 18), (27, 19), (0, 5), (27, 20), (4, 20), (18, 6), (18, 7), (18, 8), (26, 2), (26, 3), (26, 4), (26, 5), (33, 0), (33, 1), (33, 2), (33, 3), (5, 1), (5, 2), (26, 10), (26, 11), (26, 12), (26, 6), (26, 7), (26, 8), (26, 9), (4, 23), (4, 21), (26, 13), (26, 14), (26, 15), (26, 16), (26, 17), (26, 18), (26, 19), (26, 20)] rfl (by decide +kernel)) gtl_X9)
theorem gL_law_X9_heavy : GoodIn lw_tbl (wsV RL 105 RX9 yX9_heavy wsX9_heavy) := goodIn_app (good_rr ([.methodLink RL 105 yX9_heavy, .instanceMethod yX9_heavy, .selects RX9 yX9_heavy yX9_heavy, .initialized RX9] : List Cond) [(40, 12), (40, 13), (40, 14), (0, 5)] rfl (by decide +kernel)) ggL_law_X9_heavy
set_option maxRecDepth 100000 in
set_option maxHeartbeats 4000000 in
theorem ggL_law_X9_strung : GoodIn lw_tbl wsX9_strung := goodIn_cons (good_rr [_] [(41, 20)] rfl (by decide +kernel)) (goodIn_app (good_rr _ [(4, 20), (4, 23), (25, 14), (25, 15), (25, 16), (0, 5), (25, 17), (18, 6), (18, 7), (18, 8), (36, 2), (36, 3), (36, 4), (36, 5), (36, 6), (36, 7), (36, 8), (36, 9), (36, 10), (36, 11), (4, 21), (4, 22), (5, 0), (6, 2), (15, 17), (5, 1), (5, 2), (5, 3), (5, 4), (5, 5), (5, 6), (6, 1), (36, 12), (36, 13), (36, 14), (36, 15), (6, 8), (18, 20), (18, 21), (18, 22), (18, 23), (18, 17), (18, 18), (18, 19), (41, 21), (41, 22), (41, 23), (42, 0), (6, 6), (42, 1), (42, 2), (42, 3), (42, 4), (31, 19), (31, 20), (31, 21), (31, 22), (31, 23), (32, 0), (32, 1), (32, 2), (6, 0), (5, 22), (26, 2), (26, 3), (26, 4), (26, 5), (26, 13), (26, 14), (26, 15), (26, 16), (26, 10), (26, 11), (26, 12), (25, 22), (25, 23), (26, 0), (26, 1), (26, 6), (26, 7), (26, 8), (26, 9), (26, 17), (26, 18), (26, 19), (26, 20), (32, 3), (32, 4), (32, 5), (32, 6), (32, 7), (32, 8), (32, 9), (5, 17), (5, 19), (5, 20), (5, 18), (32, 10), (32, 11), (32, 12), (32, 13), (5, 15), (5, 16), (5, 23), (32, 14), (32, 15), (32, 16), (32, 17), (32, 18), (32, 19), (32, 20), (32, 21), (32, 22), (32, 23), (33, 0), (33, 1), (33, 2), (33, 3), (36, 20), (36, 21), (36, 22), (36, 23)] rfl (by decide +kernel)) gtl_X9)
theorem gL_law_X9_strung : GoodIn lw_tbl (wsV RL 109 RX9 yX9_strung wsX9_strung) := goodIn_app (good_rr ([.methodLink RL 109 yX9_strung, .instanceMethod yX9_strung, .selects RX9 yX9_strung yX9_strung, .initialized RX9] : List Cond) [(41, 17), (41, 18), (41, 19), (0, 5)] rfl (by decide +kernel)) ggL_law_X9_strung
set_option maxRecDepth 100000 in
set_option maxHeartbeats 4000000 in
theorem ggL_law_X9_rests : GoodIn lw_tbl wsX9_rests := goodIn_cons (good_rr [_] [(42, 22)] rfl (by decide +kernel)) (goodIn_app (good_rr _ [(4, 22), (42, 23), (27, 16), (6, 4), (6, 5), (27, 17), (27, 18), (27, 19), (0, 5), (27, 20), (4, 20), (18, 6), (18, 7), (18, 8), (43, 0), (43, 1), (43, 2), (43, 3), (6, 0), (36, 2), (36, 3), (36, 4), (36, 5), (36, 6), (36, 7), (36, 8), (36, 9), (36, 10), (36, 11), (4, 21), (4, 23), (5, 0), (6, 2), (15, 17), (5, 1), (5, 2), (5, 3), (5, 4), (5, 5), (5, 6), (6, 1), (36, 12), (36, 13), (36, 14), (36, 15), (6, 8), (31, 19), (31, 20), (31, 21), (31, 22), (31, 23), (32, 0), (32, 1), (32, 2), (5, 22), (26, 2), (26, 3), (26, 4), (26, 5), (26, 13), (26, 14), (26, 15), (26, 16), (26, 10), (26, 11), (26, 12), (25, 22), (25, 23), (26, 0), (26, 1), (26, 6), (26, 7), (26, 8), (26, 9), (26, 17), (26, 18), (26, 19), (26, 20), (32, 3), (32, 4), (32, 5), (32, 6), (32, 7), (32, 8), (32, 9), (5, 17), (5, 19), (5, 20), (5, 18), (32, 10), (32, 11), (32, 12), (32, 13), (5, 15), (5, 16), (5, 23), (32, 14), (32, 15), (32, 16), (32, 17), (32, 18), (32, 19), (32, 20), (32, 21), (32, 22), (32, 23), (33, 0), (33, 1), (33, 2), (33, 3), (43, 4), (43, 5), (43, 6), (43, 7), (36, 20), (36, 21), (36, 22), (36, 23)] rfl (by decide +kernel)) gtl_X9)
theorem gL_law_X9_rests : GoodIn lw_tbl (wsV RL 114 RX9 yX9_rests wsX9_rests) := goodIn_app (good_rr ([.methodLink RL 114 yX9_rests, .instanceMethod yX9_rests, .selects RX9 yX9_rests yX9_rests, .initialized RX9] : List Cond) [(42, 19), (42, 20), (42, 21), (0, 5)] rfl (by decide +kernel)) ggL_law_X9_rests
set_option maxRecDepth 100000 in
set_option maxHeartbeats 4000000 in
theorem ggL_law_X9_ring : GoodIn lw_tbl wsX9_ring := goodIn_cons (good_rr [_] [(43, 19)] rfl (by decide +kernel)) (goodIn_app (good_rr _ [(4, 20), (30, 21), (30, 22), (30, 23), (0, 5), (31, 0), (18, 6), (18, 7), (18, 8), (36, 2), (36, 3), (36, 4), (36, 5), (36, 6), (36, 7), (36, 8), (36, 9), (36, 10), (36, 11), (4, 21), (4, 22), (4, 23), (5, 0), (6, 2), (15, 17), (5, 1), (5, 2), (5, 3), (5, 4), (5, 5), (5, 6), (6, 1), (36, 12), (36, 13), (36, 14), (36, 15), (6, 8), (42, 1), (42, 2), (42, 3), (42, 4), (6, 6), (31, 19), (31, 20), (31, 21), (31, 22), (31, 23), (32, 0), (32, 1), (32, 2), (6, 0), (5, 22), (26, 2), (26, 3), (26, 4), (26, 5), (26, 13), (26, 14), (26, 15), (26, 16), (26, 10), (26, 11), (26, 12), (25, 22), (25, 23), (26, 0), (26, 1), (26, 6), (26, 7), (26, 8), (26, 9), (26, 17), (26, 18), (26, 19), (26, 20), (32, 3), (32, 4), (32, 5), (32, 6), (32, 7), (32, 8), (32, 9), (5, 17), (5, 19), (5, 20), (5, 18), (32, 10), (32, 11), (32, 12), (32, 13), (5, 15), (5, 16), (5, 23), (32, 14), (32, 15), (32, 16), (32, 17), (32, 18), (32, 19), (32, 20), (32, 21), (32, 22), (32, 23), (33, 0), (33, 1), (33, 2), (33, 3), (36, 20), (36, 21), (36, 22), (36, 23), (43, 20), (43, 21), (43, 22), (43, 23)] rfl (by decide +kernel)) gtl_X9)
theorem gL_law_X9_ring : GoodIn lw_tbl (wsV RL 118 RX9 yX9_ring wsX9_ring) := goodIn_app (good_rr ([.methodLink RL 118 yX9_ring, .instanceMethod yX9_ring, .selects RX9 yX9_ring yX9_ring, .initialized RX9] : List Cond) [(43, 16), (43, 17), (43, 18), (0, 5)] rfl (by decide +kernel)) ggL_law_X9_ring
set_option maxRecDepth 100000 in
set_option maxHeartbeats 4000000 in
theorem ggL_law_X9_pence : GoodIn lw_tbl wsX9_pence := goodIn_cons (good_rr [_] [(44, 11)] rfl (by decide +kernel)) (goodIn_app (good_rr _ [(44, 12), (4, 20), (27, 17), (27, 18), (27, 19), (0, 5), (27, 20), (18, 6), (18, 7), (18, 8), (44, 13), (44, 14), (44, 15), (44, 16), (25, 22), (25, 23), (26, 0), (26, 1), (26, 2), (26, 3), (26, 4), (26, 5), (4, 22), (26, 6), (26, 7), (26, 8), (26, 9), (4, 23), (5, 2), (4, 21), (5, 0), (26, 10), (26, 11), (26, 12), (26, 13), (26, 14), (26, 15), (26, 16), (26, 17), (26, 18), (26, 19), (26, 20)] rfl (by decide +kernel)) gtl_X9)
theorem gL_law_X9_pence : GoodIn lw_tbl (wsV RL 122 RX9 yX9_pence wsX9_pence) := goodIn_app (good_rr ([.methodLink RL 122 yX9_pence, .instanceMethod yX9_pence, .selects RX9 yX9_pence yX9_pence, .initialized RX9] : List Cond) [(44, 8), (44, 9), (44, 10), (0, 5)] rfl (by decide +kernel)) ggL_law_X9_pence
set_option maxRecDepth 100000 in
set_option maxHeartbeats 4000000 in
theorem ggL_law_X9_note : GoodIn lw_tbl wsX9_note := goodIn_cons (good_rr [_] [(45, 5)] rfl (by decide +kernel)) (goodIn_app (good_rr _ [(4, 20), (45, 6), (27, 16), (5, 3), (5, 4), (5, 5), (18, 6), (18, 7), (0, 5), (18, 8), (27, 17), (27, 18), (27, 19), (27, 20)] rfl (by decide +kernel)) gtl_X9)
theorem gL_law_X9_note : GoodIn lw_tbl (wsV RL 126 RX9 yX9_note wsX9_note) := goodIn_app (good_rr ([.methodLink RL 126 yX9_note, .instanceMethod yX9_note, .selects RX9 yX9_note yX9_note, .initialized RX9] : List Cond) [(45, 2), (45, 3), (45, 4), (0, 5)] rfl (by decide +kernel)) ggL_law_X9_note
set_option maxRecDepth 100000 in
set_option maxHeartbeats 4000000 in
theorem ggL_law_X9_ruled : GoodIn lw_tbl wsX9_ruled := goodIn_cons (good_rr [_] [(45, 14)] rfl (by decide +kernel)) (goodIn_app (good_rr _ [(21, 5), (30, 21), (30, 22), (30, 23), (0, 5), (31, 0), (4, 20), (18, 6), (18, 7), (18, 8), (36, 2), (36, 3), (36, 4), (36, 5), (36, 6), (36, 7), (36, 8), (36, 9), (36, 10), (36, 11), (4, 21), (4, 22), (4, 23), (5, 0), (6, 2), (15, 17), (5, 1), (5, 2), (5, 3), (5, 4), (5, 5), (5, 6), (6, 1), (36, 12), (36, 13), (36, 14), (36, 15), (6, 8), (45, 15), (45, 16), (45, 17), (45, 18), (18, 20), (18, 21), (18, 22), (18, 23), (18, 17), (18, 18), (18, 19), (41, 21), (41, 22), (41, 23), (42, 0), (6, 6), (42, 1), (42, 2), (42, 3), (42, 4), (31, 19), (31, 20), (31, 21), (31, 22), (31, 23), (32, 0), (32, 1), (32, 2), (6, 0), (5, 22), (26, 2), (26, 3), (26, 4), (26, 5), (26, 13), (26, 14), (26, 15), (26, 16), (26, 10), (26, 11), (26, 12), (25, 22), (25, 23), (26, 0), (26, 1), (26, 6), (26, 7), (26, 8), (26, 9), (26, 17), (26, 18), (26, 19), (26, 20), (32, 3), (32, 4), (32, 5), (32, 6), (32, 7), (32, 8), (32, 9), (5, 17), (5, 19), (5, 20), (5, 18), (32, 10), (32, 11), (32, 12), (32, 13), (5, 15), (5, 16), (5, 23), (32, 14), (32, 15), (32, 16), (32, 17), (32, 18), (32, 19), (32, 20), (32, 21), (32, 22), (32, 23), (33, 0), (33, 1), (33, 2), (33, 3), (36, 20), (36, 21), (36, 22), (36, 23)] rfl (by decide +kernel)) gtl_X9)
theorem gL_law_X9_ruled : GoodIn lw_tbl (wsV RL 130 RX9 yX9_ruled wsX9_ruled) := goodIn_app (good_rr ([.methodLink RL 130 yX9_ruled, .instanceMethod yX9_ruled, .selects RX9 yX9_ruled yX9_ruled, .initialized RX9] : List Cond) [(45, 11), (45, 12), (45, 13), (0, 5)] rfl (by decide +kernel)) ggL_law_X9_ruled
set_option maxRecDepth 100000 in
set_option maxHeartbeats 4000000 in
theorem ggL_law_X9_look : GoodIn lw_tbl wsX9_look := goodIn_cons (good_rr [_] [(46, 12)] rfl (by decide +kernel)) (goodIn_app (good_rr _ [(45, 6), (21, 5), (6, 7), (6, 6), (4, 20), (30, 21), (30, 22), (30, 23), (0, 5), (31, 0), (18, 6), (18, 7), (18, 8), (36, 2), (36, 3), (36, 4), (36, 5), (36, 6), (36, 7), (36, 8), (36, 9), (36, 10), (36, 11), (4, 21), (4, 22), (4, 23), (5, 0), (6, 2), (15, 17), (5, 1), (5, 2), (5, 3), (5, 4), (5, 5), (5, 6), (6, 1), (36, 12), (36, 13), (36, 14), (36, 15), (6, 8), (45, 15), (45, 16), (45, 17), (45, 18), (18, 20), (18, 21), (18, 22), (18, 23), (18, 17), (18, 18), (18, 19), (41, 21), (41, 22), (41, 23), (42, 0), (42, 1), (42, 2), (42, 3), (42, 4), (31, 19), (31, 20), (31, 21), (31, 22), (31, 23), (32, 0), (32, 1), (32, 2), (6, 0), (5, 22), (26, 2), (26, 3), (26, 4), (26, 5), (26, 13), (26, 14), (26, 15), (26, 16), (26, 10), (26, 11), (26, 12), (25, 22), (25, 23), (26, 0), (26, 1), (26, 6), (26, 7), (26, 8), (26, 9), (26, 17), (26, 18), (26, 19), (26, 20), (32, 3), (32, 4), (32, 5), (32, 6), (32, 7), (32, 8), (32, 9), (5, 17), (5, 19), (5, 20), (5, 18), (32, 10), (32, 11), (32, 12), (32, 13), (5, 15), (5, 16), (5, 23), (32, 14), (32, 15), (32, 16), (32, 17), (32, 18), (32, 19), (32, 20), (32, 21), (32, 22), (32, 23), (33, 0), (33, 1), (33, 2), (33, 3), (36, 20), (36, 21), (36, 22), (36, 23), (46, 13), (46, 14), (46, 15), (46, 16)] rfl (by decide +kernel)) gtl_X9)
theorem gL_law_X9_look : GoodIn lw_tbl (wsV RL 134 RX9 yX9_look wsX9_look) := goodIn_app (good_rr ([.methodLink RL 134 yX9_look, .instanceMethod yX9_look, .selects RX9 yX9_look yX9_look, .initialized RX9] : List Cond) [(46, 9), (46, 10), (46, 11), (0, 5)] rfl (by decide +kernel)) ggL_law_X9_look
set_option maxRecDepth 100000 in
set_option maxHeartbeats 4000000 in
theorem ggL_law_X9_seed : GoodIn lw_tbl wsX9_seed := goodIn_cons (good_rr [_] [(47, 1)] rfl (by decide +kernel)) (goodIn_app (good_rr _ [(4, 20)] rfl (by decide +kernel)) gtl_X9)
theorem gL_law_X9_seed : GoodIn lw_tbl (wsV RL 138 RX9 yX9_seed wsX9_seed) := goodIn_app (good_rr ([.methodLink RL 138 yX9_seed, .instanceMethod yX9_seed, .selects RX9 yX9_seed yX9_seed, .initialized RX9] : List Cond) [(46, 22), (46, 23), (47, 0), (0, 5)] rfl (by decide +kernel)) ggL_law_X9_seed
set_option maxRecDepth 100000 in
set_option maxHeartbeats 4000000 in
theorem ggL_law_X9_toasts : GoodIn lw_tbl wsX9_toasts := goodIn_cons (good_rr [_] [(48, 3)] rfl (by decide +kernel)) (goodIn_app (good_rr _ [(48, 4), (45, 6), (36, 1), (4, 20), (30, 21), (30, 22), (30, 23), (0, 5), (31, 0), (18, 6), (18, 7), (18, 8), (36, 2), (36, 3), (36, 4), (36, 5), (36, 6), (36, 7), (36, 8), (36, 9), (36, 10), (36, 11), (4, 21), (4, 22), (4, 23), (5, 0), (6, 2), (15, 17), (5, 1), (5, 2), (5, 3), (5, 4), (5, 5), (5, 6), (6, 1), (36, 12), (36, 13), (36, 14), (36, 15), (6, 8), (48, 5), (48, 6), (48, 7), (48, 8), (48, 9), (48, 10), (48, 11), (48, 12), (48, 13), (48, 14), (48, 15), (48, 16), (32, 20), (32, 21), (32, 22), (32, 23), (26, 2), (26, 3), (26, 4), (26, 5), (33, 0), (33, 1), (33, 2), (33, 3), (26, 10), (26, 11), (26, 12), (26, 6), (26, 7), (26, 8), (26, 9), (26, 13), (26, 14), (26, 15), (26, 16), (26, 17), (26, 18), (26, 19), (26, 20), (31, 19), (31, 20), (31, 21), (31, 22), (31, 23), (32, 0), (32, 1), (32, 2), (6, 0), (5, 22), (25, 22), (25, 23), (26, 0), (26, 1), (32, 3), (32, 4), (32, 5), (32, 6), (32, 7), (32, 8), (32, 9), (5, 17), (5, 19), (5, 20), (5, 18), (32, 10), (32, 11), (32, 12), (32, 13), (5, 15), (5, 16), (5, 23), (32, 14), (32, 15), (32, 16), (32, 17), (32, 18), (32, 19), (36, 20), (36, 21), (36, 22), (36, 23)] rfl (by decide +kernel)) gtl_X9)
theorem gL_law_X9_toasts : GoodIn lw_tbl (wsV RL 142 RX9 yX9_toasts wsX9_toasts) := goodIn_app (good_rr ([.methodLink RL 142 yX9_toasts, .instanceMethod yX9_toasts, .selects RX9 yX9_toasts yX9_toasts, .initialized RX9] : List Cond) [(48, 0), (48, 1), (48, 2), (0, 5)] rfl (by decide +kernel)) ggL_law_X9_toasts
set_option maxRecDepth 100000 in
set_option maxHeartbeats 4000000 in
theorem ggL_law_X9_count : GoodIn lw_tbl wsX9_count := goodIn_cons (good_rr [_] [(49, 1)] rfl (by decide +kernel)) (goodIn_app (good_rr _ [(4, 20), (21, 5), (15, 17), (6, 23), (26, 2), (26, 3), (26, 4), (0, 5), (26, 5), (4, 22), (44, 13), (44, 14), (44, 15), (44, 16), (25, 22), (25, 23), (26, 0), (26, 1), (26, 6), (26, 7), (26, 8), (26, 9), (4, 23), (5, 2), (4, 21), (5, 0), (26, 10), (26, 11), (26, 12), (26, 13), (26, 14), (26, 15), (26, 16), (26, 17), (26, 18), (26, 19), (26, 20)] rfl (by decide +kernel)) gtl_X9)
theorem gL_law_X9_count : GoodIn lw_tbl (wsV RL 146 RX9 yX9_count wsX9_count) := goodIn_app (good_rr ([.methodLink RL 146 yX9_count, .instanceMethod yX9_count, .selects RX9 yX9_count yX9_count, .initialized RX9] : List Cond) [(48, 22), (48, 23), (49, 0), (0, 5)] rfl (by decide +kernel)) ggL_law_X9_count
set_option maxRecDepth 100000 in
set_option maxHeartbeats 4000000 in
theorem ggL_law_X9_image : GoodIn lw_tbl wsX9_image := goodIn_cons (good_rr [_] [(50, 0)] rfl (by decide +kernel)) (goodIn_app (good_rr _ [(25, 13), (6, 9), (4, 20), (18, 6), (18, 7), (0, 5), (18, 8), (36, 6), (36, 7), (36, 8), (36, 9), (36, 10), (36, 11), (4, 21), (4, 22), (4, 23), (5, 0), (6, 2), (15, 17), (5, 1), (5, 2), (5, 3), (5, 4), (5, 5), (5, 6), (6, 1), (36, 12), (36, 13), (36, 14), (36, 15), (6, 8)] rfl (by decide +kernel)) gtl_X9)
theorem gL_law_X9_image : GoodIn lw_tbl (wsV RL 150 RX9 yX9_image wsX9_image) := goodIn_app (good_rr ([.methodLink RL 150 yX9_image, .instanceMethod yX9_image, .selects RX9 yX9_image yX9_image, .initialized RX9] : List Cond) [(49, 21), (49, 22), (49, 23), (0, 5)] rfl (by decide +kernel)) ggL_law_X9_image
set_option maxRecDepth 100000 in
set_option maxHeartbeats 4000000 in
theorem ggL_law_X9_back : GoodIn lw_tbl wsX9_back := goodIn_cons (good_rr [_] [(50, 8)] rfl (by decide +kernel)) (goodIn_app (good_rr _ [(25, 13), (6, 9), (4, 20), (18, 6), (18, 7), (0, 5), (18, 8), (36, 6), (36, 7), (36, 8), (36, 9), (36, 10), (36, 11), (4, 21), (4, 22), (4, 23), (5, 0), (6, 2), (15, 17), (5, 1), (5, 2), (5, 3), (5, 4), (5, 5), (5, 6), (6, 1), (36, 12), (36, 13), (36, 14), (36, 15), (6, 8)] rfl (by decide +kernel)) gtl_X9)
theorem gL_law_X9_back : GoodIn lw_tbl (wsV RL 154 RX9 yX9_back wsX9_back) := goodIn_app (good_rr ([.methodLink RL 154 yX9_back, .instanceMethod yX9_back, .selects RX9 yX9_back yX9_back, .initialized RX9] : List Cond) [(50, 5), (50, 6), (50, 7), (0, 5)] rfl (by decide +kernel)) ggL_law_X9_back
end
section
/-! the law: what its start gives -/
noncomputable def R_law : String := "ChairCaneLaw"
noncomputable def lw_P (b : Addr) (xs : List Int32) (args : Array Value) (s : State) : Prop := args = #[.ref b] ∧ s.IntsAt b xs ∧ xs.length ≤ 3072 ∧ (Jvm.Cond.and given_1 narrow_1).before args s = true
noncomputable def lw_Q (_ : Array Value) (s : State) (o : Outcome) (t : State) : Prop := o = .returned (some (.int 1)) ∧ Framed s o t [] 600000 7302250
noncomputable def lw_Z (below : List Frame) (a : Array Value) (s : State) : State → Prop := fun t => ∃ o, t.status = .running ∧ Ended t below o ∧ lw_Q a s o t
/-- the law's own end, with 1 on the stack, nothing written that was there before, its room as the claim has it -/
theorem bf_l {a b : Cond} {args : Array Value} {s : State} (h : (Cond.and a b).before args s = true) : a.before args s = true := by
  rw [Cond.before_and, Bool.and_eq_true] at h
  exact h.1
theorem bf_r {a b : Cond} {args : Array Value} {s : State} (h : (Cond.and a b).before args s = true) : b.before args s = true := by
  rw [Cond.before_and, Bool.and_eq_true] at h
  exact h.2
theorem lw_ret {p : Program} {l : Launch} {e : Env} {s : State} {m : MethodId} {below : List Frame} {meth : Method} {c : Code} {b : Nat} (hx : p.tables.exec = Jvm.exec) (hb : c.code = code) (hr : meth.sig.returnType = ret) (hlocks : meth.locks = false) {pc : Nat} {H : Heap} {ls : Array Slot} (hdg : decode code pc = .ok (.ireturn, 1)) : W p l e room_1 s m #[Value.ref b] below meth c H [] 600000 7302250 (lw_Z below #[Value.ref b] s) (F0 m pc ls [.int 1]) := by
  intro T hT X
  obtain ⟨fs, hret, hrun, hended, hW, hframe⟩ := X.leave (v := some (.int 1)) (hlocks := hlocks) (fun h => by rw [hr] at h; cases h)
  have hmeth' : T.vm.method? m = some meth := X.method'
  refine ⟨T.setFrames fs, ?_, .returned (some (.int 1)), hrun, hended, rfl, ⟨_, rfl⟩, hW, hframe⟩
  jvm_step X.here [X.here.top, hx, hb, hdg, hmeth', hr, ret, narrow_b1]
  (try refine ⟨rfl, ?_⟩); (try refine ⟨rfl, ?_⟩)
  first | (intro acts; rw [hret _ acts rfl rfl rfl]) | rw [hret _ _ rfl rfl rfl]
  exact Steps.refl _
/-- what holds at the law's entry: the machine, the code, the tables' words (any of lw_tbl by 'hts w (by decide +kernel)'), the script of L ints xs at the cell b, what the Statement gives of the start (any of its parts by flat_of_before) -/
noncomputable def lw_At (p : Program) (s : State) (m : MethodId) (meth : Method) (c : Code) (b L : Nat) (xs : Nat → Int32) : Prop :=
  p.tables.exec = Jvm.exec ∧ c.code = code ∧ meth.sig.returnType = ret ∧ c.maxLocals = 4 ∧ s.vm.findClass R_law = some m.cls ∧ (∀ w ∈ lw_tbl, w.before #[Value.ref b] s = true) ∧ va_X b L xs s s.heap ∧ b < s.heap.size ∧ meth.locks = false ∧ (Jvm.Cond.and given_1 narrow_1).before #[Value.ref b] s = true

theorem hc_arr {args : Array Value} {s : State} {ty : FieldType} (h : (Cond.arrayClass ty).before args s = true) : ∃ cA : ClassId, ArrOfT s cA ty ∧ s.vm.findClass ("[" ++ ty.toString) = some cA := by
  obtain ⟨c, k, comp, h1, h2, h3⟩ := Cond.arrayClass_spec h
  exact ⟨c, fun n z => ⟨fun k h => (by cases h), k, h2, comp, h3⟩, h1⟩
theorem hc_arrO {args : Array Value} {s : State} {C : String} (h : (Cond.arrayOver (.object C)).before args s = true) : ∃ cA : ClassId, ArrOfT s cA (.object C) ∧ va_RA s cA (.object C) := by
  obtain ⟨comp, c, k, h1, -, h2, h3, h4⟩ := Cond.arrayOver_spec h
  exact ⟨c, fun n z => ⟨fun k h => (by cases h), k, h2, comp, h3⟩, ⟨k, comp, h2, h3, h1, h4⟩⟩
set_option maxHeartbeats 4000000 in
theorem law_GK {args : Array Value} {s : State} (hts : ∀ w ∈ lw_tbl, w.before args s = true) : ∃ (D : va_G) (k : Nat → ClassId), GK D k s := by
  obtain ⟨c0, iS0, hKn0⟩ := u_known (C := RX0) (T := TX0) (N := 5) (n := 5) hts inX0 (hts (.instantiable RX0 5) (List.mem_of_getElem? (i := 242) (by decide +kernel)))
  obtain ⟨c1, iS1, hKn1⟩ := u_known (C := RX2) (T := TX2) (N := 4) (n := 4) hts inX2 (hts (.instantiable RX2 4) (List.mem_of_getElem? (i := 265) (by decide +kernel)))
  obtain ⟨c2, iS2, hKn2⟩ := u_known (C := RX3) (T := TX3) (N := 17) (n := 17) hts inX3 (hts (.instantiable RX3 17) (List.mem_of_getElem? (i := 157) (by decide +kernel)))
  obtain ⟨c3, iS3, hKn3⟩ := u_known (C := RX4) (T := TX4) (N := 8) (n := 8) hts inX4 (hts (.instantiable RX4 8) (List.mem_of_getElem? (i := 308) (by decide +kernel)))
  obtain ⟨c4, iS4, hKn4⟩ := u_known (C := RX6) (T := TX6) (N := 5) (n := 5) hts inX6 (hts (.instantiable RX6 5) (List.mem_of_getElem? (i := 151) (by decide +kernel)))
  obtain ⟨c5, iS5, hKn5⟩ := u_known (C := RX7) (T := TX7) (N := 8) (n := 8) hts inX7 (hts (.instantiable RX7 8) (List.mem_of_getElem? (i := 114) (by decide +kernel)))
  obtain ⟨c6, iS6, hKn6⟩ := u_known (C := RX8) (T := TX8) (N := 12) (n := 12) hts inX8 (hts (.instantiable RX8 12) (List.mem_of_getElem? (i := 106) (by decide +kernel)))
  obtain ⟨c7, iS7, hKn7⟩ := u_known (C := RX9) (T := TX9) (N := 53) (n := 53) hts inX9 (hts (.instantiable RX9 53) (List.mem_of_getElem? (i := 948) (by decide +kernel)))
  obtain ⟨a0, aT0, aN0⟩ := hc_arr (ty := .int) (hts (.arrayClass .int) (List.mem_of_getElem? (i := 147) (by decide +kernel)))
  obtain ⟨a1, aT1, aN1⟩ := hc_arr (ty := .byte) (hts (.arrayClass .byte) (List.mem_of_getElem? (i := 146) (by decide +kernel)))
  obtain ⟨a2, aT2, aN2⟩ := hc_arr (ty := .boolean) (hts (.arrayClass .boolean) (List.mem_of_getElem? (i := 340) (by decide +kernel)))
  obtain ⟨a3, aT3, aN3⟩ := hc_arr (ty := .long) (hts (.arrayClass .long) (List.mem_of_getElem? (i := 341) (by decide +kernel)))
  have hO4 : (Cond.arrayOver (.object RX4)).before args s = true := hts _ (List.mem_of_getElem? (i := 149) (by decide +kernel))
  obtain ⟨a4, aT4, aN4⟩ := hc_arrO hO4
  have hO5 : (Cond.arrayOver (.object RX6)).before args s = true := hts _ (List.mem_of_getElem? (i := 305) (by decide +kernel))
  obtain ⟨a5, aT5, aN5⟩ := hc_arrO hO5
  refine ⟨(fun k => if k = 0 then c0 else if k = 1 then c1 else if k = 2 then c2 else if k = 3 then c3 else if k = 4 then c4 else if k = 5 then c5 else if k = 6 then c6 else c7, fun k => if k = 0 then iS0 else if k = 1 then iS1 else if k = 2 then iS2 else if k = 3 then iS3 else if k = 4 then iS4 else if k = 5 then iS5 else if k = 6 then iS6 else iS7), fun k => if k = 0 then a0 else if k = 1 then a1 else if k = 2 then a2 else if k = 3 then a3 else if k = 4 then a4 else a5, ⟨?_, ?_⟩, va_AO.of hO4, va_AO.of hO5, ⟨va_Nw.of rfl (hts (.methodLinkNest RX8 9 yX7_init RX8) (List.mem_of_getElem? (i := 115) (by decide +kernel))), va_Nw.of rfl (hts (.methodLinkNest RX8 28 yX6_init RX8) (List.mem_of_getElem? (i := 152) (by decide +kernel))), va_Nw.of rfl (hts (.methodLinkNest RX6 11 yX3_init RX8) (List.mem_of_getElem? (i := 158) (by decide +kernel))), va_Nw.of rfl (hts (.methodLinkNest RX6 20 yX0_init RX8) (List.mem_of_getElem? (i := 243) (by decide +kernel))), va_Nw.of rfl (hts (.methodLinkNest RX6 27 yX2_init RX8) (List.mem_of_getElem? (i := 266) (by decide +kernel))), va_Nw.of rfl (hts (.methodLinkNest RX8 43 yX3_init RX8) (List.mem_of_getElem? (i := 307) (by decide +kernel))), va_Nw.of rfl (hts (.methodLinkNest RX8 64 yX4_init RX8) (List.mem_of_getElem? (i := 309) (by decide +kernel)))⟩⟩
  · intro k q hq
    match k, hq with
    | 0, hq => cases hq; exact hKn0
    | 1, hq => cases hq; exact hKn1
    | 2, hq => cases hq; exact hKn2
    | 3, hq => cases hq; exact hKn3
    | 4, hq => cases hq; exact hKn4
    | 5, hq => cases hq; exact hKn5
    | 6, hq => cases hq; exact hKn6
    | 7, hq => cases hq; exact hKn7
    | k + 8, hq => simp [vwCl] at hq
  · intro k q hq
    match k, hq with
    | 0, hq => cases hq; exact ⟨aT0, aN0⟩
    | 1, hq => cases hq; exact ⟨aT1, aN1⟩
    | 2, hq => cases hq; exact ⟨aT2, aN2⟩
    | 3, hq => cases hq; exact ⟨aT3, aN3⟩
    | 4, hq => cases hq; exact ⟨aT4, aN4⟩
    | 5, hq => cases hq; exact ⟨aT5, aN5⟩
    | k + 6, hq => simp [tysA] at hq
theorem str_of {args : Array Value} {s : State} {A : Nat → Prop} (own : String) (ix n : Nat) (bt : List Int32) (hn : n < 2 ^ 31) (hex : (Cond.exactly (.string own ix) "java/lang/String").before args s = true) (hco : (Cond.eq (.field (.string own ix) "java/lang/String" "coder" "B") (.int 0)).before args s = true) (har : (Cond.arrayOf (.field (.string own ix) "java/lang/String" "value" "[B") .byte).before args s = true) (hle : (Cond.eq (.length (.field (.string own ix) "java/lang/String" "value" "[B")) (.int (Int32.ofNat n))).before args s = true) (hel : ∀ j : Nat, j < n → (Cond.eq (.elem (.field (.string own ix) "java/lang/String" "value" "[B") (.int (Int32.ofNat j))) (.int (bt.getD j 0))).before args s = true) (hA : ∀ a : Nat, a < s.heap.size → ¬ A a) : ∃ a t : Nat, strF A a t n (fun j => bt.getD j 0) s s.heap ∧ (Term.string own ix).eval args s none [] s = some (.ref a) := by
  obtain ⟨aK, aV, h, hev⟩ := vk_Sof (N := 1) (tm := fun _ => .string own ix) (len := [n]) (byt := [bt]) (A := A) (fun i hi => (by have e : i = 0 := Nat.lt_one_iff.mp hi; subst e; exact hn)) (fun i _ => hex) (fun i _ => hco) (fun i _ => har) (fun i hi => (by have e : i = 0 := Nat.lt_one_iff.mp hi; subst e; exact hle)) (fun i hi j hj => (by have e : i = 0 := Nat.lt_one_iff.mp hi; subst e; exact hel j hj)) (fun i j hi hj hij => absurd ((Nat.lt_one_iff.mp hi).trans (Nat.lt_one_iff.mp hj).symm) hij) hA
  have h0 := h.1 0 (by decide)
  exact ⟨aK 0, aV 0, ⟨h0.1, h0.2.1, h0.2.2.1, h0.2.2.2⟩, hev 0 (by decide)⟩
theorem law_stat {b : Nat} {s : State} (hts : ∀ w ∈ lw_tbl, w.before #[Value.ref b] s = true) (hgv : (Jvm.Cond.and given_1 narrow_1).before #[Value.ref b] s = true) : cmpF (fun q : Nat => s.heap.size ≤ q) s s.heap ∧ fmtF (fun q : Nat => s.heap.size ≤ q) s s.heap := by
  have hs := flat_of_before _ hgv
  have hA : ∀ a : Nat, a < s.heap.size → ¬ (fun q : Nat => s.heap.size ≤ q) a := fun a h => Nat.not_le.mpr h
  exact ⟨va_Zof (hts (.laysStatic "java/lang/String" "COMPACT_STRINGS" "Z") (List.mem_of_getElem? (i := 452) (by decide +kernel))) (hts (.initialized "java/lang/String") (List.mem_of_getElem? (i := 96) (by decide +kernel))) (va_eqi (show Jvm.Cond.before (Cond.eq (.static "java/lang/String" "COMPACT_STRINGS" "Z") (.int 1)) #[Value.ref b] s = true from bf_l (bf_r (bf_l (bf_l (bf_l (bf_l (bf_l (bf_l (bf_r hgv)))))))))) hA, va_Zqof (hts (.laysStatic "jdk/internal/util/Preconditions" "SIOOBE_FORMATTER" "Ljava/util/function/BiFunction;") (List.mem_of_getElem? (i := 468) (by decide +kernel))) (hts (.initialized "jdk/internal/util/Preconditions") (List.mem_of_getElem? (i := 98) (by decide +kernel))) (show Jvm.Cond.before (Cond.isRef (.static "jdk/internal/util/Preconditions" "SIOOBE_FORMATTER" "Ljava/util/function/BiFunction;")) #[Value.ref b] s = true from bf_l (bf_r (bf_r (bf_l (bf_l (bf_l (bf_l (bf_l (bf_l (bf_r hgv)))))))))) hA⟩
set_option maxHeartbeats 4000000 in
set_option maxRecDepth 20000 in
theorem law_tX_0 {b : Nat} {s : State} (hgv : (Jvm.Cond.and given_1 narrow_1).before #[Value.ref b] s = true) : ∃ d t : Nat, strF (fun q : Nat => s.heap.size ≤ q) d t 6 (fun j => ([115, 105, 116, 116, 101, 114] : List Int32).getD j 0) s s.heap ∧ (Term.string "ChairCane$Tape" 97).eval #[Value.ref b] s none [] s = some (.ref d) := by
  have hs := flat_of_before _ hgv
  have hA : ∀ a : Nat, a < s.heap.size → ¬ (fun q : Nat => s.heap.size ≤ q) a := fun a h => Nat.not_le.mpr h
  exact str_of (A := fun q : Nat => s.heap.size ≤ q) "ChairCane$Tape" 97 6 [115, 105, 116, 116, 101, 114] (by decide) (show Jvm.Cond.before (Cond.exactly (.string "ChairCane$Tape" 97) "java/lang/String") #[Value.ref b] s = true from bf_r (bf_l (bf_l (bf_l (bf_r (bf_l (bf_l (bf_l (bf_r hgv))))))))) (show Jvm.Cond.before (Cond.eq (.field (.string "ChairCane$Tape" 97) "java/lang/String" "coder" "B") (.int 0)) #[Value.ref b] s = true from bf_l (bf_r (bf_l (bf_l (bf_r (bf_l (bf_l (bf_l (bf_r hgv))))))))) (show Jvm.Cond.before (Cond.arrayOf (.field (.string "ChairCane$Tape" 97) "java/lang/String" "value" "[B") .byte) #[Value.ref b] s = true from bf_l (bf_r (bf_r (bf_l (bf_l (bf_r (bf_l (bf_l (bf_l (bf_r hgv)))))))))) (show Jvm.Cond.before (Cond.eq (.length (.field (.string "ChairCane$Tape" 97) "java/lang/String" "value" "[B")) (.int 6)) #[Value.ref b] s = true from bf_r (bf_r (bf_r (bf_l (bf_l (bf_r (bf_l (bf_l (bf_l (bf_r hgv)))))))))) (by
      intro j hj
      match j, hj with
      | 0, _ => exact show Jvm.Cond.before (Cond.eq (.elem (.field (.string "ChairCane$Tape" 97) "java/lang/String" "value" "[B") (.int 0)) (.int 115)) #[Value.ref b] s = true from bf_l (bf_l (bf_r (bf_l (bf_r (bf_l (bf_l (bf_l (bf_r hgv))))))))
      | 1, _ => exact show Jvm.Cond.before (Cond.eq (.elem (.field (.string "ChairCane$Tape" 97) "java/lang/String" "value" "[B") (.int 1)) (.int 105)) #[Value.ref b] s = true from bf_l (bf_r (bf_l (bf_r (bf_l (bf_r (bf_l (bf_l (bf_l (bf_r hgv)))))))))
      | 2, _ => exact show Jvm.Cond.before (Cond.eq (.elem (.field (.string "ChairCane$Tape" 97) "java/lang/String" "value" "[B") (.int 2)) (.int 116)) #[Value.ref b] s = true from bf_r (bf_r (bf_l (bf_r (bf_l (bf_r (bf_l (bf_l (bf_l (bf_r hgv)))))))))
      | 3, _ => exact show Jvm.Cond.before (Cond.eq (.elem (.field (.string "ChairCane$Tape" 97) "java/lang/String" "value" "[B") (.int 3)) (.int 116)) #[Value.ref b] s = true from bf_l (bf_r (bf_r (bf_l (bf_r (bf_l (bf_l (bf_l (bf_r hgv))))))))
      | 4, _ => exact show Jvm.Cond.before (Cond.eq (.elem (.field (.string "ChairCane$Tape" 97) "java/lang/String" "value" "[B") (.int 4)) (.int 101)) #[Value.ref b] s = true from bf_l (bf_r (bf_r (bf_r (bf_l (bf_r (bf_l (bf_l (bf_l (bf_r hgv)))))))))
      | 5, _ => exact show Jvm.Cond.before (Cond.eq (.elem (.field (.string "ChairCane$Tape" 97) "java/lang/String" "value" "[B") (.int 5)) (.int 114)) #[Value.ref b] s = true from bf_r (bf_r (bf_r (bf_r (bf_l (bf_r (bf_l (bf_l (bf_l (bf_r hgv)))))))))
      | j + 6, h => exact absurd h (by omega)) hA
set_option maxHeartbeats 4000000 in
set_option maxRecDepth 20000 in
theorem law_tX_1 {b : Nat} {s : State} (hgv : (Jvm.Cond.and given_1 narrow_1).before #[Value.ref b] s = true) : ∃ d t : Nat, strF (fun q : Nat => s.heap.size ≤ q) d t 5 (fun j => ([99, 104, 97, 105, 114] : List Int32).getD j 0) s s.heap ∧ (Term.string "ChairCane$Tape" 99).eval #[Value.ref b] s none [] s = some (.ref d) := by
  have hs := flat_of_before _ hgv
  have hA : ∀ a : Nat, a < s.heap.size → ¬ (fun q : Nat => s.heap.size ≤ q) a := fun a h => Nat.not_le.mpr h
  exact str_of (A := fun q : Nat => s.heap.size ≤ q) "ChairCane$Tape" 99 5 [99, 104, 97, 105, 114] (by decide) (show Jvm.Cond.before (Cond.exactly (.string "ChairCane$Tape" 99) "java/lang/String") #[Value.ref b] s = true from bf_l (bf_l (bf_l (bf_r (bf_r (bf_l (bf_l (bf_l (bf_r hgv))))))))) (show Jvm.Cond.before (Cond.eq (.field (.string "ChairCane$Tape" 99) "java/lang/String" "coder" "B") (.int 0)) #[Value.ref b] s = true from bf_r (bf_l (bf_l (bf_r (bf_r (bf_l (bf_l (bf_l (bf_r hgv))))))))) (show Jvm.Cond.before (Cond.arrayOf (.field (.string "ChairCane$Tape" 99) "java/lang/String" "value" "[B") .byte) #[Value.ref b] s = true from bf_l (bf_r (bf_l (bf_r (bf_r (bf_l (bf_l (bf_l (bf_r hgv))))))))) (show Jvm.Cond.before (Cond.eq (.length (.field (.string "ChairCane$Tape" 99) "java/lang/String" "value" "[B")) (.int 5)) #[Value.ref b] s = true from bf_l (bf_r (bf_r (bf_l (bf_r (bf_r (bf_l (bf_l (bf_l (bf_r hgv)))))))))) (by
      intro j hj
      match j, hj with
      | 0, _ => exact show Jvm.Cond.before (Cond.eq (.elem (.field (.string "ChairCane$Tape" 99) "java/lang/String" "value" "[B") (.int 0)) (.int 99)) #[Value.ref b] s = true from bf_r (bf_r (bf_r (bf_l (bf_r (bf_r (bf_l (bf_l (bf_l (bf_r hgv)))))))))
      | 1, _ => exact show Jvm.Cond.before (Cond.eq (.elem (.field (.string "ChairCane$Tape" 99) "java/lang/String" "value" "[B") (.int 1)) (.int 104)) #[Value.ref b] s = true from bf_l (bf_l (bf_r (bf_r (bf_r (bf_l (bf_l (bf_l (bf_r hgv))))))))
      | 2, _ => exact show Jvm.Cond.before (Cond.eq (.elem (.field (.string "ChairCane$Tape" 99) "java/lang/String" "value" "[B") (.int 2)) (.int 97)) #[Value.ref b] s = true from bf_l (bf_r (bf_l (bf_r (bf_r (bf_r (bf_l (bf_l (bf_l (bf_r hgv)))))))))
      | 3, _ => exact show Jvm.Cond.before (Cond.eq (.elem (.field (.string "ChairCane$Tape" 99) "java/lang/String" "value" "[B") (.int 3)) (.int 105)) #[Value.ref b] s = true from bf_r (bf_r (bf_l (bf_r (bf_r (bf_r (bf_l (bf_l (bf_l (bf_r hgv)))))))))
      | 4, _ => exact show Jvm.Cond.before (Cond.eq (.elem (.field (.string "ChairCane$Tape" 99) "java/lang/String" "value" "[B") (.int 4)) (.int 114)) #[Value.ref b] s = true from bf_l (bf_r (bf_r (bf_r (bf_r (bf_l (bf_l (bf_l (bf_r hgv))))))))
      | j + 5, h => exact absurd h (by omega)) hA
set_option maxHeartbeats 4000000 in
set_option maxRecDepth 20000 in
theorem law_tX_2 {b : Nat} {s : State} (hgv : (Jvm.Cond.and given_1 narrow_1).before #[Value.ref b] s = true) : ∃ d t : Nat, strF (fun q : Nat => s.heap.size ≤ q) d t 6 (fun j => ([119, 101, 105, 103, 104, 116] : List Int32).getD j 0) s s.heap ∧ (Term.string "ChairCane$Tape" 101).eval #[Value.ref b] s none [] s = some (.ref d) := by
  have hs := flat_of_before _ hgv
  have hA : ∀ a : Nat, a < s.heap.size → ¬ (fun q : Nat => s.heap.size ≤ q) a := fun a h => Nat.not_le.mpr h
  exact str_of (A := fun q : Nat => s.heap.size ≤ q) "ChairCane$Tape" 101 6 [119, 101, 105, 103, 104, 116] (by decide) (show Jvm.Cond.before (Cond.exactly (.string "ChairCane$Tape" 101) "java/lang/String") #[Value.ref b] s = true from bf_l (bf_r (bf_r (bf_r (bf_r (bf_r (bf_l (bf_l (bf_l (bf_r hgv)))))))))) (show Jvm.Cond.before (Cond.eq (.field (.string "ChairCane$Tape" 101) "java/lang/String" "coder" "B") (.int 0)) #[Value.ref b] s = true from bf_r (bf_r (bf_r (bf_r (bf_r (bf_r (bf_l (bf_l (bf_l (bf_r hgv)))))))))) (show Jvm.Cond.before (Cond.arrayOf (.field (.string "ChairCane$Tape" 101) "java/lang/String" "value" "[B") .byte) #[Value.ref b] s = true from bf_l (bf_l (bf_l (bf_l (bf_l (bf_r (bf_l (bf_l (bf_r hgv))))))))) (show Jvm.Cond.before (Cond.eq (.length (.field (.string "ChairCane$Tape" 101) "java/lang/String" "value" "[B")) (.int 6)) #[Value.ref b] s = true from bf_r (bf_l (bf_l (bf_l (bf_l (bf_r (bf_l (bf_l (bf_r hgv))))))))) (by
      intro j hj
      match j, hj with
      | 0, _ => exact show Jvm.Cond.before (Cond.eq (.elem (.field (.string "ChairCane$Tape" 101) "java/lang/String" "value" "[B") (.int 0)) (.int 119)) #[Value.ref b] s = true from bf_l (bf_r (bf_l (bf_l (bf_l (bf_r (bf_l (bf_l (bf_r hgv))))))))
      | 1, _ => exact show Jvm.Cond.before (Cond.eq (.elem (.field (.string "ChairCane$Tape" 101) "java/lang/String" "value" "[B") (.int 1)) (.int 101)) #[Value.ref b] s = true from bf_l (bf_r (bf_r (bf_l (bf_l (bf_l (bf_r (bf_l (bf_l (bf_r hgv)))))))))
      | 2, _ => exact show Jvm.Cond.before (Cond.eq (.elem (.field (.string "ChairCane$Tape" 101) "java/lang/String" "value" "[B") (.int 2)) (.int 105)) #[Value.ref b] s = true from bf_r (bf_r (bf_r (bf_l (bf_l (bf_l (bf_r (bf_l (bf_l (bf_r hgv)))))))))
      | 3, _ => exact show Jvm.Cond.before (Cond.eq (.elem (.field (.string "ChairCane$Tape" 101) "java/lang/String" "value" "[B") (.int 3)) (.int 103)) #[Value.ref b] s = true from bf_l (bf_l (bf_r (bf_l (bf_l (bf_r (bf_l (bf_l (bf_r hgv))))))))
      | 4, _ => exact show Jvm.Cond.before (Cond.eq (.elem (.field (.string "ChairCane$Tape" 101) "java/lang/String" "value" "[B") (.int 4)) (.int 104)) #[Value.ref b] s = true from bf_l (bf_r (bf_l (bf_r (bf_l (bf_l (bf_r (bf_l (bf_l (bf_r hgv)))))))))
      | 5, _ => exact show Jvm.Cond.before (Cond.eq (.elem (.field (.string "ChairCane$Tape" 101) "java/lang/String" "value" "[B") (.int 5)) (.int 116)) #[Value.ref b] s = true from bf_r (bf_r (bf_l (bf_r (bf_l (bf_l (bf_r (bf_l (bf_l (bf_r hgv)))))))))
      | j + 6, h => exact absurd h (by omega)) hA
set_option maxHeartbeats 4000000 in
set_option maxRecDepth 20000 in
theorem law_tX_3 {b : Nat} {s : State} (hgv : (Jvm.Cond.and given_1 narrow_1).before #[Value.ref b] s = true) : ∃ d t : Nat, strF (fun q : Nat => s.heap.size ≤ q) d t 6 (fun j => ([104, 101, 105, 103, 104, 116] : List Int32).getD j 0) s s.heap ∧ (Term.string "ChairCane$Tape" 103).eval #[Value.ref b] s none [] s = some (.ref d) := by
  have hs := flat_of_before _ hgv
  have hA : ∀ a : Nat, a < s.heap.size → ¬ (fun q : Nat => s.heap.size ≤ q) a := fun a h => Nat.not_le.mpr h
  exact str_of (A := fun q : Nat => s.heap.size ≤ q) "ChairCane$Tape" 103 6 [104, 101, 105, 103, 104, 116] (by decide) (show Jvm.Cond.before (Cond.exactly (.string "ChairCane$Tape" 103) "java/lang/String") #[Value.ref b] s = true from bf_l (bf_r (bf_r (bf_l (bf_l (bf_r (bf_l (bf_l (bf_r hgv))))))))) (show Jvm.Cond.before (Cond.eq (.field (.string "ChairCane$Tape" 103) "java/lang/String" "coder" "B") (.int 0)) #[Value.ref b] s = true from bf_l (bf_r (bf_r (bf_r (bf_l (bf_l (bf_r (bf_l (bf_l (bf_r hgv)))))))))) (show Jvm.Cond.before (Cond.arrayOf (.field (.string "ChairCane$Tape" 103) "java/lang/String" "value" "[B") .byte) #[Value.ref b] s = true from bf_r (bf_r (bf_r (bf_r (bf_l (bf_l (bf_r (bf_l (bf_l (bf_r hgv)))))))))) (show Jvm.Cond.before (Cond.eq (.length (.field (.string "ChairCane$Tape" 103) "java/lang/String" "value" "[B")) (.int 6)) #[Value.ref b] s = true from bf_l (bf_l (bf_l (bf_r (bf_l (bf_r (bf_l (bf_l (bf_r hgv))))))))) (by
      intro j hj
      match j, hj with
      | 0, _ => exact show Jvm.Cond.before (Cond.eq (.elem (.field (.string "ChairCane$Tape" 103) "java/lang/String" "value" "[B") (.int 0)) (.int 104)) #[Value.ref b] s = true from bf_r (bf_l (bf_l (bf_r (bf_l (bf_r (bf_l (bf_l (bf_r hgv))))))))
      | 1, _ => exact show Jvm.Cond.before (Cond.eq (.elem (.field (.string "ChairCane$Tape" 103) "java/lang/String" "value" "[B") (.int 1)) (.int 101)) #[Value.ref b] s = true from bf_l (bf_r (bf_l (bf_r (bf_l (bf_r (bf_l (bf_l (bf_r hgv))))))))
      | 2, _ => exact show Jvm.Cond.before (Cond.eq (.elem (.field (.string "ChairCane$Tape" 103) "java/lang/String" "value" "[B") (.int 2)) (.int 105)) #[Value.ref b] s = true from bf_l (bf_r (bf_r (bf_l (bf_r (bf_l (bf_r (bf_l (bf_l (bf_r hgv)))))))))
      | 3, _ => exact show Jvm.Cond.before (Cond.eq (.elem (.field (.string "ChairCane$Tape" 103) "java/lang/String" "value" "[B") (.int 3)) (.int 103)) #[Value.ref b] s = true from bf_r (bf_r (bf_r (bf_l (bf_r (bf_l (bf_r (bf_l (bf_l (bf_r hgv)))))))))
      | 4, _ => exact show Jvm.Cond.before (Cond.eq (.elem (.field (.string "ChairCane$Tape" 103) "java/lang/String" "value" "[B") (.int 4)) (.int 104)) #[Value.ref b] s = true from bf_l (bf_l (bf_r (bf_r (bf_l (bf_r (bf_l (bf_l (bf_r hgv))))))))
      | 5, _ => exact show Jvm.Cond.before (Cond.eq (.elem (.field (.string "ChairCane$Tape" 103) "java/lang/String" "value" "[B") (.int 5)) (.int 116)) #[Value.ref b] s = true from bf_l (bf_r (bf_l (bf_r (bf_r (bf_l (bf_r (bf_l (bf_l (bf_r hgv)))))))))
      | j + 6, h => exact absurd h (by omega)) hA
set_option maxHeartbeats 4000000 in
set_option maxRecDepth 20000 in
theorem law_tX_4 {b : Nat} {s : State} (hgv : (Jvm.Cond.and given_1 narrow_1).before #[Value.ref b] s = true) : ∃ d t : Nat, strF (fun q : Nat => s.heap.size ≤ q) d t 4 (fun j => ([99, 97, 110, 101] : List Int32).getD j 0) s s.heap ∧ (Term.string "ChairCane$Tape" 105).eval #[Value.ref b] s none [] s = some (.ref d) := by
  have hs := flat_of_before _ hgv
  have hA : ∀ a : Nat, a < s.heap.size → ¬ (fun q : Nat => s.heap.size ≤ q) a := fun a h => Nat.not_le.mpr h
  exact str_of (A := fun q : Nat => s.heap.size ≤ q) "ChairCane$Tape" 105 4 [99, 97, 110, 101] (by decide) (show Jvm.Cond.before (Cond.exactly (.string "ChairCane$Tape" 105) "java/lang/String") #[Value.ref b] s = true from bf_r (bf_r (bf_l (bf_r (bf_r (bf_l (bf_r (bf_l (bf_l (bf_r hgv)))))))))) (show Jvm.Cond.before (Cond.eq (.field (.string "ChairCane$Tape" 105) "java/lang/String" "coder" "B") (.int 0)) #[Value.ref b] s = true from bf_l (bf_r (bf_r (bf_r (bf_l (bf_r (bf_l (bf_l (bf_r hgv))))))))) (show Jvm.Cond.before (Cond.arrayOf (.field (.string "ChairCane$Tape" 105) "java/lang/String" "value" "[B") .byte) #[Value.ref b] s = true from bf_l (bf_r (bf_r (bf_r (bf_r (bf_l (bf_r (bf_l (bf_l (bf_r hgv)))))))))) (show Jvm.Cond.before (Cond.eq (.length (.field (.string "ChairCane$Tape" 105) "java/lang/String" "value" "[B")) (.int 4)) #[Value.ref b] s = true from bf_r (bf_r (bf_r (bf_r (bf_r (bf_l (bf_r (bf_l (bf_l (bf_r hgv)))))))))) (by
      intro j hj
      match j, hj with
      | 0, _ => exact show Jvm.Cond.before (Cond.eq (.elem (.field (.string "ChairCane$Tape" 105) "java/lang/String" "value" "[B") (.int 0)) (.int 99)) #[Value.ref b] s = true from bf_l (bf_l (bf_l (bf_l (bf_r (bf_r (bf_l (bf_l (bf_r hgv))))))))
      | 1, _ => exact show Jvm.Cond.before (Cond.eq (.elem (.field (.string "ChairCane$Tape" 105) "java/lang/String" "value" "[B") (.int 1)) (.int 97)) #[Value.ref b] s = true from bf_r (bf_l (bf_l (bf_l (bf_r (bf_r (bf_l (bf_l (bf_r hgv))))))))
      | 2, _ => exact show Jvm.Cond.before (Cond.eq (.elem (.field (.string "ChairCane$Tape" 105) "java/lang/String" "value" "[B") (.int 2)) (.int 110)) #[Value.ref b] s = true from bf_l (bf_r (bf_l (bf_l (bf_r (bf_r (bf_l (bf_l (bf_r hgv))))))))
      | 3, _ => exact show Jvm.Cond.before (Cond.eq (.elem (.field (.string "ChairCane$Tape" 105) "java/lang/String" "value" "[B") (.int 3)) (.int 101)) #[Value.ref b] s = true from bf_l (bf_r (bf_r (bf_l (bf_l (bf_r (bf_r (bf_l (bf_l (bf_r hgv)))))))))
      | j + 4, h => exact absurd h (by omega)) hA
set_option maxHeartbeats 4000000 in
set_option maxRecDepth 20000 in
theorem law_tX_5 {b : Nat} {s : State} (hgv : (Jvm.Cond.and given_1 narrow_1).before #[Value.ref b] s = true) : ∃ d t : Nat, strF (fun q : Nat => s.heap.size ≤ q) d t 4 (fun j => ([115, 105, 116, 115] : List Int32).getD j 0) s s.heap ∧ (Term.string "ChairCane$Tape" 107).eval #[Value.ref b] s none [] s = some (.ref d) := by
  have hs := flat_of_before _ hgv
  have hA : ∀ a : Nat, a < s.heap.size → ¬ (fun q : Nat => s.heap.size ≤ q) a := fun a h => Nat.not_le.mpr h
  exact str_of (A := fun q : Nat => s.heap.size ≤ q) "ChairCane$Tape" 107 4 [115, 105, 116, 115] (by decide) (show Jvm.Cond.before (Cond.exactly (.string "ChairCane$Tape" 107) "java/lang/String") #[Value.ref b] s = true from bf_r (bf_r (bf_r (bf_l (bf_l (bf_r (bf_r (bf_l (bf_l (bf_r hgv)))))))))) (show Jvm.Cond.before (Cond.eq (.field (.string "ChairCane$Tape" 107) "java/lang/String" "coder" "B") (.int 0)) #[Value.ref b] s = true from bf_l (bf_l (bf_r (bf_l (bf_r (bf_r (bf_l (bf_l (bf_r hgv))))))))) (show Jvm.Cond.before (Cond.arrayOf (.field (.string "ChairCane$Tape" 107) "java/lang/String" "value" "[B") .byte) #[Value.ref b] s = true from bf_l (bf_r (bf_l (bf_r (bf_l (bf_r (bf_r (bf_l (bf_l (bf_r hgv)))))))))) (show Jvm.Cond.before (Cond.eq (.length (.field (.string "ChairCane$Tape" 107) "java/lang/String" "value" "[B")) (.int 4)) #[Value.ref b] s = true from bf_r (bf_r (bf_l (bf_r (bf_l (bf_r (bf_r (bf_l (bf_l (bf_r hgv)))))))))) (by
      intro j hj
      match j, hj with
      | 0, _ => exact show Jvm.Cond.before (Cond.eq (.elem (.field (.string "ChairCane$Tape" 107) "java/lang/String" "value" "[B") (.int 0)) (.int 115)) #[Value.ref b] s = true from bf_l (bf_r (bf_r (bf_l (bf_r (bf_r (bf_l (bf_l (bf_r hgv))))))))
      | 1, _ => exact show Jvm.Cond.before (Cond.eq (.elem (.field (.string "ChairCane$Tape" 107) "java/lang/String" "value" "[B") (.int 1)) (.int 105)) #[Value.ref b] s = true from bf_l (bf_r (bf_r (bf_r (bf_l (bf_r (bf_r (bf_l (bf_l (bf_r hgv)))))))))
      | 2, _ => exact show Jvm.Cond.before (Cond.eq (.elem (.field (.string "ChairCane$Tape" 107) "java/lang/String" "value" "[B") (.int 2)) (.int 116)) #[Value.ref b] s = true from bf_r (bf_r (bf_r (bf_r (bf_l (bf_r (bf_r (bf_l (bf_l (bf_r hgv)))))))))
      | 3, _ => exact show Jvm.Cond.before (Cond.eq (.elem (.field (.string "ChairCane$Tape" 107) "java/lang/String" "value" "[B") (.int 3)) (.int 115)) #[Value.ref b] s = true from bf_l (bf_l (bf_l (bf_r (bf_r (bf_r (bf_l (bf_l (bf_r hgv))))))))
      | j + 4, h => exact absurd h (by omega)) hA
set_option maxHeartbeats 4000000 in
set_option maxRecDepth 20000 in
theorem law_tX_6 {b : Nat} {s : State} (hgv : (Jvm.Cond.and given_1 narrow_1).before #[Value.ref b] s = true) : ∃ d t : Nat, strF (fun q : Nat => s.heap.size ≤ q) d t 4 (fun j => ([103, 105, 118, 101] : List Int32).getD j 0) s s.heap ∧ (Term.string "ChairCane$Tape" 109).eval #[Value.ref b] s none [] s = some (.ref d) := by
  have hs := flat_of_before _ hgv
  have hA : ∀ a : Nat, a < s.heap.size → ¬ (fun q : Nat => s.heap.size ≤ q) a := fun a h => Nat.not_le.mpr h
  exact str_of (A := fun q : Nat => s.heap.size ≤ q) "ChairCane$Tape" 109 4 [103, 105, 118, 101] (by decide) (show Jvm.Cond.before (Cond.exactly (.string "ChairCane$Tape" 109) "java/lang/String") #[Value.ref b] s = true from bf_r (bf_l (bf_l (bf_r (bf_r (bf_r (bf_l (bf_l (bf_r hgv))))))))) (show Jvm.Cond.before (Cond.eq (.field (.string "ChairCane$Tape" 109) "java/lang/String" "coder" "B") (.int 0)) #[Value.ref b] s = true from bf_l (bf_r (bf_l (bf_r (bf_r (bf_r (bf_l (bf_l (bf_r hgv))))))))) (show Jvm.Cond.before (Cond.arrayOf (.field (.string "ChairCane$Tape" 109) "java/lang/String" "value" "[B") .byte) #[Value.ref b] s = true from bf_l (bf_r (bf_r (bf_l (bf_r (bf_r (bf_r (bf_l (bf_l (bf_r hgv)))))))))) (show Jvm.Cond.before (Cond.eq (.length (.field (.string "ChairCane$Tape" 109) "java/lang/String" "value" "[B")) (.int 4)) #[Value.ref b] s = true from bf_r (bf_r (bf_r (bf_l (bf_r (bf_r (bf_r (bf_l (bf_l (bf_r hgv)))))))))) (by
      intro j hj
      match j, hj with
      | 0, _ => exact show Jvm.Cond.before (Cond.eq (.elem (.field (.string "ChairCane$Tape" 109) "java/lang/String" "value" "[B") (.int 0)) (.int 103)) #[Value.ref b] s = true from bf_l (bf_l (bf_r (bf_r (bf_r (bf_r (bf_l (bf_l (bf_r hgv))))))))
      | 1, _ => exact show Jvm.Cond.before (Cond.eq (.elem (.field (.string "ChairCane$Tape" 109) "java/lang/String" "value" "[B") (.int 1)) (.int 105)) #[Value.ref b] s = true from bf_l (bf_r (bf_l (bf_r (bf_r (bf_r (bf_r (bf_l (bf_l (bf_r hgv)))))))))
      | 2, _ => exact show Jvm.Cond.before (Cond.eq (.elem (.field (.string "ChairCane$Tape" 109) "java/lang/String" "value" "[B") (.int 2)) (.int 118)) #[Value.ref b] s = true from bf_r (bf_r (bf_l (bf_r (bf_r (bf_r (bf_r (bf_l (bf_l (bf_r hgv)))))))))
      | 3, _ => exact show Jvm.Cond.before (Cond.eq (.elem (.field (.string "ChairCane$Tape" 109) "java/lang/String" "value" "[B") (.int 3)) (.int 101)) #[Value.ref b] s = true from bf_l (bf_r (bf_r (bf_r (bf_r (bf_r (bf_l (bf_l (bf_r hgv))))))))
      | j + 4, h => exact absurd h (by omega)) hA
set_option maxHeartbeats 4000000 in
set_option maxRecDepth 20000 in
theorem law_tX_7 {b : Nat} {s : State} (hgv : (Jvm.Cond.and given_1 narrow_1).before #[Value.ref b] s = true) : ∃ d t : Nat, strF (fun q : Nat => s.heap.size ≤ q) d t 6 (fun j => ([111, 116, 104, 101, 114, 115] : List Int32).getD j 0) s s.heap ∧ (Term.string "ChairCane$Tape" 111).eval #[Value.ref b] s none [] s = some (.ref d) := by
  have hs := flat_of_before _ hgv
  have hA : ∀ a : Nat, a < s.heap.size → ¬ (fun q : Nat => s.heap.size ≤ q) a := fun a h => Nat.not_le.mpr h
  exact str_of (A := fun q : Nat => s.heap.size ≤ q) "ChairCane$Tape" 111 6 [111, 116, 104, 101, 114, 115] (by decide) (show Jvm.Cond.before (Cond.exactly (.string "ChairCane$Tape" 111) "java/lang/String") #[Value.ref b] s = true from bf_l (bf_r (bf_r (bf_r (bf_r (bf_r (bf_r (bf_l (bf_l (bf_r hgv)))))))))) (show Jvm.Cond.before (Cond.eq (.field (.string "ChairCane$Tape" 111) "java/lang/String" "coder" "B") (.int 0)) #[Value.ref b] s = true from bf_r (bf_r (bf_r (bf_r (bf_r (bf_r (bf_r (bf_l (bf_l (bf_r hgv)))))))))) (show Jvm.Cond.before (Cond.arrayOf (.field (.string "ChairCane$Tape" 111) "java/lang/String" "value" "[B") .byte) #[Value.ref b] s = true from bf_l (bf_l (bf_l (bf_l (bf_l (bf_l (bf_r (bf_l (bf_r hgv))))))))) (show Jvm.Cond.before (Cond.eq (.length (.field (.string "ChairCane$Tape" 111) "java/lang/String" "value" "[B")) (.int 6)) #[Value.ref b] s = true from bf_r (bf_l (bf_l (bf_l (bf_l (bf_l (bf_r (bf_l (bf_r hgv))))))))) (by
      intro j hj
      match j, hj with
      | 0, _ => exact show Jvm.Cond.before (Cond.eq (.elem (.field (.string "ChairCane$Tape" 111) "java/lang/String" "value" "[B") (.int 0)) (.int 111)) #[Value.ref b] s = true from bf_l (bf_r (bf_l (bf_l (bf_l (bf_l (bf_r (bf_l (bf_r hgv))))))))
      | 1, _ => exact show Jvm.Cond.before (Cond.eq (.elem (.field (.string "ChairCane$Tape" 111) "java/lang/String" "value" "[B") (.int 1)) (.int 116)) #[Value.ref b] s = true from bf_l (bf_r (bf_r (bf_l (bf_l (bf_l (bf_l (bf_r (bf_l (bf_r hgv)))))))))
      | 2, _ => exact show Jvm.Cond.before (Cond.eq (.elem (.field (.string "ChairCane$Tape" 111) "java/lang/String" "value" "[B") (.int 2)) (.int 104)) #[Value.ref b] s = true from bf_r (bf_r (bf_r (bf_l (bf_l (bf_l (bf_l (bf_r (bf_l (bf_r hgv)))))))))
      | 3, _ => exact show Jvm.Cond.before (Cond.eq (.elem (.field (.string "ChairCane$Tape" 111) "java/lang/String" "value" "[B") (.int 3)) (.int 101)) #[Value.ref b] s = true from bf_l (bf_l (bf_r (bf_l (bf_l (bf_l (bf_r (bf_l (bf_r hgv))))))))
      | 4, _ => exact show Jvm.Cond.before (Cond.eq (.elem (.field (.string "ChairCane$Tape" 111) "java/lang/String" "value" "[B") (.int 4)) (.int 114)) #[Value.ref b] s = true from bf_l (bf_r (bf_l (bf_r (bf_l (bf_l (bf_l (bf_r (bf_l (bf_r hgv)))))))))
      | 5, _ => exact show Jvm.Cond.before (Cond.eq (.elem (.field (.string "ChairCane$Tape" 111) "java/lang/String" "value" "[B") (.int 5)) (.int 115)) #[Value.ref b] s = true from bf_r (bf_r (bf_l (bf_r (bf_l (bf_l (bf_l (bf_r (bf_l (bf_r hgv)))))))))
      | j + 6, h => exact absurd h (by omega)) hA
set_option maxHeartbeats 4000000 in
set_option maxRecDepth 20000 in
theorem law_tX_8 {b : Nat} {s : State} (hgv : (Jvm.Cond.and given_1 narrow_1).before #[Value.ref b] s = true) : ∃ d t : Nat, strF (fun q : Nat => s.heap.size ≤ q) d t 5 (fun j => ([112, 114, 101, 115, 115] : List Int32).getD j 0) s s.heap ∧ (Term.string "ChairCane$Tape" 113).eval #[Value.ref b] s none [] s = some (.ref d) := by
  have hs := flat_of_before _ hgv
  have hA : ∀ a : Nat, a < s.heap.size → ¬ (fun q : Nat => s.heap.size ≤ q) a := fun a h => Nat.not_le.mpr h
  exact str_of (A := fun q : Nat => s.heap.size ≤ q) "ChairCane$Tape" 113 5 [112, 114, 101, 115, 115] (by decide) (show Jvm.Cond.before (Cond.exactly (.string "ChairCane$Tape" 113) "java/lang/String") #[Value.ref b] s = true from bf_l (bf_r (bf_r (bf_l (bf_l (bf_l (bf_r (bf_l (bf_r hgv))))))))) (show Jvm.Cond.before (Cond.eq (.field (.string "ChairCane$Tape" 113) "java/lang/String" "coder" "B") (.int 0)) #[Value.ref b] s = true from bf_l (bf_r (bf_r (bf_r (bf_l (bf_l (bf_l (bf_r (bf_l (bf_r hgv)))))))))) (show Jvm.Cond.before (Cond.arrayOf (.field (.string "ChairCane$Tape" 113) "java/lang/String" "value" "[B") .byte) #[Value.ref b] s = true from bf_r (bf_r (bf_r (bf_r (bf_l (bf_l (bf_l (bf_r (bf_l (bf_r hgv)))))))))) (show Jvm.Cond.before (Cond.eq (.length (.field (.string "ChairCane$Tape" 113) "java/lang/String" "value" "[B")) (.int 5)) #[Value.ref b] s = true from bf_l (bf_l (bf_l (bf_r (bf_l (bf_l (bf_r (bf_l (bf_r hgv))))))))) (by
      intro j hj
      match j, hj with
      | 0, _ => exact show Jvm.Cond.before (Cond.eq (.elem (.field (.string "ChairCane$Tape" 113) "java/lang/String" "value" "[B") (.int 0)) (.int 112)) #[Value.ref b] s = true from bf_r (bf_l (bf_l (bf_r (bf_l (bf_l (bf_r (bf_l (bf_r hgv))))))))
      | 1, _ => exact show Jvm.Cond.before (Cond.eq (.elem (.field (.string "ChairCane$Tape" 113) "java/lang/String" "value" "[B") (.int 1)) (.int 114)) #[Value.ref b] s = true from bf_l (bf_r (bf_l (bf_r (bf_l (bf_l (bf_r (bf_l (bf_r hgv))))))))
      | 2, _ => exact show Jvm.Cond.before (Cond.eq (.elem (.field (.string "ChairCane$Tape" 113) "java/lang/String" "value" "[B") (.int 2)) (.int 101)) #[Value.ref b] s = true from bf_l (bf_r (bf_r (bf_l (bf_r (bf_l (bf_l (bf_r (bf_l (bf_r hgv)))))))))
      | 3, _ => exact show Jvm.Cond.before (Cond.eq (.elem (.field (.string "ChairCane$Tape" 113) "java/lang/String" "value" "[B") (.int 3)) (.int 115)) #[Value.ref b] s = true from bf_r (bf_r (bf_r (bf_l (bf_r (bf_l (bf_l (bf_r (bf_l (bf_r hgv)))))))))
      | 4, _ => exact show Jvm.Cond.before (Cond.eq (.elem (.field (.string "ChairCane$Tape" 113) "java/lang/String" "value" "[B") (.int 4)) (.int 115)) #[Value.ref b] s = true from bf_l (bf_l (bf_r (bf_r (bf_l (bf_l (bf_r (bf_l (bf_r hgv))))))))
      | j + 5, h => exact absurd h (by omega)) hA
set_option maxHeartbeats 4000000 in
set_option maxRecDepth 20000 in
theorem law_tX_9 {b : Nat} {s : State} (hgv : (Jvm.Cond.and given_1 narrow_1).before #[Value.ref b] s = true) : ∃ d t : Nat, strF (fun q : Nat => s.heap.size ≤ q) d t 7 (fun j => ([100, 114, 111, 112, 112, 101, 100] : List Int32).getD j 0) s s.heap ∧ (Term.string "ChairCane$Tape" 115).eval #[Value.ref b] s none [] s = some (.ref d) := by
  have hs := flat_of_before _ hgv
  have hA : ∀ a : Nat, a < s.heap.size → ¬ (fun q : Nat => s.heap.size ≤ q) a := fun a h => Nat.not_le.mpr h
  exact str_of (A := fun q : Nat => s.heap.size ≤ q) "ChairCane$Tape" 115 7 [100, 114, 111, 112, 112, 101, 100] (by decide) (show Jvm.Cond.before (Cond.exactly (.string "ChairCane$Tape" 115) "java/lang/String") #[Value.ref b] s = true from bf_l (bf_r (bf_l (bf_r (bf_r (bf_l (bf_l (bf_r (bf_l (bf_r hgv)))))))))) (show Jvm.Cond.before (Cond.eq (.field (.string "ChairCane$Tape" 115) "java/lang/String" "coder" "B") (.int 0)) #[Value.ref b] s = true from bf_r (bf_r (bf_l (bf_r (bf_r (bf_l (bf_l (bf_r (bf_l (bf_r hgv)))))))))) (show Jvm.Cond.before (Cond.arrayOf (.field (.string "ChairCane$Tape" 115) "java/lang/String" "value" "[B") .byte) #[Value.ref b] s = true from bf_l (bf_r (bf_r (bf_r (bf_l (bf_l (bf_r (bf_l (bf_r hgv))))))))) (show Jvm.Cond.before (Cond.eq (.length (.field (.string "ChairCane$Tape" 115) "java/lang/String" "value" "[B")) (.int 7)) #[Value.ref b] s = true from bf_l (bf_r (bf_r (bf_r (bf_r (bf_l (bf_l (bf_r (bf_l (bf_r hgv)))))))))) (by
      intro j hj
      match j, hj with
      | 0, _ => exact show Jvm.Cond.before (Cond.eq (.elem (.field (.string "ChairCane$Tape" 115) "java/lang/String" "value" "[B") (.int 0)) (.int 100)) #[Value.ref b] s = true from bf_r (bf_r (bf_r (bf_r (bf_r (bf_l (bf_l (bf_r (bf_l (bf_r hgv)))))))))
      | 1, _ => exact show Jvm.Cond.before (Cond.eq (.elem (.field (.string "ChairCane$Tape" 115) "java/lang/String" "value" "[B") (.int 1)) (.int 114)) #[Value.ref b] s = true from bf_l (bf_l (bf_l (bf_l (bf_r (bf_l (bf_r (bf_l (bf_r hgv))))))))
      | 2, _ => exact show Jvm.Cond.before (Cond.eq (.elem (.field (.string "ChairCane$Tape" 115) "java/lang/String" "value" "[B") (.int 2)) (.int 111)) #[Value.ref b] s = true from bf_r (bf_l (bf_l (bf_l (bf_r (bf_l (bf_r (bf_l (bf_r hgv))))))))
      | 3, _ => exact show Jvm.Cond.before (Cond.eq (.elem (.field (.string "ChairCane$Tape" 115) "java/lang/String" "value" "[B") (.int 3)) (.int 112)) #[Value.ref b] s = true from bf_l (bf_r (bf_l (bf_l (bf_r (bf_l (bf_r (bf_l (bf_r hgv))))))))
      | 4, _ => exact show Jvm.Cond.before (Cond.eq (.elem (.field (.string "ChairCane$Tape" 115) "java/lang/String" "value" "[B") (.int 4)) (.int 112)) #[Value.ref b] s = true from bf_l (bf_r (bf_r (bf_l (bf_l (bf_r (bf_l (bf_r (bf_l (bf_r hgv)))))))))
      | 5, _ => exact show Jvm.Cond.before (Cond.eq (.elem (.field (.string "ChairCane$Tape" 115) "java/lang/String" "value" "[B") (.int 5)) (.int 101)) #[Value.ref b] s = true from bf_r (bf_r (bf_r (bf_l (bf_l (bf_r (bf_l (bf_r (bf_l (bf_r hgv)))))))))
      | 6, _ => exact show Jvm.Cond.before (Cond.eq (.elem (.field (.string "ChairCane$Tape" 115) "java/lang/String" "value" "[B") (.int 6)) (.int 100)) #[Value.ref b] s = true from bf_l (bf_l (bf_r (bf_l (bf_r (bf_l (bf_r (bf_l (bf_r hgv))))))))
      | j + 7, h => exact absurd h (by omega)) hA
set_option maxHeartbeats 4000000 in
set_option maxRecDepth 20000 in
theorem law_tX_10 {b : Nat} {s : State} (hgv : (Jvm.Cond.and given_1 narrow_1).before #[Value.ref b] s = true) : ∃ d t : Nat, strF (fun q : Nat => s.heap.size ≤ q) d t 6 (fun j => ([109, 105, 110, 117, 116, 101] : List Int32).getD j 0) s s.heap ∧ (Term.string "ChairCane$Tape" 117).eval #[Value.ref b] s none [] s = some (.ref d) := by
  have hs := flat_of_before _ hgv
  have hA : ∀ a : Nat, a < s.heap.size → ¬ (fun q : Nat => s.heap.size ≤ q) a := fun a h => Nat.not_le.mpr h
  exact str_of (A := fun q : Nat => s.heap.size ≤ q) "ChairCane$Tape" 117 6 [109, 105, 110, 117, 116, 101] (by decide) (show Jvm.Cond.before (Cond.exactly (.string "ChairCane$Tape" 117) "java/lang/String") #[Value.ref b] s = true from bf_l (bf_r (bf_l (bf_r (bf_l (bf_r (bf_l (bf_r (bf_l (bf_r hgv)))))))))) (show Jvm.Cond.before (Cond.eq (.field (.string "ChairCane$Tape" 117) "java/lang/String" "coder" "B") (.int 0)) #[Value.ref b] s = true from bf_r (bf_r (bf_l (bf_r (bf_l (bf_r (bf_l (bf_r (bf_l (bf_r hgv)))))))))) (show Jvm.Cond.before (Cond.arrayOf (.field (.string "ChairCane$Tape" 117) "java/lang/String" "value" "[B") .byte) #[Value.ref b] s = true from bf_l (bf_r (bf_r (bf_l (bf_r (bf_l (bf_r (bf_l (bf_r hgv))))))))) (show Jvm.Cond.before (Cond.eq (.length (.field (.string "ChairCane$Tape" 117) "java/lang/String" "value" "[B")) (.int 6)) #[Value.ref b] s = true from bf_l (bf_r (bf_r (bf_r (bf_l (bf_r (bf_l (bf_r (bf_l (bf_r hgv)))))))))) (by
      intro j hj
      match j, hj with
      | 0, _ => exact show Jvm.Cond.before (Cond.eq (.elem (.field (.string "ChairCane$Tape" 117) "java/lang/String" "value" "[B") (.int 0)) (.int 109)) #[Value.ref b] s = true from bf_r (bf_r (bf_r (bf_r (bf_l (bf_r (bf_l (bf_r (bf_l (bf_r hgv)))))))))
      | 1, _ => exact show Jvm.Cond.before (Cond.eq (.elem (.field (.string "ChairCane$Tape" 117) "java/lang/String" "value" "[B") (.int 1)) (.int 105)) #[Value.ref b] s = true from bf_l (bf_l (bf_l (bf_r (bf_r (bf_l (bf_r (bf_l (bf_r hgv))))))))
      | 2, _ => exact show Jvm.Cond.before (Cond.eq (.elem (.field (.string "ChairCane$Tape" 117) "java/lang/String" "value" "[B") (.int 2)) (.int 110)) #[Value.ref b] s = true from bf_r (bf_l (bf_l (bf_r (bf_r (bf_l (bf_r (bf_l (bf_r hgv))))))))
      | 3, _ => exact show Jvm.Cond.before (Cond.eq (.elem (.field (.string "ChairCane$Tape" 117) "java/lang/String" "value" "[B") (.int 3)) (.int 117)) #[Value.ref b] s = true from bf_l (bf_r (bf_l (bf_r (bf_r (bf_l (bf_r (bf_l (bf_r hgv))))))))
      | 4, _ => exact show Jvm.Cond.before (Cond.eq (.elem (.field (.string "ChairCane$Tape" 117) "java/lang/String" "value" "[B") (.int 4)) (.int 116)) #[Value.ref b] s = true from bf_l (bf_r (bf_r (bf_l (bf_r (bf_r (bf_l (bf_r (bf_l (bf_r hgv)))))))))
      | 5, _ => exact show Jvm.Cond.before (Cond.eq (.elem (.field (.string "ChairCane$Tape" 117) "java/lang/String" "value" "[B") (.int 5)) (.int 101)) #[Value.ref b] s = true from bf_r (bf_r (bf_r (bf_l (bf_r (bf_r (bf_l (bf_r (bf_l (bf_r hgv)))))))))
      | j + 6, h => exact absurd h (by omega)) hA
set_option maxHeartbeats 4000000 in
set_option maxRecDepth 20000 in
theorem law_tX_11 {b : Nat} {s : State} (hgv : (Jvm.Cond.and given_1 narrow_1).before #[Value.ref b] s = true) : ∃ d t : Nat, strF (fun q : Nat => s.heap.size ≤ q) d t 4 (fun j => ([104, 97, 108, 108] : List Int32).getD j 0) s s.heap ∧ (Term.string "ChairCane$Tape" 119).eval #[Value.ref b] s none [] s = some (.ref d) := by
  have hs := flat_of_before _ hgv
  have hA : ∀ a : Nat, a < s.heap.size → ¬ (fun q : Nat => s.heap.size ≤ q) a := fun a h => Nat.not_le.mpr h
  exact str_of (A := fun q : Nat => s.heap.size ≤ q) "ChairCane$Tape" 119 4 [104, 97, 108, 108] (by decide) (show Jvm.Cond.before (Cond.exactly (.string "ChairCane$Tape" 119) "java/lang/String") #[Value.ref b] s = true from bf_l (bf_l (bf_r (bf_r (bf_r (bf_l (bf_r (bf_l (bf_r hgv))))))))) (show Jvm.Cond.before (Cond.eq (.field (.string "ChairCane$Tape" 119) "java/lang/String" "coder" "B") (.int 0)) #[Value.ref b] s = true from bf_l (bf_r (bf_l (bf_r (bf_r (bf_r (bf_l (bf_r (bf_l (bf_r hgv)))))))))) (show Jvm.Cond.before (Cond.arrayOf (.field (.string "ChairCane$Tape" 119) "java/lang/String" "value" "[B") .byte) #[Value.ref b] s = true from bf_r (bf_r (bf_l (bf_r (bf_r (bf_r (bf_l (bf_r (bf_l (bf_r hgv)))))))))) (show Jvm.Cond.before (Cond.eq (.length (.field (.string "ChairCane$Tape" 119) "java/lang/String" "value" "[B")) (.int 4)) #[Value.ref b] s = true from bf_l (bf_r (bf_r (bf_r (bf_r (bf_l (bf_r (bf_l (bf_r hgv))))))))) (by
      intro j hj
      match j, hj with
      | 0, _ => exact show Jvm.Cond.before (Cond.eq (.elem (.field (.string "ChairCane$Tape" 119) "java/lang/String" "value" "[B") (.int 0)) (.int 104)) #[Value.ref b] s = true from bf_l (bf_r (bf_r (bf_r (bf_r (bf_r (bf_l (bf_r (bf_l (bf_r hgv)))))))))
      | 1, _ => exact show Jvm.Cond.before (Cond.eq (.elem (.field (.string "ChairCane$Tape" 119) "java/lang/String" "value" "[B") (.int 1)) (.int 97)) #[Value.ref b] s = true from bf_r (bf_r (bf_r (bf_r (bf_r (bf_r (bf_l (bf_r (bf_l (bf_r hgv)))))))))
      | 2, _ => exact show Jvm.Cond.before (Cond.eq (.elem (.field (.string "ChairCane$Tape" 119) "java/lang/String" "value" "[B") (.int 2)) (.int 108)) #[Value.ref b] s = true from bf_l (bf_l (bf_l (bf_l (bf_l (bf_r (bf_r (bf_l (bf_r hgv))))))))
      | 3, _ => exact show Jvm.Cond.before (Cond.eq (.elem (.field (.string "ChairCane$Tape" 119) "java/lang/String" "value" "[B") (.int 3)) (.int 108)) #[Value.ref b] s = true from bf_r (bf_l (bf_l (bf_l (bf_l (bf_r (bf_r (bf_l (bf_r hgv))))))))
      | j + 4, h => exact absurd h (by omega)) hA
set_option maxHeartbeats 4000000 in
set_option maxRecDepth 20000 in
theorem law_tX_12 {b : Nat} {s : State} (hgv : (Jvm.Cond.and given_1 narrow_1).before #[Value.ref b] s = true) : ∃ d t : Nat, strF (fun q : Nat => s.heap.size ≤ q) d t 6 (fun j => ([115, 116, 114, 97, 110, 100] : List Int32).getD j 0) s s.heap ∧ (Term.string "ChairCane$Tape" 121).eval #[Value.ref b] s none [] s = some (.ref d) := by
  have hs := flat_of_before _ hgv
  have hA : ∀ a : Nat, a < s.heap.size → ¬ (fun q : Nat => s.heap.size ≤ q) a := fun a h => Nat.not_le.mpr h
  exact str_of (A := fun q : Nat => s.heap.size ≤ q) "ChairCane$Tape" 121 6 [115, 116, 114, 97, 110, 100] (by decide) (show Jvm.Cond.before (Cond.exactly (.string "ChairCane$Tape" 121) "java/lang/String") #[Value.ref b] s = true from bf_l (bf_r (bf_l (bf_l (bf_l (bf_r (bf_r (bf_l (bf_r hgv))))))))) (show Jvm.Cond.before (Cond.eq (.field (.string "ChairCane$Tape" 121) "java/lang/String" "coder" "B") (.int 0)) #[Value.ref b] s = true from bf_l (bf_r (bf_r (bf_l (bf_l (bf_l (bf_r (bf_r (bf_l (bf_r hgv)))))))))) (show Jvm.Cond.before (Cond.arrayOf (.field (.string "ChairCane$Tape" 121) "java/lang/String" "value" "[B") .byte) #[Value.ref b] s = true from bf_r (bf_r (bf_r (bf_l (bf_l (bf_l (bf_r (bf_r (bf_l (bf_r hgv)))))))))) (show Jvm.Cond.before (Cond.eq (.length (.field (.string "ChairCane$Tape" 121) "java/lang/String" "value" "[B")) (.int 6)) #[Value.ref b] s = true from bf_l (bf_l (bf_r (bf_l (bf_l (bf_r (bf_r (bf_l (bf_r hgv))))))))) (by
      intro j hj
      match j, hj with
      | 0, _ => exact show Jvm.Cond.before (Cond.eq (.elem (.field (.string "ChairCane$Tape" 121) "java/lang/String" "value" "[B") (.int 0)) (.int 115)) #[Value.ref b] s = true from bf_l (bf_r (bf_l (bf_r (bf_l (bf_l (bf_r (bf_r (bf_l (bf_r hgv)))))))))
      | 1, _ => exact show Jvm.Cond.before (Cond.eq (.elem (.field (.string "ChairCane$Tape" 121) "java/lang/String" "value" "[B") (.int 1)) (.int 116)) #[Value.ref b] s = true from bf_r (bf_r (bf_l (bf_r (bf_l (bf_l (bf_r (bf_r (bf_l (bf_r hgv)))))))))
      | 2, _ => exact show Jvm.Cond.before (Cond.eq (.elem (.field (.string "ChairCane$Tape" 121) "java/lang/String" "value" "[B") (.int 2)) (.int 114)) #[Value.ref b] s = true from bf_l (bf_r (bf_r (bf_l (bf_l (bf_r (bf_r (bf_l (bf_r hgv))))))))
      | 3, _ => exact show Jvm.Cond.before (Cond.eq (.elem (.field (.string "ChairCane$Tape" 121) "java/lang/String" "value" "[B") (.int 3)) (.int 97)) #[Value.ref b] s = true from bf_l (bf_r (bf_r (bf_r (bf_l (bf_l (bf_r (bf_r (bf_l (bf_r hgv)))))))))
      | 4, _ => exact show Jvm.Cond.before (Cond.eq (.elem (.field (.string "ChairCane$Tape" 121) "java/lang/String" "value" "[B") (.int 4)) (.int 110)) #[Value.ref b] s = true from bf_r (bf_r (bf_r (bf_r (bf_l (bf_l (bf_r (bf_r (bf_l (bf_r hgv)))))))))
      | 5, _ => exact show Jvm.Cond.before (Cond.eq (.elem (.field (.string "ChairCane$Tape" 121) "java/lang/String" "value" "[B") (.int 5)) (.int 100)) #[Value.ref b] s = true from bf_l (bf_l (bf_l (bf_r (bf_l (bf_r (bf_r (bf_l (bf_r hgv))))))))
      | j + 6, h => exact absurd h (by omega)) hA
set_option maxHeartbeats 4000000 in
set_option maxRecDepth 20000 in
theorem law_tX_13 {b : Nat} {s : State} (hgv : (Jvm.Cond.and given_1 narrow_1).before #[Value.ref b] s = true) : ∃ d t : Nat, strF (fun q : Nat => s.heap.size ≤ q) d t 3 (fun j => ([115, 105, 116] : List Int32).getD j 0) s s.heap ∧ (Term.string "ChairCane$Tape" 123).eval #[Value.ref b] s none [] s = some (.ref d) := by
  have hs := flat_of_before _ hgv
  have hA : ∀ a : Nat, a < s.heap.size → ¬ (fun q : Nat => s.heap.size ≤ q) a := fun a h => Nat.not_le.mpr h
  exact str_of (A := fun q : Nat => s.heap.size ≤ q) "ChairCane$Tape" 123 3 [115, 105, 116] (by decide) (show Jvm.Cond.before (Cond.exactly (.string "ChairCane$Tape" 123) "java/lang/String") #[Value.ref b] s = true from bf_r (bf_l (bf_l (bf_r (bf_l (bf_r (bf_r (bf_l (bf_r hgv))))))))) (show Jvm.Cond.before (Cond.eq (.field (.string "ChairCane$Tape" 123) "java/lang/String" "coder" "B") (.int 0)) #[Value.ref b] s = true from bf_l (bf_r (bf_l (bf_r (bf_l (bf_r (bf_r (bf_l (bf_r hgv))))))))) (show Jvm.Cond.before (Cond.arrayOf (.field (.string "ChairCane$Tape" 123) "java/lang/String" "value" "[B") .byte) #[Value.ref b] s = true from bf_l (bf_r (bf_r (bf_l (bf_r (bf_l (bf_r (bf_r (bf_l (bf_r hgv)))))))))) (show Jvm.Cond.before (Cond.eq (.length (.field (.string "ChairCane$Tape" 123) "java/lang/String" "value" "[B")) (.int 3)) #[Value.ref b] s = true from bf_r (bf_r (bf_r (bf_l (bf_r (bf_l (bf_r (bf_r (bf_l (bf_r hgv)))))))))) (by
      intro j hj
      match j, hj with
      | 0, _ => exact show Jvm.Cond.before (Cond.eq (.elem (.field (.string "ChairCane$Tape" 123) "java/lang/String" "value" "[B") (.int 0)) (.int 115)) #[Value.ref b] s = true from bf_l (bf_l (bf_r (bf_r (bf_l (bf_r (bf_r (bf_l (bf_r hgv))))))))
      | 1, _ => exact show Jvm.Cond.before (Cond.eq (.elem (.field (.string "ChairCane$Tape" 123) "java/lang/String" "value" "[B") (.int 1)) (.int 105)) #[Value.ref b] s = true from bf_l (bf_r (bf_l (bf_r (bf_r (bf_l (bf_r (bf_r (bf_l (bf_r hgv)))))))))
      | 2, _ => exact show Jvm.Cond.before (Cond.eq (.elem (.field (.string "ChairCane$Tape" 123) "java/lang/String" "value" "[B") (.int 2)) (.int 116)) #[Value.ref b] s = true from bf_r (bf_r (bf_l (bf_r (bf_r (bf_l (bf_r (bf_r (bf_l (bf_r hgv)))))))))
      | j + 3, h => exact absurd h (by omega)) hA
set_option maxHeartbeats 4000000 in
set_option maxRecDepth 20000 in
theorem law_tX_14 {b : Nat} {s : State} (hgv : (Jvm.Cond.and given_1 narrow_1).before #[Value.ref b] s = true) : ∃ d t : Nat, strF (fun q : Nat => s.heap.size ≤ q) d t 2 (fun j => ([105, 102] : List Int32).getD j 0) s s.heap ∧ (Term.string "ChairCane$Tape" 125).eval #[Value.ref b] s none [] s = some (.ref d) := by
  have hs := flat_of_before _ hgv
  have hA : ∀ a : Nat, a < s.heap.size → ¬ (fun q : Nat => s.heap.size ≤ q) a := fun a h => Nat.not_le.mpr h
  exact str_of (A := fun q : Nat => s.heap.size ≤ q) "ChairCane$Tape" 125 2 [105, 102] (by decide) (show Jvm.Cond.before (Cond.exactly (.string "ChairCane$Tape" 125) "java/lang/String") #[Value.ref b] s = true from bf_l (bf_r (bf_r (bf_r (bf_l (bf_r (bf_r (bf_l (bf_r hgv))))))))) (show Jvm.Cond.before (Cond.eq (.field (.string "ChairCane$Tape" 125) "java/lang/String" "coder" "B") (.int 0)) #[Value.ref b] s = true from bf_l (bf_r (bf_r (bf_r (bf_r (bf_l (bf_r (bf_r (bf_l (bf_r hgv)))))))))) (show Jvm.Cond.before (Cond.arrayOf (.field (.string "ChairCane$Tape" 125) "java/lang/String" "value" "[B") .byte) #[Value.ref b] s = true from bf_r (bf_r (bf_r (bf_r (bf_r (bf_l (bf_r (bf_r (bf_l (bf_r hgv)))))))))) (show Jvm.Cond.before (Cond.eq (.length (.field (.string "ChairCane$Tape" 125) "java/lang/String" "value" "[B")) (.int 2)) #[Value.ref b] s = true from bf_l (bf_l (bf_l (bf_l (bf_r (bf_r (bf_r (bf_l (bf_r hgv))))))))) (by
      intro j hj
      match j, hj with
      | 0, _ => exact show Jvm.Cond.before (Cond.eq (.elem (.field (.string "ChairCane$Tape" 125) "java/lang/String" "value" "[B") (.int 0)) (.int 105)) #[Value.ref b] s = true from bf_r (bf_l (bf_l (bf_l (bf_r (bf_r (bf_r (bf_l (bf_r hgv))))))))
      | 1, _ => exact show Jvm.Cond.before (Cond.eq (.elem (.field (.string "ChairCane$Tape" 125) "java/lang/String" "value" "[B") (.int 1)) (.int 102)) #[Value.ref b] s = true from bf_l (bf_r (bf_l (bf_l (bf_r (bf_r (bf_r (bf_l (bf_r hgv))))))))
      | j + 2, h => exact absurd h (by omega)) hA
set_option maxHeartbeats 4000000 in
set_option maxRecDepth 20000 in
theorem law_tX_15 {b : Nat} {s : State} (hgv : (Jvm.Cond.and given_1 narrow_1).before #[Value.ref b] s = true) : ∃ d t : Nat, strF (fun q : Nat => s.heap.size ≤ q) d t 2 (fun j => ([111, 114] : List Int32).getD j 0) s s.heap ∧ (Term.string "ChairCane$Tape" 127).eval #[Value.ref b] s none [] s = some (.ref d) := by
  have hs := flat_of_before _ hgv
  have hA : ∀ a : Nat, a < s.heap.size → ¬ (fun q : Nat => s.heap.size ≤ q) a := fun a h => Nat.not_le.mpr h
  exact str_of (A := fun q : Nat => s.heap.size ≤ q) "ChairCane$Tape" 127 2 [111, 114] (by decide) (show Jvm.Cond.before (Cond.exactly (.string "ChairCane$Tape" 127) "java/lang/String") #[Value.ref b] s = true from bf_l (bf_r (bf_r (bf_l (bf_l (bf_r (bf_r (bf_r (bf_l (bf_r hgv)))))))))) (show Jvm.Cond.before (Cond.eq (.field (.string "ChairCane$Tape" 127) "java/lang/String" "coder" "B") (.int 0)) #[Value.ref b] s = true from bf_r (bf_r (bf_r (bf_l (bf_l (bf_r (bf_r (bf_r (bf_l (bf_r hgv)))))))))) (show Jvm.Cond.before (Cond.arrayOf (.field (.string "ChairCane$Tape" 127) "java/lang/String" "value" "[B") .byte) #[Value.ref b] s = true from bf_l (bf_l (bf_r (bf_l (bf_r (bf_r (bf_r (bf_l (bf_r hgv))))))))) (show Jvm.Cond.before (Cond.eq (.length (.field (.string "ChairCane$Tape" 127) "java/lang/String" "value" "[B")) (.int 2)) #[Value.ref b] s = true from bf_l (bf_r (bf_l (bf_r (bf_l (bf_r (bf_r (bf_r (bf_l (bf_r hgv)))))))))) (by
      intro j hj
      match j, hj with
      | 0, _ => exact show Jvm.Cond.before (Cond.eq (.elem (.field (.string "ChairCane$Tape" 127) "java/lang/String" "value" "[B") (.int 0)) (.int 111)) #[Value.ref b] s = true from bf_r (bf_r (bf_l (bf_r (bf_l (bf_r (bf_r (bf_r (bf_l (bf_r hgv)))))))))
      | 1, _ => exact show Jvm.Cond.before (Cond.eq (.elem (.field (.string "ChairCane$Tape" 127) "java/lang/String" "value" "[B") (.int 1)) (.int 114)) #[Value.ref b] s = true from bf_l (bf_r (bf_r (bf_l (bf_r (bf_r (bf_r (bf_l (bf_r hgv))))))))
      | j + 2, h => exact absurd h (by omega)) hA
set_option maxHeartbeats 4000000 in
set_option maxRecDepth 20000 in
theorem law_tX_16 {b : Nat} {s : State} (hgv : (Jvm.Cond.and given_1 narrow_1).before #[Value.ref b] s = true) : ∃ d t : Nat, strF (fun q : Nat => s.heap.size ≤ q) d t 3 (fun j => ([97, 110, 100] : List Int32).getD j 0) s s.heap ∧ (Term.string "ChairCane$Tape" 129).eval #[Value.ref b] s none [] s = some (.ref d) := by
  have hs := flat_of_before _ hgv
  have hA : ∀ a : Nat, a < s.heap.size → ¬ (fun q : Nat => s.heap.size ≤ q) a := fun a h => Nat.not_le.mpr h
  exact str_of (A := fun q : Nat => s.heap.size ≤ q) "ChairCane$Tape" 129 3 [97, 110, 100] (by decide) (show Jvm.Cond.before (Cond.exactly (.string "ChairCane$Tape" 129) "java/lang/String") #[Value.ref b] s = true from bf_l (bf_r (bf_r (bf_r (bf_l (bf_r (bf_r (bf_r (bf_l (bf_r hgv)))))))))) (show Jvm.Cond.before (Cond.eq (.field (.string "ChairCane$Tape" 129) "java/lang/String" "coder" "B") (.int 0)) #[Value.ref b] s = true from bf_r (bf_r (bf_r (bf_r (bf_l (bf_r (bf_r (bf_r (bf_l (bf_r hgv)))))))))) (show Jvm.Cond.before (Cond.arrayOf (.field (.string "ChairCane$Tape" 129) "java/lang/String" "value" "[B") .byte) #[Value.ref b] s = true from bf_l (bf_l (bf_l (bf_r (bf_r (bf_r (bf_r (bf_l (bf_r hgv))))))))) (show Jvm.Cond.before (Cond.eq (.length (.field (.string "ChairCane$Tape" 129) "java/lang/String" "value" "[B")) (.int 3)) #[Value.ref b] s = true from bf_r (bf_l (bf_l (bf_r (bf_r (bf_r (bf_r (bf_l (bf_r hgv))))))))) (by
      intro j hj
      match j, hj with
      | 0, _ => exact show Jvm.Cond.before (Cond.eq (.elem (.field (.string "ChairCane$Tape" 129) "java/lang/String" "value" "[B") (.int 0)) (.int 97)) #[Value.ref b] s = true from bf_l (bf_r (bf_l (bf_r (bf_r (bf_r (bf_r (bf_l (bf_r hgv))))))))
      | 1, _ => exact show Jvm.Cond.before (Cond.eq (.elem (.field (.string "ChairCane$Tape" 129) "java/lang/String" "value" "[B") (.int 1)) (.int 110)) #[Value.ref b] s = true from bf_l (bf_r (bf_r (bf_l (bf_r (bf_r (bf_r (bf_r (bf_l (bf_r hgv)))))))))
      | 2, _ => exact show Jvm.Cond.before (Cond.eq (.elem (.field (.string "ChairCane$Tape" 129) "java/lang/String" "value" "[B") (.int 2)) (.int 100)) #[Value.ref b] s = true from bf_r (bf_r (bf_r (bf_l (bf_r (bf_r (bf_r (bf_r (bf_l (bf_r hgv)))))))))
      | j + 3, h => exact absurd h (by omega)) hA
set_option maxHeartbeats 4000000 in
set_option maxRecDepth 20000 in
theorem law_tX_17 {b : Nat} {s : State} (hgv : (Jvm.Cond.and given_1 narrow_1).before #[Value.ref b] s = true) : ∃ d t : Nat, strF (fun q : Nat => s.heap.size ≤ q) d t 3 (fun j => ([110, 111, 116] : List Int32).getD j 0) s s.heap ∧ (Term.string "ChairCane$Tape" 131).eval #[Value.ref b] s none [] s = some (.ref d) := by
  have hs := flat_of_before _ hgv
  have hA : ∀ a : Nat, a < s.heap.size → ¬ (fun q : Nat => s.heap.size ≤ q) a := fun a h => Nat.not_le.mpr h
  exact str_of (A := fun q : Nat => s.heap.size ≤ q) "ChairCane$Tape" 131 3 [110, 111, 116] (by decide) (show Jvm.Cond.before (Cond.exactly (.string "ChairCane$Tape" 131) "java/lang/String") #[Value.ref b] s = true from bf_l (bf_l (bf_r (bf_r (bf_r (bf_r (bf_r (bf_l (bf_r hgv))))))))) (show Jvm.Cond.before (Cond.eq (.field (.string "ChairCane$Tape" 131) "java/lang/String" "coder" "B") (.int 0)) #[Value.ref b] s = true from bf_l (bf_r (bf_l (bf_r (bf_r (bf_r (bf_r (bf_r (bf_l (bf_r hgv)))))))))) (show Jvm.Cond.before (Cond.arrayOf (.field (.string "ChairCane$Tape" 131) "java/lang/String" "value" "[B") .byte) #[Value.ref b] s = true from bf_r (bf_r (bf_l (bf_r (bf_r (bf_r (bf_r (bf_r (bf_l (bf_r hgv)))))))))) (show Jvm.Cond.before (Cond.eq (.length (.field (.string "ChairCane$Tape" 131) "java/lang/String" "value" "[B")) (.int 3)) #[Value.ref b] s = true from bf_l (bf_r (bf_r (bf_r (bf_r (bf_r (bf_r (bf_l (bf_r hgv))))))))) (by
      intro j hj
      match j, hj with
      | 0, _ => exact show Jvm.Cond.before (Cond.eq (.elem (.field (.string "ChairCane$Tape" 131) "java/lang/String" "value" "[B") (.int 0)) (.int 110)) #[Value.ref b] s = true from bf_l (bf_r (bf_r (bf_r (bf_r (bf_r (bf_r (bf_r (bf_l (bf_r hgv)))))))))
      | 1, _ => exact show Jvm.Cond.before (Cond.eq (.elem (.field (.string "ChairCane$Tape" 131) "java/lang/String" "value" "[B") (.int 1)) (.int 111)) #[Value.ref b] s = true from bf_r (bf_r (bf_r (bf_r (bf_r (bf_r (bf_r (bf_r (bf_l (bf_r hgv)))))))))
      | 2, _ => exact show Jvm.Cond.before (Cond.eq (.elem (.field (.string "ChairCane$Tape" 131) "java/lang/String" "value" "[B") (.int 2)) (.int 116)) #[Value.ref b] s = true from bf_l (bf_l (bf_l (bf_l (bf_l (bf_l (bf_l (bf_r (bf_r hgv))))))))
      | j + 3, h => exact absurd h (by omega)) hA
set_option maxHeartbeats 4000000 in
set_option maxRecDepth 20000 in
theorem law_tX_18 {b : Nat} {s : State} (hgv : (Jvm.Cond.and given_1 narrow_1).before #[Value.ref b] s = true) : ∃ d t : Nat, strF (fun q : Nat => s.heap.size ≤ q) d t 0 (fun j => ([] : List Int32).getD j 0) s s.heap ∧ (Term.string "ChairCane$Tape" 133).eval #[Value.ref b] s none [] s = some (.ref d) := by
  have hs := flat_of_before _ hgv
  have hA : ∀ a : Nat, a < s.heap.size → ¬ (fun q : Nat => s.heap.size ≤ q) a := fun a h => Nat.not_le.mpr h
  exact str_of (A := fun q : Nat => s.heap.size ≤ q) "ChairCane$Tape" 133 0 [] (by decide) (show Jvm.Cond.before (Cond.exactly (.string "ChairCane$Tape" 133) "java/lang/String") #[Value.ref b] s = true from bf_r (bf_l (bf_l (bf_l (bf_l (bf_l (bf_l (bf_r (bf_r hgv))))))))) (show Jvm.Cond.before (Cond.eq (.field (.string "ChairCane$Tape" 133) "java/lang/String" "coder" "B") (.int 0)) #[Value.ref b] s = true from bf_l (bf_r (bf_l (bf_l (bf_l (bf_l (bf_l (bf_r (bf_r hgv))))))))) (show Jvm.Cond.before (Cond.arrayOf (.field (.string "ChairCane$Tape" 133) "java/lang/String" "value" "[B") .byte) #[Value.ref b] s = true from bf_l (bf_r (bf_r (bf_l (bf_l (bf_l (bf_l (bf_l (bf_r (bf_r hgv)))))))))) (show Jvm.Cond.before (Cond.eq (.length (.field (.string "ChairCane$Tape" 133) "java/lang/String" "value" "[B")) (.int 0)) #[Value.ref b] s = true from bf_r (bf_r (bf_r (bf_l (bf_l (bf_l (bf_l (bf_l (bf_r (bf_r hgv)))))))))) (by
      intro j hj
      match j, hj with

      | j + 0, h => exact absurd h (by omega)) hA
set_option maxHeartbeats 4000000 in
set_option maxRecDepth 20000 in
theorem law_tX {b : Nat} {s : State} (hts : ∀ w ∈ lw_tbl, w.before #[Value.ref b] s = true) (hgv : (Jvm.Cond.and given_1 narrow_1).before #[Value.ref b] s = true) : ∃ ad tv : Nat → Nat, EX ad tv (fun q : Nat => s.heap.size ≤ q) s := by
  have hA : ∀ a : Nat, a < s.heap.size → ¬ (fun q : Nat => s.heap.size ≤ q) a := fun a h => Nat.not_le.mpr h
  obtain ⟨d0, t0, hF0, hv0⟩ := law_tX_0 hgv
  obtain ⟨d1, t1, hF1, hv1⟩ := law_tX_1 hgv
  obtain ⟨d2, t2, hF2, hv2⟩ := law_tX_2 hgv
  obtain ⟨d3, t3, hF3, hv3⟩ := law_tX_3 hgv
  obtain ⟨d4, t4, hF4, hv4⟩ := law_tX_4 hgv
  obtain ⟨d5, t5, hF5, hv5⟩ := law_tX_5 hgv
  obtain ⟨d6, t6, hF6, hv6⟩ := law_tX_6 hgv
  obtain ⟨d7, t7, hF7, hv7⟩ := law_tX_7 hgv
  obtain ⟨d8, t8, hF8, hv8⟩ := law_tX_8 hgv
  obtain ⟨d9, t9, hF9, hv9⟩ := law_tX_9 hgv
  obtain ⟨d10, t10, hF10, hv10⟩ := law_tX_10 hgv
  obtain ⟨d11, t11, hF11, hv11⟩ := law_tX_11 hgv
  obtain ⟨d12, t12, hF12, hv12⟩ := law_tX_12 hgv
  obtain ⟨d13, t13, hF13, hv13⟩ := law_tX_13 hgv
  obtain ⟨d14, t14, hF14, hv14⟩ := law_tX_14 hgv
  obtain ⟨d15, t15, hF15, hv15⟩ := law_tX_15 hgv
  obtain ⟨d16, t16, hF16, hv16⟩ := law_tX_16 hgv
  obtain ⟨d17, t17, hF17, hv17⟩ := law_tX_17 hgv
  obtain ⟨d18, t18, hF18, hv18⟩ := law_tX_18 hgv
  obtain ⟨hZ, hM⟩ := law_stat hts hgv
  exact ⟨fun i => [d0, d1, d2, d3, d4, d5, d6, d7, d8, d9, d10, d11, d12, d13, d14, d15, d16, d17, d18].getD i 0, fun i => [t0, t1, t2, t3, t4, t5, t6, t7, t8, t9, t10, t11, t12, t13, t14, t15, t16, t17, t18].getD i 0, hZ, hM, (fun i hi => match i, hi with | 0, _ => hF0 | 1, _ => hF1 | 2, _ => hF2 | 3, _ => hF3 | 4, _ => hF4 | 5, _ => hF5 | 6, _ => hF6 | 7, _ => hF7 | 8, _ => hF8 | 9, _ => hF9 | 10, _ => hF10 | 11, _ => hF11 | 12, _ => hF12 | 13, _ => hF13 | 14, _ => hF14 | 15, _ => hF15 | 16, _ => hF16 | 17, _ => hF17 | 18, _ => hF18 | n + 19, h => absurd h (by omega)), vk_R.of (hts (.stringRef "ChairCane$Tape" 97 "sitter") (List.mem_of_getElem? (i := 420) (by decide +kernel))) hv0, vk_R.of (hts (.stringRef "ChairCane$Tape" 99 "chair") (List.mem_of_getElem? (i := 421) (by decide +kernel))) hv1, vk_R.of (hts (.stringRef "ChairCane$Tape" 101 "weight") (List.mem_of_getElem? (i := 422) (by decide +kernel))) hv2, vk_R.of (hts (.stringRef "ChairCane$Tape" 103 "height") (List.mem_of_getElem? (i := 423) (by decide +kernel))) hv3, vk_R.of (hts (.stringRef "ChairCane$Tape" 105 "cane") (List.mem_of_getElem? (i := 424) (by decide +kernel))) hv4, vk_R.of (hts (.stringRef "ChairCane$Tape" 107 "sits") (List.mem_of_getElem? (i := 425) (by decide +kernel))) hv5, vk_R.of (hts (.stringRef "ChairCane$Tape" 109 "give") (List.mem_of_getElem? (i := 426) (by decide +kernel))) hv6, vk_R.of (hts (.stringRef "ChairCane$Tape" 111 "others") (List.mem_of_getElem? (i := 427) (by decide +kernel))) hv7, vk_R.of (hts (.stringRef "ChairCane$Tape" 113 "press") (List.mem_of_getElem? (i := 428) (by decide +kernel))) hv8, vk_R.of (hts (.stringRef "ChairCane$Tape" 115 "dropped") (List.mem_of_getElem? (i := 429) (by decide +kernel))) hv9, vk_R.of (hts (.stringRef "ChairCane$Tape" 117 "minute") (List.mem_of_getElem? (i := 430) (by decide +kernel))) hv10, vk_R.of (hts (.stringRef "ChairCane$Tape" 119 "hall") (List.mem_of_getElem? (i := 431) (by decide +kernel))) hv11, vk_R.of (hts (.stringRef "ChairCane$Tape" 121 "strand") (List.mem_of_getElem? (i := 432) (by decide +kernel))) hv12, vk_R.of (hts (.stringRef "ChairCane$Tape" 123 "sit") (List.mem_of_getElem? (i := 433) (by decide +kernel))) hv13, vk_R.of (hts (.stringRef "ChairCane$Tape" 125 "if") (List.mem_of_getElem? (i := 434) (by decide +kernel))) hv14, vk_R.of (hts (.stringRef "ChairCane$Tape" 127 "or") (List.mem_of_getElem? (i := 435) (by decide +kernel))) hv15, vk_R.of (hts (.stringRef "ChairCane$Tape" 129 "and") (List.mem_of_getElem? (i := 436) (by decide +kernel))) hv16, vk_R.of (hts (.stringRef "ChairCane$Tape" 131 "not") (List.mem_of_getElem? (i := 437) (by decide +kernel))) hv17, vk_R.of (hts (.stringRef "ChairCane$Tape" 133 "") (List.mem_of_getElem? (i := 438) (by decide +kernel))) hv18⟩
set_option maxHeartbeats 4000000 in
set_option maxRecDepth 20000 in
theorem law_tY_0 {b : Nat} {s : State} (hgv : (Jvm.Cond.and given_1 narrow_1).before #[Value.ref b] s = true) : ∃ d t : Nat, strF (fun q : Nat => s.heap.size ≤ q) d t 6 (fun j => ([115, 105, 116, 116, 101, 114] : List Int32).getD j 0) s s.heap ∧ (Term.string "ChairCaneModel" 142).eval #[Value.ref b] s none [] s = some (.ref d) := by
  have hs := flat_of_before _ hgv
  have hA : ∀ a : Nat, a < s.heap.size → ¬ (fun q : Nat => s.heap.size ≤ q) a := fun a h => Nat.not_le.mpr h
  exact str_of (A := fun q : Nat => s.heap.size ≤ q) "ChairCaneModel" 142 6 [115, 105, 116, 116, 101, 114] (by decide) (show Jvm.Cond.before (Cond.exactly (.string "ChairCaneModel" 142) "java/lang/String") #[Value.ref b] s = true from bf_l (bf_r (bf_l (bf_r (bf_r (bf_l (bf_l (bf_r (bf_r hgv))))))))) (show Jvm.Cond.before (Cond.eq (.field (.string "ChairCaneModel" 142) "java/lang/String" "coder" "B") (.int 0)) #[Value.ref b] s = true from bf_l (bf_r (bf_r (bf_l (bf_r (bf_r (bf_l (bf_l (bf_r (bf_r hgv)))))))))) (show Jvm.Cond.before (Cond.arrayOf (.field (.string "ChairCaneModel" 142) "java/lang/String" "value" "[B") .byte) #[Value.ref b] s = true from bf_r (bf_r (bf_r (bf_l (bf_r (bf_r (bf_l (bf_l (bf_r (bf_r hgv)))))))))) (show Jvm.Cond.before (Cond.eq (.length (.field (.string "ChairCaneModel" 142) "java/lang/String" "value" "[B")) (.int 6)) #[Value.ref b] s = true from bf_l (bf_l (bf_r (bf_r (bf_r (bf_l (bf_l (bf_r (bf_r hgv))))))))) (by
      intro j hj
      match j, hj with
      | 0, _ => exact show Jvm.Cond.before (Cond.eq (.elem (.field (.string "ChairCaneModel" 142) "java/lang/String" "value" "[B") (.int 0)) (.int 115)) #[Value.ref b] s = true from bf_l (bf_r (bf_l (bf_r (bf_r (bf_r (bf_l (bf_l (bf_r (bf_r hgv)))))))))
      | 1, _ => exact show Jvm.Cond.before (Cond.eq (.elem (.field (.string "ChairCaneModel" 142) "java/lang/String" "value" "[B") (.int 1)) (.int 105)) #[Value.ref b] s = true from bf_r (bf_r (bf_l (bf_r (bf_r (bf_r (bf_l (bf_l (bf_r (bf_r hgv)))))))))
      | 2, _ => exact show Jvm.Cond.before (Cond.eq (.elem (.field (.string "ChairCaneModel" 142) "java/lang/String" "value" "[B") (.int 2)) (.int 116)) #[Value.ref b] s = true from bf_l (bf_r (bf_r (bf_r (bf_r (bf_l (bf_l (bf_r (bf_r hgv))))))))
      | 3, _ => exact show Jvm.Cond.before (Cond.eq (.elem (.field (.string "ChairCaneModel" 142) "java/lang/String" "value" "[B") (.int 3)) (.int 116)) #[Value.ref b] s = true from bf_l (bf_r (bf_r (bf_r (bf_r (bf_r (bf_l (bf_l (bf_r (bf_r hgv)))))))))
      | 4, _ => exact show Jvm.Cond.before (Cond.eq (.elem (.field (.string "ChairCaneModel" 142) "java/lang/String" "value" "[B") (.int 4)) (.int 101)) #[Value.ref b] s = true from bf_r (bf_r (bf_r (bf_r (bf_r (bf_r (bf_l (bf_l (bf_r (bf_r hgv)))))))))
      | 5, _ => exact show Jvm.Cond.before (Cond.eq (.elem (.field (.string "ChairCaneModel" 142) "java/lang/String" "value" "[B") (.int 5)) (.int 114)) #[Value.ref b] s = true from bf_l (bf_l (bf_l (bf_l (bf_l (bf_r (bf_l (bf_r (bf_r hgv))))))))
      | j + 6, h => exact absurd h (by omega)) hA
set_option maxHeartbeats 4000000 in
set_option maxRecDepth 20000 in
theorem law_tY_1 {b : Nat} {s : State} (hgv : (Jvm.Cond.and given_1 narrow_1).before #[Value.ref b] s = true) : ∃ d t : Nat, strF (fun q : Nat => s.heap.size ≤ q) d t 5 (fun j => ([99, 104, 97, 105, 114] : List Int32).getD j 0) s s.heap ∧ (Term.string "ChairCaneModel" 144).eval #[Value.ref b] s none [] s = some (.ref d) := by
  have hs := flat_of_before _ hgv
  have hA : ∀ a : Nat, a < s.heap.size → ¬ (fun q : Nat => s.heap.size ≤ q) a := fun a h => Nat.not_le.mpr h
  exact str_of (A := fun q : Nat => s.heap.size ≤ q) "ChairCaneModel" 144 5 [99, 104, 97, 105, 114] (by decide) (show Jvm.Cond.before (Cond.exactly (.string "ChairCaneModel" 144) "java/lang/String") #[Value.ref b] s = true from bf_l (bf_r (bf_r (bf_l (bf_l (bf_r (bf_l (bf_l (bf_r (bf_r hgv)))))))))) (show Jvm.Cond.before (Cond.eq (.field (.string "ChairCaneModel" 144) "java/lang/String" "coder" "B") (.int 0)) #[Value.ref b] s = true from bf_r (bf_r (bf_r (bf_l (bf_l (bf_r (bf_l (bf_l (bf_r (bf_r hgv)))))))))) (show Jvm.Cond.before (Cond.arrayOf (.field (.string "ChairCaneModel" 144) "java/lang/String" "value" "[B") .byte) #[Value.ref b] s = true from bf_l (bf_l (bf_r (bf_l (bf_r (bf_l (bf_l (bf_r (bf_r hgv))))))))) (show Jvm.Cond.before (Cond.eq (.length (.field (.string "ChairCaneModel" 144) "java/lang/String" "value" "[B")) (.int 5)) #[Value.ref b] s = true from bf_l (bf_r (bf_l (bf_r (bf_l (bf_r (bf_l (bf_l (bf_r (bf_r hgv)))))))))) (by
      intro j hj
      match j, hj with
      | 0, _ => exact show Jvm.Cond.before (Cond.eq (.elem (.field (.string "ChairCaneModel" 144) "java/lang/String" "value" "[B") (.int 0)) (.int 99)) #[Value.ref b] s = true from bf_r (bf_r (bf_l (bf_r (bf_l (bf_r (bf_l (bf_l (bf_r (bf_r hgv)))))))))
      | 1, _ => exact show Jvm.Cond.before (Cond.eq (.elem (.field (.string "ChairCaneModel" 144) "java/lang/String" "value" "[B") (.int 1)) (.int 104)) #[Value.ref b] s = true from bf_l (bf_r (bf_r (bf_l (bf_r (bf_l (bf_l (bf_r (bf_r hgv))))))))
      | 2, _ => exact show Jvm.Cond.before (Cond.eq (.elem (.field (.string "ChairCaneModel" 144) "java/lang/String" "value" "[B") (.int 2)) (.int 97)) #[Value.ref b] s = true from bf_l (bf_r (bf_r (bf_r (bf_l (bf_r (bf_l (bf_l (bf_r (bf_r hgv)))))))))
      | 3, _ => exact show Jvm.Cond.before (Cond.eq (.elem (.field (.string "ChairCaneModel" 144) "java/lang/String" "value" "[B") (.int 3)) (.int 105)) #[Value.ref b] s = true from bf_r (bf_r (bf_r (bf_r (bf_l (bf_r (bf_l (bf_l (bf_r (bf_r hgv)))))))))
      | 4, _ => exact show Jvm.Cond.before (Cond.eq (.elem (.field (.string "ChairCaneModel" 144) "java/lang/String" "value" "[B") (.int 4)) (.int 114)) #[Value.ref b] s = true from bf_l (bf_l (bf_l (bf_r (bf_r (bf_l (bf_l (bf_r (bf_r hgv))))))))
      | j + 5, h => exact absurd h (by omega)) hA
set_option maxHeartbeats 4000000 in
set_option maxRecDepth 20000 in
theorem law_tY_2 {b : Nat} {s : State} (hgv : (Jvm.Cond.and given_1 narrow_1).before #[Value.ref b] s = true) : ∃ d t : Nat, strF (fun q : Nat => s.heap.size ≤ q) d t 6 (fun j => ([119, 101, 105, 103, 104, 116] : List Int32).getD j 0) s s.heap ∧ (Term.string "ChairCaneModel" 146).eval #[Value.ref b] s none [] s = some (.ref d) := by
  have hs := flat_of_before _ hgv
  have hA : ∀ a : Nat, a < s.heap.size → ¬ (fun q : Nat => s.heap.size ≤ q) a := fun a h => Nat.not_le.mpr h
  exact str_of (A := fun q : Nat => s.heap.size ≤ q) "ChairCaneModel" 146 6 [119, 101, 105, 103, 104, 116] (by decide) (show Jvm.Cond.before (Cond.exactly (.string "ChairCaneModel" 146) "java/lang/String") #[Value.ref b] s = true from bf_r (bf_r (bf_r (bf_r (bf_l (bf_l (bf_r (bf_l (bf_r (bf_r hgv)))))))))) (show Jvm.Cond.before (Cond.eq (.field (.string "ChairCaneModel" 146) "java/lang/String" "coder" "B") (.int 0)) #[Value.ref b] s = true from bf_l (bf_l (bf_l (bf_r (bf_l (bf_r (bf_l (bf_r (bf_r hgv))))))))) (show Jvm.Cond.before (Cond.arrayOf (.field (.string "ChairCaneModel" 146) "java/lang/String" "value" "[B") .byte) #[Value.ref b] s = true from bf_r (bf_l (bf_l (bf_r (bf_l (bf_r (bf_l (bf_r (bf_r hgv))))))))) (show Jvm.Cond.before (Cond.eq (.length (.field (.string "ChairCaneModel" 146) "java/lang/String" "value" "[B")) (.int 6)) #[Value.ref b] s = true from bf_l (bf_r (bf_l (bf_r (bf_l (bf_r (bf_l (bf_r (bf_r hgv))))))))) (by
      intro j hj
      match j, hj with
      | 0, _ => exact show Jvm.Cond.before (Cond.eq (.elem (.field (.string "ChairCaneModel" 146) "java/lang/String" "value" "[B") (.int 0)) (.int 119)) #[Value.ref b] s = true from bf_l (bf_r (bf_r (bf_l (bf_r (bf_l (bf_r (bf_l (bf_r (bf_r hgv)))))))))
      | 1, _ => exact show Jvm.Cond.before (Cond.eq (.elem (.field (.string "ChairCaneModel" 146) "java/lang/String" "value" "[B") (.int 1)) (.int 101)) #[Value.ref b] s = true from bf_r (bf_r (bf_r (bf_l (bf_r (bf_l (bf_r (bf_l (bf_r (bf_r hgv)))))))))
      | 2, _ => exact show Jvm.Cond.before (Cond.eq (.elem (.field (.string "ChairCaneModel" 146) "java/lang/String" "value" "[B") (.int 2)) (.int 105)) #[Value.ref b] s = true from bf_l (bf_l (bf_r (bf_r (bf_l (bf_r (bf_l (bf_r (bf_r hgv))))))))
      | 3, _ => exact show Jvm.Cond.before (Cond.eq (.elem (.field (.string "ChairCaneModel" 146) "java/lang/String" "value" "[B") (.int 3)) (.int 103)) #[Value.ref b] s = true from bf_l (bf_r (bf_l (bf_r (bf_r (bf_l (bf_r (bf_l (bf_r (bf_r hgv)))))))))
      | 4, _ => exact show Jvm.Cond.before (Cond.eq (.elem (.field (.string "ChairCaneModel" 146) "java/lang/String" "value" "[B") (.int 4)) (.int 104)) #[Value.ref b] s = true from bf_r (bf_r (bf_l (bf_r (bf_r (bf_l (bf_r (bf_l (bf_r (bf_r hgv)))))))))
      | 5, _ => exact show Jvm.Cond.before (Cond.eq (.elem (.field (.string "ChairCaneModel" 146) "java/lang/String" "value" "[B") (.int 5)) (.int 116)) #[Value.ref b] s = true from bf_l (bf_r (bf_r (bf_r (bf_l (bf_r (bf_l (bf_r (bf_r hgv))))))))
      | j + 6, h => exact absurd h (by omega)) hA
set_option maxHeartbeats 4000000 in
set_option maxRecDepth 20000 in
theorem law_tY_3 {b : Nat} {s : State} (hgv : (Jvm.Cond.and given_1 narrow_1).before #[Value.ref b] s = true) : ∃ d t : Nat, strF (fun q : Nat => s.heap.size ≤ q) d t 6 (fun j => ([104, 101, 105, 103, 104, 116] : List Int32).getD j 0) s s.heap ∧ (Term.string "ChairCaneModel" 147).eval #[Value.ref b] s none [] s = some (.ref d) := by
  have hs := flat_of_before _ hgv
  have hA : ∀ a : Nat, a < s.heap.size → ¬ (fun q : Nat => s.heap.size ≤ q) a := fun a h => Nat.not_le.mpr h
  exact str_of (A := fun q : Nat => s.heap.size ≤ q) "ChairCaneModel" 147 6 [104, 101, 105, 103, 104, 116] (by decide) (show Jvm.Cond.before (Cond.exactly (.string "ChairCaneModel" 147) "java/lang/String") #[Value.ref b] s = true from bf_r (bf_r (bf_r (bf_r (bf_r (bf_l (bf_r (bf_l (bf_r (bf_r hgv)))))))))) (show Jvm.Cond.before (Cond.eq (.field (.string "ChairCaneModel" 147) "java/lang/String" "coder" "B") (.int 0)) #[Value.ref b] s = true from bf_l (bf_l (bf_l (bf_l (bf_r (bf_r (bf_l (bf_r (bf_r hgv))))))))) (show Jvm.Cond.before (Cond.arrayOf (.field (.string "ChairCaneModel" 147) "java/lang/String" "value" "[B") .byte) #[Value.ref b] s = true from bf_r (bf_l (bf_l (bf_l (bf_r (bf_r (bf_l (bf_r (bf_r hgv))))))))) (show Jvm.Cond.before (Cond.eq (.length (.field (.string "ChairCaneModel" 147) "java/lang/String" "value" "[B")) (.int 6)) #[Value.ref b] s = true from bf_l (bf_r (bf_l (bf_l (bf_r (bf_r (bf_l (bf_r (bf_r hgv))))))))) (by
      intro j hj
      match j, hj with
      | 0, _ => exact show Jvm.Cond.before (Cond.eq (.elem (.field (.string "ChairCaneModel" 147) "java/lang/String" "value" "[B") (.int 0)) (.int 104)) #[Value.ref b] s = true from bf_l (bf_r (bf_r (bf_l (bf_l (bf_r (bf_r (bf_l (bf_r (bf_r hgv)))))))))
      | 1, _ => exact show Jvm.Cond.before (Cond.eq (.elem (.field (.string "ChairCaneModel" 147) "java/lang/String" "value" "[B") (.int 1)) (.int 101)) #[Value.ref b] s = true from bf_r (bf_r (bf_r (bf_l (bf_l (bf_r (bf_r (bf_l (bf_r (bf_r hgv)))))))))
      | 2, _ => exact show Jvm.Cond.before (Cond.eq (.elem (.field (.string "ChairCaneModel" 147) "java/lang/String" "value" "[B") (.int 2)) (.int 105)) #[Value.ref b] s = true from bf_l (bf_l (bf_r (bf_l (bf_r (bf_r (bf_l (bf_r (bf_r hgv))))))))
      | 3, _ => exact show Jvm.Cond.before (Cond.eq (.elem (.field (.string "ChairCaneModel" 147) "java/lang/String" "value" "[B") (.int 3)) (.int 103)) #[Value.ref b] s = true from bf_l (bf_r (bf_l (bf_r (bf_l (bf_r (bf_r (bf_l (bf_r (bf_r hgv)))))))))
      | 4, _ => exact show Jvm.Cond.before (Cond.eq (.elem (.field (.string "ChairCaneModel" 147) "java/lang/String" "value" "[B") (.int 4)) (.int 104)) #[Value.ref b] s = true from bf_r (bf_r (bf_l (bf_r (bf_l (bf_r (bf_r (bf_l (bf_r (bf_r hgv)))))))))
      | 5, _ => exact show Jvm.Cond.before (Cond.eq (.elem (.field (.string "ChairCaneModel" 147) "java/lang/String" "value" "[B") (.int 5)) (.int 116)) #[Value.ref b] s = true from bf_l (bf_r (bf_r (bf_l (bf_r (bf_r (bf_l (bf_r (bf_r hgv))))))))
      | j + 6, h => exact absurd h (by omega)) hA
set_option maxHeartbeats 4000000 in
set_option maxRecDepth 20000 in
theorem law_tY_4 {b : Nat} {s : State} (hgv : (Jvm.Cond.and given_1 narrow_1).before #[Value.ref b] s = true) : ∃ d t : Nat, strF (fun q : Nat => s.heap.size ≤ q) d t 4 (fun j => ([99, 97, 110, 101] : List Int32).getD j 0) s s.heap ∧ (Term.string "ChairCaneModel" 148).eval #[Value.ref b] s none [] s = some (.ref d) := by
  have hs := flat_of_before _ hgv
  have hA : ∀ a : Nat, a < s.heap.size → ¬ (fun q : Nat => s.heap.size ≤ q) a := fun a h => Nat.not_le.mpr h
  exact str_of (A := fun q : Nat => s.heap.size ≤ q) "ChairCaneModel" 148 4 [99, 97, 110, 101] (by decide) (show Jvm.Cond.before (Cond.exactly (.string "ChairCaneModel" 148) "java/lang/String") #[Value.ref b] s = true from bf_r (bf_r (bf_r (bf_r (bf_l (bf_r (bf_r (bf_l (bf_r (bf_r hgv)))))))))) (show Jvm.Cond.before (Cond.eq (.field (.string "ChairCaneModel" 148) "java/lang/String" "coder" "B") (.int 0)) #[Value.ref b] s = true from bf_l (bf_l (bf_l (bf_r (bf_r (bf_r (bf_l (bf_r (bf_r hgv))))))))) (show Jvm.Cond.before (Cond.arrayOf (.field (.string "ChairCaneModel" 148) "java/lang/String" "value" "[B") .byte) #[Value.ref b] s = true from bf_r (bf_l (bf_l (bf_r (bf_r (bf_r (bf_l (bf_r (bf_r hgv))))))))) (show Jvm.Cond.before (Cond.eq (.length (.field (.string "ChairCaneModel" 148) "java/lang/String" "value" "[B")) (.int 4)) #[Value.ref b] s = true from bf_l (bf_r (bf_l (bf_r (bf_r (bf_r (bf_l (bf_r (bf_r hgv))))))))) (by
      intro j hj
      match j, hj with
      | 0, _ => exact show Jvm.Cond.before (Cond.eq (.elem (.field (.string "ChairCaneModel" 148) "java/lang/String" "value" "[B") (.int 0)) (.int 99)) #[Value.ref b] s = true from bf_l (bf_r (bf_r (bf_l (bf_r (bf_r (bf_r (bf_l (bf_r (bf_r hgv)))))))))
      | 1, _ => exact show Jvm.Cond.before (Cond.eq (.elem (.field (.string "ChairCaneModel" 148) "java/lang/String" "value" "[B") (.int 1)) (.int 97)) #[Value.ref b] s = true from bf_r (bf_r (bf_r (bf_l (bf_r (bf_r (bf_r (bf_l (bf_r (bf_r hgv)))))))))
      | 2, _ => exact show Jvm.Cond.before (Cond.eq (.elem (.field (.string "ChairCaneModel" 148) "java/lang/String" "value" "[B") (.int 2)) (.int 110)) #[Value.ref b] s = true from bf_l (bf_l (bf_r (bf_r (bf_r (bf_r (bf_l (bf_r (bf_r hgv))))))))
      | 3, _ => exact show Jvm.Cond.before (Cond.eq (.elem (.field (.string "ChairCaneModel" 148) "java/lang/String" "value" "[B") (.int 3)) (.int 101)) #[Value.ref b] s = true from bf_l (bf_r (bf_l (bf_r (bf_r (bf_r (bf_r (bf_l (bf_r (bf_r hgv)))))))))
      | j + 4, h => exact absurd h (by omega)) hA
set_option maxHeartbeats 4000000 in
set_option maxRecDepth 20000 in
theorem law_tY_5 {b : Nat} {s : State} (hgv : (Jvm.Cond.and given_1 narrow_1).before #[Value.ref b] s = true) : ∃ d t : Nat, strF (fun q : Nat => s.heap.size ≤ q) d t 4 (fun j => ([115, 105, 116, 115] : List Int32).getD j 0) s s.heap ∧ (Term.string "ChairCaneModel" 149).eval #[Value.ref b] s none [] s = some (.ref d) := by
  have hs := flat_of_before _ hgv
  have hA : ∀ a : Nat, a < s.heap.size → ¬ (fun q : Nat => s.heap.size ≤ q) a := fun a h => Nat.not_le.mpr h
  exact str_of (A := fun q : Nat => s.heap.size ≤ q) "ChairCaneModel" 149 4 [115, 105, 116, 115] (by decide) (show Jvm.Cond.before (Cond.exactly (.string "ChairCaneModel" 149) "java/lang/String") #[Value.ref b] s = true from bf_l (bf_r (bf_r (bf_r (bf_r (bf_r (bf_l (bf_r (bf_r hgv))))))))) (show Jvm.Cond.before (Cond.eq (.field (.string "ChairCaneModel" 149) "java/lang/String" "coder" "B") (.int 0)) #[Value.ref b] s = true from bf_l (bf_r (bf_r (bf_r (bf_r (bf_r (bf_r (bf_l (bf_r (bf_r hgv)))))))))) (show Jvm.Cond.before (Cond.arrayOf (.field (.string "ChairCaneModel" 149) "java/lang/String" "value" "[B") .byte) #[Value.ref b] s = true from bf_r (bf_r (bf_r (bf_r (bf_r (bf_r (bf_r (bf_l (bf_r (bf_r hgv)))))))))) (show Jvm.Cond.before (Cond.eq (.length (.field (.string "ChairCaneModel" 149) "java/lang/String" "value" "[B")) (.int 4)) #[Value.ref b] s = true from bf_l (bf_l (bf_l (bf_l (bf_l (bf_l (bf_r (bf_r (bf_r hgv))))))))) (by
      intro j hj
      match j, hj with
      | 0, _ => exact show Jvm.Cond.before (Cond.eq (.elem (.field (.string "ChairCaneModel" 149) "java/lang/String" "value" "[B") (.int 0)) (.int 115)) #[Value.ref b] s = true from bf_r (bf_l (bf_l (bf_l (bf_l (bf_l (bf_r (bf_r (bf_r hgv))))))))
      | 1, _ => exact show Jvm.Cond.before (Cond.eq (.elem (.field (.string "ChairCaneModel" 149) "java/lang/String" "value" "[B") (.int 1)) (.int 105)) #[Value.ref b] s = true from bf_l (bf_r (bf_l (bf_l (bf_l (bf_l (bf_r (bf_r (bf_r hgv))))))))
      | 2, _ => exact show Jvm.Cond.before (Cond.eq (.elem (.field (.string "ChairCaneModel" 149) "java/lang/String" "value" "[B") (.int 2)) (.int 116)) #[Value.ref b] s = true from bf_l (bf_r (bf_r (bf_l (bf_l (bf_l (bf_l (bf_r (bf_r (bf_r hgv)))))))))
      | 3, _ => exact show Jvm.Cond.before (Cond.eq (.elem (.field (.string "ChairCaneModel" 149) "java/lang/String" "value" "[B") (.int 3)) (.int 115)) #[Value.ref b] s = true from bf_r (bf_r (bf_r (bf_l (bf_l (bf_l (bf_l (bf_r (bf_r (bf_r hgv)))))))))
      | j + 4, h => exact absurd h (by omega)) hA
set_option maxHeartbeats 4000000 in
set_option maxRecDepth 20000 in
theorem law_tY_6 {b : Nat} {s : State} (hgv : (Jvm.Cond.and given_1 narrow_1).before #[Value.ref b] s = true) : ∃ d t : Nat, strF (fun q : Nat => s.heap.size ≤ q) d t 4 (fun j => ([103, 105, 118, 101] : List Int32).getD j 0) s s.heap ∧ (Term.string "ChairCaneModel" 151).eval #[Value.ref b] s none [] s = some (.ref d) := by
  have hs := flat_of_before _ hgv
  have hA : ∀ a : Nat, a < s.heap.size → ¬ (fun q : Nat => s.heap.size ≤ q) a := fun a h => Nat.not_le.mpr h
  exact str_of (A := fun q : Nat => s.heap.size ≤ q) "ChairCaneModel" 151 4 [103, 105, 118, 101] (by decide) (show Jvm.Cond.before (Cond.exactly (.string "ChairCaneModel" 151) "java/lang/String") #[Value.ref b] s = true from bf_l (bf_r (bf_l (bf_r (bf_l (bf_l (bf_l (bf_r (bf_r (bf_r hgv)))))))))) (show Jvm.Cond.before (Cond.eq (.field (.string "ChairCaneModel" 151) "java/lang/String" "coder" "B") (.int 0)) #[Value.ref b] s = true from bf_r (bf_r (bf_l (bf_r (bf_l (bf_l (bf_l (bf_r (bf_r (bf_r hgv)))))))))) (show Jvm.Cond.before (Cond.arrayOf (.field (.string "ChairCaneModel" 151) "java/lang/String" "value" "[B") .byte) #[Value.ref b] s = true from bf_l (bf_r (bf_r (bf_l (bf_l (bf_l (bf_r (bf_r (bf_r hgv))))))))) (show Jvm.Cond.before (Cond.eq (.length (.field (.string "ChairCaneModel" 151) "java/lang/String" "value" "[B")) (.int 4)) #[Value.ref b] s = true from bf_l (bf_r (bf_r (bf_r (bf_l (bf_l (bf_l (bf_r (bf_r (bf_r hgv)))))))))) (by
      intro j hj
      match j, hj with
      | 0, _ => exact show Jvm.Cond.before (Cond.eq (.elem (.field (.string "ChairCaneModel" 151) "java/lang/String" "value" "[B") (.int 0)) (.int 103)) #[Value.ref b] s = true from bf_r (bf_r (bf_r (bf_r (bf_l (bf_l (bf_l (bf_r (bf_r (bf_r hgv)))))))))
      | 1, _ => exact show Jvm.Cond.before (Cond.eq (.elem (.field (.string "ChairCaneModel" 151) "java/lang/String" "value" "[B") (.int 1)) (.int 105)) #[Value.ref b] s = true from bf_l (bf_l (bf_l (bf_r (bf_l (bf_l (bf_r (bf_r (bf_r hgv))))))))
      | 2, _ => exact show Jvm.Cond.before (Cond.eq (.elem (.field (.string "ChairCaneModel" 151) "java/lang/String" "value" "[B") (.int 2)) (.int 118)) #[Value.ref b] s = true from bf_r (bf_l (bf_l (bf_r (bf_l (bf_l (bf_r (bf_r (bf_r hgv))))))))
      | 3, _ => exact show Jvm.Cond.before (Cond.eq (.elem (.field (.string "ChairCaneModel" 151) "java/lang/String" "value" "[B") (.int 3)) (.int 101)) #[Value.ref b] s = true from bf_l (bf_r (bf_l (bf_r (bf_l (bf_l (bf_r (bf_r (bf_r hgv))))))))
      | j + 4, h => exact absurd h (by omega)) hA
set_option maxHeartbeats 4000000 in
set_option maxRecDepth 20000 in
theorem law_tY_7 {b : Nat} {s : State} (hgv : (Jvm.Cond.and given_1 narrow_1).before #[Value.ref b] s = true) : ∃ d t : Nat, strF (fun q : Nat => s.heap.size ≤ q) d t 6 (fun j => ([111, 116, 104, 101, 114, 115] : List Int32).getD j 0) s s.heap ∧ (Term.string "ChairCaneModel" 153).eval #[Value.ref b] s none [] s = some (.ref d) := by
  have hs := flat_of_before _ hgv
  have hA : ∀ a : Nat, a < s.heap.size → ¬ (fun q : Nat => s.heap.size ≤ q) a := fun a h => Nat.not_le.mpr h
  exact str_of (A := fun q : Nat => s.heap.size ≤ q) "ChairCaneModel" 153 6 [111, 116, 104, 101, 114, 115] (by decide) (show Jvm.Cond.before (Cond.exactly (.string "ChairCaneModel" 153) "java/lang/String") #[Value.ref b] s = true from bf_r (bf_r (bf_r (bf_l (bf_r (bf_l (bf_l (bf_r (bf_r (bf_r hgv)))))))))) (show Jvm.Cond.before (Cond.eq (.field (.string "ChairCaneModel" 153) "java/lang/String" "coder" "B") (.int 0)) #[Value.ref b] s = true from bf_l (bf_l (bf_r (bf_r (bf_l (bf_l (bf_r (bf_r (bf_r hgv))))))))) (show Jvm.Cond.before (Cond.arrayOf (.field (.string "ChairCaneModel" 153) "java/lang/String" "value" "[B") .byte) #[Value.ref b] s = true from bf_l (bf_r (bf_l (bf_r (bf_r (bf_l (bf_l (bf_r (bf_r (bf_r hgv)))))))))) (show Jvm.Cond.before (Cond.eq (.length (.field (.string "ChairCaneModel" 153) "java/lang/String" "value" "[B")) (.int 6)) #[Value.ref b] s = true from bf_r (bf_r (bf_l (bf_r (bf_r (bf_l (bf_l (bf_r (bf_r (bf_r hgv)))))))))) (by
      intro j hj
      match j, hj with
      | 0, _ => exact show Jvm.Cond.before (Cond.eq (.elem (.field (.string "ChairCaneModel" 153) "java/lang/String" "value" "[B") (.int 0)) (.int 111)) #[Value.ref b] s = true from bf_l (bf_r (bf_r (bf_r (bf_l (bf_l (bf_r (bf_r (bf_r hgv))))))))
      | 1, _ => exact show Jvm.Cond.before (Cond.eq (.elem (.field (.string "ChairCaneModel" 153) "java/lang/String" "value" "[B") (.int 1)) (.int 116)) #[Value.ref b] s = true from bf_l (bf_r (bf_r (bf_r (bf_r (bf_l (bf_l (bf_r (bf_r (bf_r hgv)))))))))
      | 2, _ => exact show Jvm.Cond.before (Cond.eq (.elem (.field (.string "ChairCaneModel" 153) "java/lang/String" "value" "[B") (.int 2)) (.int 104)) #[Value.ref b] s = true from bf_r (bf_r (bf_r (bf_r (bf_r (bf_l (bf_l (bf_r (bf_r (bf_r hgv)))))))))
      | 3, _ => exact show Jvm.Cond.before (Cond.eq (.elem (.field (.string "ChairCaneModel" 153) "java/lang/String" "value" "[B") (.int 3)) (.int 101)) #[Value.ref b] s = true from bf_l (bf_l (bf_l (bf_l (bf_r (bf_l (bf_r (bf_r (bf_r hgv))))))))
      | 4, _ => exact show Jvm.Cond.before (Cond.eq (.elem (.field (.string "ChairCaneModel" 153) "java/lang/String" "value" "[B") (.int 4)) (.int 114)) #[Value.ref b] s = true from bf_r (bf_l (bf_l (bf_l (bf_r (bf_l (bf_r (bf_r (bf_r hgv))))))))
      | 5, _ => exact show Jvm.Cond.before (Cond.eq (.elem (.field (.string "ChairCaneModel" 153) "java/lang/String" "value" "[B") (.int 5)) (.int 115)) #[Value.ref b] s = true from bf_l (bf_r (bf_l (bf_l (bf_r (bf_l (bf_r (bf_r (bf_r hgv))))))))
      | j + 6, h => exact absurd h (by omega)) hA
set_option maxHeartbeats 4000000 in
set_option maxRecDepth 20000 in
theorem law_tY_8 {b : Nat} {s : State} (hgv : (Jvm.Cond.and given_1 narrow_1).before #[Value.ref b] s = true) : ∃ d t : Nat, strF (fun q : Nat => s.heap.size ≤ q) d t 5 (fun j => ([112, 114, 101, 115, 115] : List Int32).getD j 0) s s.heap ∧ (Term.string "ChairCaneModel" 155).eval #[Value.ref b] s none [] s = some (.ref d) := by
  have hs := flat_of_before _ hgv
  have hA : ∀ a : Nat, a < s.heap.size → ¬ (fun q : Nat => s.heap.size ≤ q) a := fun a h => Nat.not_le.mpr h
  exact str_of (A := fun q : Nat => s.heap.size ≤ q) "ChairCaneModel" 155 5 [112, 114, 101, 115, 115] (by decide) (show Jvm.Cond.before (Cond.exactly (.string "ChairCaneModel" 155) "java/lang/String") #[Value.ref b] s = true from bf_r (bf_r (bf_r (bf_l (bf_l (bf_r (bf_l (bf_r (bf_r (bf_r hgv)))))))))) (show Jvm.Cond.before (Cond.eq (.field (.string "ChairCaneModel" 155) "java/lang/String" "coder" "B") (.int 0)) #[Value.ref b] s = true from bf_l (bf_l (bf_r (bf_l (bf_r (bf_l (bf_r (bf_r (bf_r hgv))))))))) (show Jvm.Cond.before (Cond.arrayOf (.field (.string "ChairCaneModel" 155) "java/lang/String" "value" "[B") .byte) #[Value.ref b] s = true from bf_l (bf_r (bf_l (bf_r (bf_l (bf_r (bf_l (bf_r (bf_r (bf_r hgv)))))))))) (show Jvm.Cond.before (Cond.eq (.length (.field (.string "ChairCaneModel" 155) "java/lang/String" "value" "[B")) (.int 5)) #[Value.ref b] s = true from bf_r (bf_r (bf_l (bf_r (bf_l (bf_r (bf_l (bf_r (bf_r (bf_r hgv)))))))))) (by
      intro j hj
      match j, hj with
      | 0, _ => exact show Jvm.Cond.before (Cond.eq (.elem (.field (.string "ChairCaneModel" 155) "java/lang/String" "value" "[B") (.int 0)) (.int 112)) #[Value.ref b] s = true from bf_l (bf_r (bf_r (bf_l (bf_r (bf_l (bf_r (bf_r (bf_r hgv))))))))
      | 1, _ => exact show Jvm.Cond.before (Cond.eq (.elem (.field (.string "ChairCaneModel" 155) "java/lang/String" "value" "[B") (.int 1)) (.int 114)) #[Value.ref b] s = true from bf_l (bf_r (bf_r (bf_r (bf_l (bf_r (bf_l (bf_r (bf_r (bf_r hgv)))))))))
      | 2, _ => exact show Jvm.Cond.before (Cond.eq (.elem (.field (.string "ChairCaneModel" 155) "java/lang/String" "value" "[B") (.int 2)) (.int 101)) #[Value.ref b] s = true from bf_r (bf_r (bf_r (bf_r (bf_l (bf_r (bf_l (bf_r (bf_r (bf_r hgv)))))))))
      | 3, _ => exact show Jvm.Cond.before (Cond.eq (.elem (.field (.string "ChairCaneModel" 155) "java/lang/String" "value" "[B") (.int 3)) (.int 115)) #[Value.ref b] s = true from bf_l (bf_l (bf_l (bf_r (bf_r (bf_l (bf_r (bf_r (bf_r hgv))))))))
      | 4, _ => exact show Jvm.Cond.before (Cond.eq (.elem (.field (.string "ChairCaneModel" 155) "java/lang/String" "value" "[B") (.int 4)) (.int 115)) #[Value.ref b] s = true from bf_r (bf_l (bf_l (bf_r (bf_r (bf_l (bf_r (bf_r (bf_r hgv))))))))
      | j + 5, h => exact absurd h (by omega)) hA
set_option maxHeartbeats 4000000 in
set_option maxRecDepth 20000 in
theorem law_tY_9 {b : Nat} {s : State} (hgv : (Jvm.Cond.and given_1 narrow_1).before #[Value.ref b] s = true) : ∃ d t : Nat, strF (fun q : Nat => s.heap.size ≤ q) d t 7 (fun j => ([100, 114, 111, 112, 112, 101, 100] : List Int32).getD j 0) s s.heap ∧ (Term.string "ChairCaneModel" 157).eval #[Value.ref b] s none [] s = some (.ref d) := by
  have hs := flat_of_before _ hgv
  have hA : ∀ a : Nat, a < s.heap.size → ¬ (fun q : Nat => s.heap.size ≤ q) a := fun a h => Nat.not_le.mpr h
  exact str_of (A := fun q : Nat => s.heap.size ≤ q) "ChairCaneModel" 157 7 [100, 114, 111, 112, 112, 101, 100] (by decide) (show Jvm.Cond.before (Cond.exactly (.string "ChairCaneModel" 157) "java/lang/String") #[Value.ref b] s = true from bf_l (bf_r (bf_r (bf_l (bf_r (bf_r (bf_l (bf_r (bf_r (bf_r hgv)))))))))) (show Jvm.Cond.before (Cond.eq (.field (.string "ChairCaneModel" 157) "java/lang/String" "coder" "B") (.int 0)) #[Value.ref b] s = true from bf_r (bf_r (bf_r (bf_l (bf_r (bf_r (bf_l (bf_r (bf_r (bf_r hgv)))))))))) (show Jvm.Cond.before (Cond.arrayOf (.field (.string "ChairCaneModel" 157) "java/lang/String" "value" "[B") .byte) #[Value.ref b] s = true from bf_l (bf_l (bf_r (bf_r (bf_r (bf_l (bf_r (bf_r (bf_r hgv))))))))) (show Jvm.Cond.before (Cond.eq (.length (.field (.string "ChairCaneModel" 157) "java/lang/String" "value" "[B")) (.int 7)) #[Value.ref b] s = true from bf_l (bf_r (bf_l (bf_r (bf_r (bf_r (bf_l (bf_r (bf_r (bf_r hgv)))))))))) (by
      intro j hj
      match j, hj with
      | 0, _ => exact show Jvm.Cond.before (Cond.eq (.elem (.field (.string "ChairCaneModel" 157) "java/lang/String" "value" "[B") (.int 0)) (.int 100)) #[Value.ref b] s = true from bf_r (bf_r (bf_l (bf_r (bf_r (bf_r (bf_l (bf_r (bf_r (bf_r hgv)))))))))
      | 1, _ => exact show Jvm.Cond.before (Cond.eq (.elem (.field (.string "ChairCaneModel" 157) "java/lang/String" "value" "[B") (.int 1)) (.int 114)) #[Value.ref b] s = true from bf_l (bf_r (bf_r (bf_r (bf_r (bf_l (bf_r (bf_r (bf_r hgv))))))))
      | 2, _ => exact show Jvm.Cond.before (Cond.eq (.elem (.field (.string "ChairCaneModel" 157) "java/lang/String" "value" "[B") (.int 2)) (.int 111)) #[Value.ref b] s = true from bf_l (bf_r (bf_r (bf_r (bf_r (bf_r (bf_l (bf_r (bf_r (bf_r hgv)))))))))
      | 3, _ => exact show Jvm.Cond.before (Cond.eq (.elem (.field (.string "ChairCaneModel" 157) "java/lang/String" "value" "[B") (.int 3)) (.int 112)) #[Value.ref b] s = true from bf_r (bf_r (bf_r (bf_r (bf_r (bf_r (bf_l (bf_r (bf_r (bf_r hgv)))))))))
      | 4, _ => exact show Jvm.Cond.before (Cond.eq (.elem (.field (.string "ChairCaneModel" 157) "java/lang/String" "value" "[B") (.int 4)) (.int 112)) #[Value.ref b] s = true from bf_l (bf_l (bf_l (bf_l (bf_l (bf_r (bf_r (bf_r (bf_r hgv))))))))
      | 5, _ => exact show Jvm.Cond.before (Cond.eq (.elem (.field (.string "ChairCaneModel" 157) "java/lang/String" "value" "[B") (.int 5)) (.int 101)) #[Value.ref b] s = true from bf_r (bf_l (bf_l (bf_l (bf_l (bf_r (bf_r (bf_r (bf_r hgv))))))))
      | 6, _ => exact show Jvm.Cond.before (Cond.eq (.elem (.field (.string "ChairCaneModel" 157) "java/lang/String" "value" "[B") (.int 6)) (.int 100)) #[Value.ref b] s = true from bf_l (bf_r (bf_l (bf_l (bf_l (bf_r (bf_r (bf_r (bf_r hgv))))))))
      | j + 7, h => exact absurd h (by omega)) hA
set_option maxHeartbeats 4000000 in
set_option maxRecDepth 20000 in
theorem law_tY_10 {b : Nat} {s : State} (hgv : (Jvm.Cond.and given_1 narrow_1).before #[Value.ref b] s = true) : ∃ d t : Nat, strF (fun q : Nat => s.heap.size ≤ q) d t 6 (fun j => ([109, 105, 110, 117, 116, 101] : List Int32).getD j 0) s s.heap ∧ (Term.string "ChairCaneModel" 159).eval #[Value.ref b] s none [] s = some (.ref d) := by
  have hs := flat_of_before _ hgv
  have hA : ∀ a : Nat, a < s.heap.size → ¬ (fun q : Nat => s.heap.size ≤ q) a := fun a h => Nat.not_le.mpr h
  exact str_of (A := fun q : Nat => s.heap.size ≤ q) "ChairCaneModel" 159 6 [109, 105, 110, 117, 116, 101] (by decide) (show Jvm.Cond.before (Cond.exactly (.string "ChairCaneModel" 159) "java/lang/String") #[Value.ref b] s = true from bf_r (bf_r (bf_r (bf_l (bf_l (bf_l (bf_r (bf_r (bf_r (bf_r hgv)))))))))) (show Jvm.Cond.before (Cond.eq (.field (.string "ChairCaneModel" 159) "java/lang/String" "coder" "B") (.int 0)) #[Value.ref b] s = true from bf_l (bf_l (bf_r (bf_l (bf_l (bf_r (bf_r (bf_r (bf_r hgv))))))))) (show Jvm.Cond.before (Cond.arrayOf (.field (.string "ChairCaneModel" 159) "java/lang/String" "value" "[B") .byte) #[Value.ref b] s = true from bf_l (bf_r (bf_l (bf_r (bf_l (bf_l (bf_r (bf_r (bf_r (bf_r hgv)))))))))) (show Jvm.Cond.before (Cond.eq (.length (.field (.string "ChairCaneModel" 159) "java/lang/String" "value" "[B")) (.int 6)) #[Value.ref b] s = true from bf_r (bf_r (bf_l (bf_r (bf_l (bf_l (bf_r (bf_r (bf_r (bf_r hgv)))))))))) (by
      intro j hj
      match j, hj with
      | 0, _ => exact show Jvm.Cond.before (Cond.eq (.elem (.field (.string "ChairCaneModel" 159) "java/lang/String" "value" "[B") (.int 0)) (.int 109)) #[Value.ref b] s = true from bf_l (bf_r (bf_r (bf_l (bf_l (bf_r (bf_r (bf_r (bf_r hgv))))))))
      | 1, _ => exact show Jvm.Cond.before (Cond.eq (.elem (.field (.string "ChairCaneModel" 159) "java/lang/String" "value" "[B") (.int 1)) (.int 105)) #[Value.ref b] s = true from bf_l (bf_r (bf_r (bf_r (bf_l (bf_l (bf_r (bf_r (bf_r (bf_r hgv)))))))))
      | 2, _ => exact show Jvm.Cond.before (Cond.eq (.elem (.field (.string "ChairCaneModel" 159) "java/lang/String" "value" "[B") (.int 2)) (.int 110)) #[Value.ref b] s = true from bf_r (bf_r (bf_r (bf_r (bf_l (bf_l (bf_r (bf_r (bf_r (bf_r hgv)))))))))
      | 3, _ => exact show Jvm.Cond.before (Cond.eq (.elem (.field (.string "ChairCaneModel" 159) "java/lang/String" "value" "[B") (.int 3)) (.int 117)) #[Value.ref b] s = true from bf_l (bf_l (bf_l (bf_r (bf_l (bf_r (bf_r (bf_r (bf_r hgv))))))))
      | 4, _ => exact show Jvm.Cond.before (Cond.eq (.elem (.field (.string "ChairCaneModel" 159) "java/lang/String" "value" "[B") (.int 4)) (.int 116)) #[Value.ref b] s = true from bf_r (bf_l (bf_l (bf_r (bf_l (bf_r (bf_r (bf_r (bf_r hgv))))))))
      | 5, _ => exact show Jvm.Cond.before (Cond.eq (.elem (.field (.string "ChairCaneModel" 159) "java/lang/String" "value" "[B") (.int 5)) (.int 101)) #[Value.ref b] s = true from bf_l (bf_r (bf_l (bf_r (bf_l (bf_r (bf_r (bf_r (bf_r hgv))))))))
      | j + 6, h => exact absurd h (by omega)) hA
set_option maxHeartbeats 4000000 in
set_option maxRecDepth 20000 in
theorem law_tY_11 {b : Nat} {s : State} (hgv : (Jvm.Cond.and given_1 narrow_1).before #[Value.ref b] s = true) : ∃ d t : Nat, strF (fun q : Nat => s.heap.size ≤ q) d t 4 (fun j => ([104, 97, 108, 108] : List Int32).getD j 0) s s.heap ∧ (Term.string "ChairCaneModel" 259).eval #[Value.ref b] s none [] s = some (.ref d) := by
  have hs := flat_of_before _ hgv
  have hA : ∀ a : Nat, a < s.heap.size → ¬ (fun q : Nat => s.heap.size ≤ q) a := fun a h => Nat.not_le.mpr h
  exact str_of (A := fun q : Nat => s.heap.size ≤ q) "ChairCaneModel" 259 4 [104, 97, 108, 108] (by decide) (show Jvm.Cond.before (Cond.exactly (.string "ChairCaneModel" 259) "java/lang/String") #[Value.ref b] s = true from bf_l (bf_l (bf_r (bf_l (bf_l (bf_l (bf_l (bf_r (bf_r hgv))))))))) (show Jvm.Cond.before (Cond.eq (.field (.string "ChairCaneModel" 259) "java/lang/String" "coder" "B") (.int 0)) #[Value.ref b] s = true from bf_l (bf_r (bf_l (bf_r (bf_l (bf_l (bf_l (bf_l (bf_r (bf_r hgv)))))))))) (show Jvm.Cond.before (Cond.arrayOf (.field (.string "ChairCaneModel" 259) "java/lang/String" "value" "[B") .byte) #[Value.ref b] s = true from bf_r (bf_r (bf_l (bf_r (bf_l (bf_l (bf_l (bf_l (bf_r (bf_r hgv)))))))))) (show Jvm.Cond.before (Cond.eq (.length (.field (.string "ChairCaneModel" 259) "java/lang/String" "value" "[B")) (.int 4)) #[Value.ref b] s = true from bf_l (bf_r (bf_r (bf_l (bf_l (bf_l (bf_l (bf_r (bf_r hgv))))))))) (by
      intro j hj
      match j, hj with
      | 0, _ => exact show Jvm.Cond.before (Cond.eq (.elem (.field (.string "ChairCaneModel" 259) "java/lang/String" "value" "[B") (.int 0)) (.int 104)) #[Value.ref b] s = true from bf_l (bf_r (bf_r (bf_r (bf_l (bf_l (bf_l (bf_l (bf_r (bf_r hgv)))))))))
      | 1, _ => exact show Jvm.Cond.before (Cond.eq (.elem (.field (.string "ChairCaneModel" 259) "java/lang/String" "value" "[B") (.int 1)) (.int 97)) #[Value.ref b] s = true from bf_r (bf_r (bf_r (bf_r (bf_l (bf_l (bf_l (bf_l (bf_r (bf_r hgv)))))))))
      | 2, _ => exact show Jvm.Cond.before (Cond.eq (.elem (.field (.string "ChairCaneModel" 259) "java/lang/String" "value" "[B") (.int 2)) (.int 108)) #[Value.ref b] s = true from bf_l (bf_l (bf_l (bf_r (bf_l (bf_l (bf_l (bf_r (bf_r hgv))))))))
      | 3, _ => exact show Jvm.Cond.before (Cond.eq (.elem (.field (.string "ChairCaneModel" 259) "java/lang/String" "value" "[B") (.int 3)) (.int 108)) #[Value.ref b] s = true from bf_r (bf_l (bf_l (bf_r (bf_l (bf_l (bf_l (bf_r (bf_r hgv))))))))
      | j + 4, h => exact absurd h (by omega)) hA
set_option maxHeartbeats 4000000 in
set_option maxRecDepth 20000 in
theorem law_tY_12 {b : Nat} {s : State} (hgv : (Jvm.Cond.and given_1 narrow_1).before #[Value.ref b] s = true) : ∃ d t : Nat, strF (fun q : Nat => s.heap.size ≤ q) d t 6 (fun j => ([115, 116, 114, 97, 110, 100] : List Int32).getD j 0) s s.heap ∧ (Term.string "ChairCaneModel" 261).eval #[Value.ref b] s none [] s = some (.ref d) := by
  have hs := flat_of_before _ hgv
  have hA : ∀ a : Nat, a < s.heap.size → ¬ (fun q : Nat => s.heap.size ≤ q) a := fun a h => Nat.not_le.mpr h
  exact str_of (A := fun q : Nat => s.heap.size ≤ q) "ChairCaneModel" 261 6 [115, 116, 114, 97, 110, 100] (by decide) (show Jvm.Cond.before (Cond.exactly (.string "ChairCaneModel" 261) "java/lang/String") #[Value.ref b] s = true from bf_l (bf_r (bf_r (bf_l (bf_r (bf_l (bf_l (bf_l (bf_r (bf_r hgv)))))))))) (show Jvm.Cond.before (Cond.eq (.field (.string "ChairCaneModel" 261) "java/lang/String" "coder" "B") (.int 0)) #[Value.ref b] s = true from bf_r (bf_r (bf_r (bf_l (bf_r (bf_l (bf_l (bf_l (bf_r (bf_r hgv)))))))))) (show Jvm.Cond.before (Cond.arrayOf (.field (.string "ChairCaneModel" 261) "java/lang/String" "value" "[B") .byte) #[Value.ref b] s = true from bf_l (bf_l (bf_r (bf_r (bf_l (bf_l (bf_l (bf_r (bf_r hgv))))))))) (show Jvm.Cond.before (Cond.eq (.length (.field (.string "ChairCaneModel" 261) "java/lang/String" "value" "[B")) (.int 6)) #[Value.ref b] s = true from bf_l (bf_r (bf_l (bf_r (bf_r (bf_l (bf_l (bf_l (bf_r (bf_r hgv)))))))))) (by
      intro j hj
      match j, hj with
      | 0, _ => exact show Jvm.Cond.before (Cond.eq (.elem (.field (.string "ChairCaneModel" 261) "java/lang/String" "value" "[B") (.int 0)) (.int 115)) #[Value.ref b] s = true from bf_r (bf_r (bf_l (bf_r (bf_r (bf_l (bf_l (bf_l (bf_r (bf_r hgv)))))))))
      | 1, _ => exact show Jvm.Cond.before (Cond.eq (.elem (.field (.string "ChairCaneModel" 261) "java/lang/String" "value" "[B") (.int 1)) (.int 116)) #[Value.ref b] s = true from bf_l (bf_r (bf_r (bf_r (bf_l (bf_l (bf_l (bf_r (bf_r hgv))))))))
      | 2, _ => exact show Jvm.Cond.before (Cond.eq (.elem (.field (.string "ChairCaneModel" 261) "java/lang/String" "value" "[B") (.int 2)) (.int 114)) #[Value.ref b] s = true from bf_l (bf_r (bf_r (bf_r (bf_r (bf_l (bf_l (bf_l (bf_r (bf_r hgv)))))))))
      | 3, _ => exact show Jvm.Cond.before (Cond.eq (.elem (.field (.string "ChairCaneModel" 261) "java/lang/String" "value" "[B") (.int 3)) (.int 97)) #[Value.ref b] s = true from bf_r (bf_r (bf_r (bf_r (bf_r (bf_l (bf_l (bf_l (bf_r (bf_r hgv)))))))))
      | 4, _ => exact show Jvm.Cond.before (Cond.eq (.elem (.field (.string "ChairCaneModel" 261) "java/lang/String" "value" "[B") (.int 4)) (.int 110)) #[Value.ref b] s = true from bf_l (bf_l (bf_l (bf_l (bf_r (bf_l (bf_l (bf_r (bf_r hgv))))))))
      | 5, _ => exact show Jvm.Cond.before (Cond.eq (.elem (.field (.string "ChairCaneModel" 261) "java/lang/String" "value" "[B") (.int 5)) (.int 100)) #[Value.ref b] s = true from bf_r (bf_l (bf_l (bf_l (bf_r (bf_l (bf_l (bf_r (bf_r hgv))))))))
      | j + 6, h => exact absurd h (by omega)) hA
set_option maxHeartbeats 4000000 in
set_option maxRecDepth 20000 in
theorem law_tY_13 {b : Nat} {s : State} (hgv : (Jvm.Cond.and given_1 narrow_1).before #[Value.ref b] s = true) : ∃ d t : Nat, strF (fun q : Nat => s.heap.size ≤ q) d t 3 (fun j => ([115, 105, 116] : List Int32).getD j 0) s s.heap ∧ (Term.string "ChairCaneModel" 302).eval #[Value.ref b] s none [] s = some (.ref d) := by
  have hs := flat_of_before _ hgv
  have hA : ∀ a : Nat, a < s.heap.size → ¬ (fun q : Nat => s.heap.size ≤ q) a := fun a h => Nat.not_le.mpr h
  exact str_of (A := fun q : Nat => s.heap.size ≤ q) "ChairCaneModel" 302 3 [115, 105, 116] (by decide) (show Jvm.Cond.before (Cond.exactly (.string "ChairCaneModel" 302) "java/lang/String") #[Value.ref b] s = true from bf_l (bf_r (bf_l (bf_l (bf_l (bf_r (bf_l (bf_r (bf_r hgv))))))))) (show Jvm.Cond.before (Cond.eq (.field (.string "ChairCaneModel" 302) "java/lang/String" "coder" "B") (.int 0)) #[Value.ref b] s = true from bf_l (bf_r (bf_r (bf_l (bf_l (bf_l (bf_r (bf_l (bf_r (bf_r hgv)))))))))) (show Jvm.Cond.before (Cond.arrayOf (.field (.string "ChairCaneModel" 302) "java/lang/String" "value" "[B") .byte) #[Value.ref b] s = true from bf_r (bf_r (bf_r (bf_l (bf_l (bf_l (bf_r (bf_l (bf_r (bf_r hgv)))))))))) (show Jvm.Cond.before (Cond.eq (.length (.field (.string "ChairCaneModel" 302) "java/lang/String" "value" "[B")) (.int 3)) #[Value.ref b] s = true from bf_l (bf_l (bf_r (bf_l (bf_l (bf_r (bf_l (bf_r (bf_r hgv))))))))) (by
      intro j hj
      match j, hj with
      | 0, _ => exact show Jvm.Cond.before (Cond.eq (.elem (.field (.string "ChairCaneModel" 302) "java/lang/String" "value" "[B") (.int 0)) (.int 115)) #[Value.ref b] s = true from bf_l (bf_r (bf_l (bf_r (bf_l (bf_l (bf_r (bf_l (bf_r (bf_r hgv)))))))))
      | 1, _ => exact show Jvm.Cond.before (Cond.eq (.elem (.field (.string "ChairCaneModel" 302) "java/lang/String" "value" "[B") (.int 1)) (.int 105)) #[Value.ref b] s = true from bf_r (bf_r (bf_l (bf_r (bf_l (bf_l (bf_r (bf_l (bf_r (bf_r hgv)))))))))
      | 2, _ => exact show Jvm.Cond.before (Cond.eq (.elem (.field (.string "ChairCaneModel" 302) "java/lang/String" "value" "[B") (.int 2)) (.int 116)) #[Value.ref b] s = true from bf_l (bf_r (bf_r (bf_l (bf_l (bf_r (bf_l (bf_r (bf_r hgv))))))))
      | j + 3, h => exact absurd h (by omega)) hA
set_option maxHeartbeats 4000000 in
set_option maxRecDepth 20000 in
theorem law_tY_14 {b : Nat} {s : State} (hgv : (Jvm.Cond.and given_1 narrow_1).before #[Value.ref b] s = true) : ∃ d t : Nat, strF (fun q : Nat => s.heap.size ≤ q) d t 2 (fun j => ([105, 102] : List Int32).getD j 0) s s.heap ∧ (Term.string "ChairCaneModel" 304).eval #[Value.ref b] s none [] s = some (.ref d) := by
  have hs := flat_of_before _ hgv
  have hA : ∀ a : Nat, a < s.heap.size → ¬ (fun q : Nat => s.heap.size ≤ q) a := fun a h => Nat.not_le.mpr h
  exact str_of (A := fun q : Nat => s.heap.size ≤ q) "ChairCaneModel" 304 2 [105, 102] (by decide) (show Jvm.Cond.before (Cond.exactly (.string "ChairCaneModel" 304) "java/lang/String") #[Value.ref b] s = true from bf_r (bf_r (bf_r (bf_l (bf_r (bf_l (bf_r (bf_r (bf_r (bf_r hgv)))))))))) (show Jvm.Cond.before (Cond.eq (.field (.string "ChairCaneModel" 304) "java/lang/String" "coder" "B") (.int 0)) #[Value.ref b] s = true from bf_l (bf_l (bf_r (bf_r (bf_l (bf_r (bf_r (bf_r (bf_r hgv))))))))) (show Jvm.Cond.before (Cond.arrayOf (.field (.string "ChairCaneModel" 304) "java/lang/String" "value" "[B") .byte) #[Value.ref b] s = true from bf_l (bf_r (bf_l (bf_r (bf_r (bf_l (bf_r (bf_r (bf_r (bf_r hgv)))))))))) (show Jvm.Cond.before (Cond.eq (.length (.field (.string "ChairCaneModel" 304) "java/lang/String" "value" "[B")) (.int 2)) #[Value.ref b] s = true from bf_r (bf_r (bf_l (bf_r (bf_r (bf_l (bf_r (bf_r (bf_r (bf_r hgv)))))))))) (by
      intro j hj
      match j, hj with
      | 0, _ => exact show Jvm.Cond.before (Cond.eq (.elem (.field (.string "ChairCaneModel" 304) "java/lang/String" "value" "[B") (.int 0)) (.int 105)) #[Value.ref b] s = true from bf_l (bf_r (bf_r (bf_r (bf_l (bf_r (bf_r (bf_r (bf_r hgv))))))))
      | 1, _ => exact show Jvm.Cond.before (Cond.eq (.elem (.field (.string "ChairCaneModel" 304) "java/lang/String" "value" "[B") (.int 1)) (.int 102)) #[Value.ref b] s = true from bf_l (bf_r (bf_r (bf_r (bf_r (bf_l (bf_r (bf_r (bf_r (bf_r hgv)))))))))
      | j + 2, h => exact absurd h (by omega)) hA
set_option maxHeartbeats 4000000 in
set_option maxRecDepth 20000 in
theorem law_tY_15 {b : Nat} {s : State} (hgv : (Jvm.Cond.and given_1 narrow_1).before #[Value.ref b] s = true) : ∃ d t : Nat, strF (fun q : Nat => s.heap.size ≤ q) d t 2 (fun j => ([111, 114] : List Int32).getD j 0) s s.heap ∧ (Term.string "ChairCaneModel" 257).eval #[Value.ref b] s none [] s = some (.ref d) := by
  have hs := flat_of_before _ hgv
  have hA : ∀ a : Nat, a < s.heap.size → ¬ (fun q : Nat => s.heap.size ≤ q) a := fun a h => Nat.not_le.mpr h
  exact str_of (A := fun q : Nat => s.heap.size ≤ q) "ChairCaneModel" 257 2 [111, 114] (by decide) (show Jvm.Cond.before (Cond.exactly (.string "ChairCaneModel" 257) "java/lang/String") #[Value.ref b] s = true from bf_r (bf_r (bf_r (bf_l (bf_r (bf_r (bf_r (bf_r (bf_r (bf_r hgv)))))))))) (show Jvm.Cond.before (Cond.eq (.field (.string "ChairCaneModel" 257) "java/lang/String" "coder" "B") (.int 0)) #[Value.ref b] s = true from bf_l (bf_l (bf_r (bf_r (bf_r (bf_r (bf_r (bf_r (bf_r hgv))))))))) (show Jvm.Cond.before (Cond.arrayOf (.field (.string "ChairCaneModel" 257) "java/lang/String" "value" "[B") .byte) #[Value.ref b] s = true from bf_l (bf_r (bf_l (bf_r (bf_r (bf_r (bf_r (bf_r (bf_r (bf_r hgv)))))))))) (show Jvm.Cond.before (Cond.eq (.length (.field (.string "ChairCaneModel" 257) "java/lang/String" "value" "[B")) (.int 2)) #[Value.ref b] s = true from bf_r (bf_r (bf_l (bf_r (bf_r (bf_r (bf_r (bf_r (bf_r (bf_r hgv)))))))))) (by
      intro j hj
      match j, hj with
      | 0, _ => exact show Jvm.Cond.before (Cond.eq (.elem (.field (.string "ChairCaneModel" 257) "java/lang/String" "value" "[B") (.int 0)) (.int 111)) #[Value.ref b] s = true from bf_l (bf_r (bf_r (bf_r (bf_r (bf_r (bf_r (bf_r (bf_r hgv))))))))
      | 1, _ => exact show Jvm.Cond.before (Cond.eq (.elem (.field (.string "ChairCaneModel" 257) "java/lang/String" "value" "[B") (.int 1)) (.int 114)) #[Value.ref b] s = true from bf_l (bf_r (bf_r (bf_r (bf_r (bf_r (bf_r (bf_r (bf_r (bf_r hgv)))))))))
      | j + 2, h => exact absurd h (by omega)) hA
set_option maxHeartbeats 4000000 in
set_option maxRecDepth 20000 in
theorem law_tY_16 {b : Nat} {s : State} (hgv : (Jvm.Cond.and given_1 narrow_1).before #[Value.ref b] s = true) : ∃ d t : Nat, strF (fun q : Nat => s.heap.size ≤ q) d t 3 (fun j => ([97, 110, 100] : List Int32).getD j 0) s s.heap ∧ (Term.string "ChairCaneModel" 255).eval #[Value.ref b] s none [] s = some (.ref d) := by
  have hs := flat_of_before _ hgv
  have hA : ∀ a : Nat, a < s.heap.size → ¬ (fun q : Nat => s.heap.size ≤ q) a := fun a h => Nat.not_le.mpr h
  exact str_of (A := fun q : Nat => s.heap.size ≤ q) "ChairCaneModel" 255 3 [97, 110, 100] (by decide) (show Jvm.Cond.before (Cond.exactly (.string "ChairCaneModel" 255) "java/lang/String") #[Value.ref b] s = true from bf_l (bf_r (bf_r (bf_l (bf_r (bf_r (bf_r (bf_r (bf_r hgv))))))))) (show Jvm.Cond.before (Cond.eq (.field (.string "ChairCaneModel" 255) "java/lang/String" "coder" "B") (.int 0)) #[Value.ref b] s = true from bf_l (bf_r (bf_r (bf_r (bf_l (bf_r (bf_r (bf_r (bf_r (bf_r hgv)))))))))) (show Jvm.Cond.before (Cond.arrayOf (.field (.string "ChairCaneModel" 255) "java/lang/String" "value" "[B") .byte) #[Value.ref b] s = true from bf_r (bf_r (bf_r (bf_r (bf_l (bf_r (bf_r (bf_r (bf_r (bf_r hgv)))))))))) (show Jvm.Cond.before (Cond.eq (.length (.field (.string "ChairCaneModel" 255) "java/lang/String" "value" "[B")) (.int 3)) #[Value.ref b] s = true from bf_l (bf_l (bf_l (bf_r (bf_r (bf_r (bf_r (bf_r (bf_r hgv))))))))) (by
      intro j hj
      match j, hj with
      | 0, _ => exact show Jvm.Cond.before (Cond.eq (.elem (.field (.string "ChairCaneModel" 255) "java/lang/String" "value" "[B") (.int 0)) (.int 97)) #[Value.ref b] s = true from bf_l (bf_r (bf_l (bf_l (bf_r (bf_r (bf_r (bf_r (bf_r (bf_r hgv)))))))))
      | 1, _ => exact show Jvm.Cond.before (Cond.eq (.elem (.field (.string "ChairCaneModel" 255) "java/lang/String" "value" "[B") (.int 1)) (.int 110)) #[Value.ref b] s = true from bf_r (bf_r (bf_l (bf_l (bf_r (bf_r (bf_r (bf_r (bf_r (bf_r hgv)))))))))
      | 2, _ => exact show Jvm.Cond.before (Cond.eq (.elem (.field (.string "ChairCaneModel" 255) "java/lang/String" "value" "[B") (.int 2)) (.int 100)) #[Value.ref b] s = true from bf_l (bf_r (bf_l (bf_r (bf_r (bf_r (bf_r (bf_r (bf_r hgv))))))))
      | j + 3, h => exact absurd h (by omega)) hA
set_option maxHeartbeats 4000000 in
set_option maxRecDepth 20000 in
theorem law_tY_17 {b : Nat} {s : State} (hgv : (Jvm.Cond.and given_1 narrow_1).before #[Value.ref b] s = true) : ∃ d t : Nat, strF (fun q : Nat => s.heap.size ≤ q) d t 3 (fun j => ([110, 111, 116] : List Int32).getD j 0) s s.heap ∧ (Term.string "ChairCaneModel" 241).eval #[Value.ref b] s none [] s = some (.ref d) := by
  have hs := flat_of_before _ hgv
  have hA : ∀ a : Nat, a < s.heap.size → ¬ (fun q : Nat => s.heap.size ≤ q) a := fun a h => Nat.not_le.mpr h
  exact str_of (A := fun q : Nat => s.heap.size ≤ q) "ChairCaneModel" 241 3 [110, 111, 116] (by decide) (show Jvm.Cond.before (Cond.exactly (.string "ChairCaneModel" 241) "java/lang/String") #[Value.ref b] s = true from bf_l (bf_l (bf_l (bf_l (bf_r (bf_r (bf_r (bf_r (bf_r hgv))))))))) (show Jvm.Cond.before (Cond.eq (.field (.string "ChairCaneModel" 241) "java/lang/String" "coder" "B") (.int 0)) #[Value.ref b] s = true from bf_r (bf_l (bf_l (bf_l (bf_r (bf_r (bf_r (bf_r (bf_r hgv))))))))) (show Jvm.Cond.before (Cond.arrayOf (.field (.string "ChairCaneModel" 241) "java/lang/String" "value" "[B") .byte) #[Value.ref b] s = true from bf_l (bf_r (bf_l (bf_l (bf_r (bf_r (bf_r (bf_r (bf_r hgv))))))))) (show Jvm.Cond.before (Cond.eq (.length (.field (.string "ChairCaneModel" 241) "java/lang/String" "value" "[B")) (.int 3)) #[Value.ref b] s = true from bf_l (bf_r (bf_r (bf_l (bf_l (bf_r (bf_r (bf_r (bf_r (bf_r hgv)))))))))) (by
      intro j hj
      match j, hj with
      | 0, _ => exact show Jvm.Cond.before (Cond.eq (.elem (.field (.string "ChairCaneModel" 241) "java/lang/String" "value" "[B") (.int 0)) (.int 110)) #[Value.ref b] s = true from bf_r (bf_r (bf_r (bf_l (bf_l (bf_r (bf_r (bf_r (bf_r (bf_r hgv)))))))))
      | 1, _ => exact show Jvm.Cond.before (Cond.eq (.elem (.field (.string "ChairCaneModel" 241) "java/lang/String" "value" "[B") (.int 1)) (.int 111)) #[Value.ref b] s = true from bf_l (bf_l (bf_r (bf_l (bf_r (bf_r (bf_r (bf_r (bf_r hgv))))))))
      | 2, _ => exact show Jvm.Cond.before (Cond.eq (.elem (.field (.string "ChairCaneModel" 241) "java/lang/String" "value" "[B") (.int 2)) (.int 116)) #[Value.ref b] s = true from bf_l (bf_r (bf_l (bf_r (bf_l (bf_r (bf_r (bf_r (bf_r (bf_r hgv)))))))))
      | j + 3, h => exact absurd h (by omega)) hA
set_option maxHeartbeats 4000000 in
set_option maxRecDepth 20000 in
theorem law_tY {b : Nat} {s : State} (hts : ∀ w ∈ lw_tbl, w.before #[Value.ref b] s = true) (hgv : (Jvm.Cond.and given_1 narrow_1).before #[Value.ref b] s = true) : ∃ ad tv : Nat → Nat, EY ad tv (fun q : Nat => s.heap.size ≤ q) s := by
  have hA : ∀ a : Nat, a < s.heap.size → ¬ (fun q : Nat => s.heap.size ≤ q) a := fun a h => Nat.not_le.mpr h
  obtain ⟨d0, t0, hF0, hv0⟩ := law_tY_0 hgv
  obtain ⟨d1, t1, hF1, hv1⟩ := law_tY_1 hgv
  obtain ⟨d2, t2, hF2, hv2⟩ := law_tY_2 hgv
  obtain ⟨d3, t3, hF3, hv3⟩ := law_tY_3 hgv
  obtain ⟨d4, t4, hF4, hv4⟩ := law_tY_4 hgv
  obtain ⟨d5, t5, hF5, hv5⟩ := law_tY_5 hgv
  obtain ⟨d6, t6, hF6, hv6⟩ := law_tY_6 hgv
  obtain ⟨d7, t7, hF7, hv7⟩ := law_tY_7 hgv
  obtain ⟨d8, t8, hF8, hv8⟩ := law_tY_8 hgv
  obtain ⟨d9, t9, hF9, hv9⟩ := law_tY_9 hgv
  obtain ⟨d10, t10, hF10, hv10⟩ := law_tY_10 hgv
  obtain ⟨d11, t11, hF11, hv11⟩ := law_tY_11 hgv
  obtain ⟨d12, t12, hF12, hv12⟩ := law_tY_12 hgv
  obtain ⟨d13, t13, hF13, hv13⟩ := law_tY_13 hgv
  obtain ⟨d14, t14, hF14, hv14⟩ := law_tY_14 hgv
  obtain ⟨d15, t15, hF15, hv15⟩ := law_tY_15 hgv
  obtain ⟨d16, t16, hF16, hv16⟩ := law_tY_16 hgv
  obtain ⟨d17, t17, hF17, hv17⟩ := law_tY_17 hgv
  obtain ⟨hZ, hM⟩ := law_stat hts hgv
  exact ⟨fun i => [d0, d1, d2, d3, d4, d5, d6, d7, d8, d9, d10, d11, d12, d13, d14, d15, d16, d17].getD i 0, fun i => [t0, t1, t2, t3, t4, t5, t6, t7, t8, t9, t10, t11, t12, t13, t14, t15, t16, t17].getD i 0, hZ, hM, (fun i hi => match i, hi with | 0, _ => hF0 | 1, _ => hF1 | 2, _ => hF2 | 3, _ => hF3 | 4, _ => hF4 | 5, _ => hF5 | 6, _ => hF6 | 7, _ => hF7 | 8, _ => hF8 | 9, _ => hF9 | 10, _ => hF10 | 11, _ => hF11 | 12, _ => hF12 | 13, _ => hF13 | 14, _ => hF14 | 15, _ => hF15 | 16, _ => hF16 | 17, _ => hF17 | n + 18, h => absurd h (by omega)), vk_R.of (hts (.stringRef "ChairCaneModel" 142 "sitter") (List.mem_of_getElem? (i := 1154) (by decide +kernel))) hv0, vk_R.of (hts (.stringRef "ChairCaneModel" 144 "chair") (List.mem_of_getElem? (i := 1153) (by decide +kernel))) hv1, vk_R.of (hts (.stringRef "ChairCaneModel" 146 "weight") (List.mem_of_getElem? (i := 1238) (by decide +kernel))) hv2, vk_R.of (hts (.stringRef "ChairCaneModel" 147 "height") (List.mem_of_getElem? (i := 1239) (by decide +kernel))) hv3, vk_R.of (hts (.stringRef "ChairCaneModel" 148 "cane") (List.mem_of_getElem? (i := 1240) (by decide +kernel))) hv4, vk_R.of (hts (.stringRef "ChairCaneModel" 149 "sits") (List.mem_of_getElem? (i := 1241) (by decide +kernel))) hv5, vk_R.of (hts (.stringRef "ChairCaneModel" 151 "give") (List.mem_of_getElem? (i := 1242) (by decide +kernel))) hv6, vk_R.of (hts (.stringRef "ChairCaneModel" 153 "others") (List.mem_of_getElem? (i := 1243) (by decide +kernel))) hv7, vk_R.of (hts (.stringRef "ChairCaneModel" 155 "press") (List.mem_of_getElem? (i := 1244) (by decide +kernel))) hv8, vk_R.of (hts (.stringRef "ChairCaneModel" 157 "dropped") (List.mem_of_getElem? (i := 1245) (by decide +kernel))) hv9, vk_R.of (hts (.stringRef "ChairCaneModel" 159 "minute") (List.mem_of_getElem? (i := 1246) (by decide +kernel))) hv10, vk_R.of (hts (.stringRef "ChairCaneModel" 259 "hall") (List.mem_of_getElem? (i := 1151) (by decide +kernel))) hv11, vk_R.of (hts (.stringRef "ChairCaneModel" 261 "strand") (List.mem_of_getElem? (i := 1152) (by decide +kernel))) hv12, vk_R.of (hts (.stringRef "ChairCaneModel" 302 "sit") (List.mem_of_getElem? (i := 1214) (by decide +kernel))) hv13, vk_R.of (hts (.stringRef "ChairCaneModel" 304 "if") (List.mem_of_getElem? (i := 1247) (by decide +kernel))) hv14, vk_R.of (hts (.stringRef "ChairCaneModel" 257 "or") (List.mem_of_getElem? (i := 1278) (by decide +kernel))) hv15, vk_R.of (hts (.stringRef "ChairCaneModel" 255 "and") (List.mem_of_getElem? (i := 1277) (by decide +kernel))) hv16, vk_R.of (hts (.stringRef "ChairCaneModel" 241 "not") (List.mem_of_getElem? (i := 1260) (by decide +kernel))) hv17⟩
end
section
/-! the law: what is kept, and its cases -/
theorem rng_l {α : Type} (w1 w2 : List α) (n : Nat) (h : w1.length = n) : (List.range n).map (fun i => (w1 ++ w2)[i]?) = w1.map some := by
  subst h
  apply List.ext_getElem?
  intro i
  by_cases hi : i < w1.length
  · simp [List.getElem?_append_left hi, hi]
  · simp [hi]
theorem rng_r {α : Type} (w1 w2 : List α) (n m : Nat) (h : w1.length = n) (h2 : w2.length = m) : (List.range' n m).map (fun i => (w1 ++ w2)[i]?) = w2.map some := by
  subst h h2
  apply List.ext_getElem?
  intro i
  by_cases hi : i < w2.length
  · simp [hi, List.getElem?_append_right]
  · simp [hi]
theorem nd1 : va_nd (List.range 149) = true ∧ va_nd (List.range' 149 38) = true ∧ ∀ i ∈ List.range' 149 38, i ∉ List.range 149 := ⟨by decide +kernel, by decide +kernel, fun i h q => by have := List.mem_range'_1.mp h; have := List.mem_range.mp q; omega⟩
theorem nd2 : va_nd (List.range 38) = true ∧ va_nd (List.range' 38 149) = true ∧ ∀ i ∈ List.range' 38 149, i ∉ List.range 38 := ⟨by decide +kernel, by decide +kernel, fun i h q => by have := List.mem_range'_1.mp h; have := List.mem_range.mp q; omega⟩
set_option maxRecDepth 100000 in
theorem CWlen (k : Nat → ClassId) (a ra ia : Nat → Nat) (rr ii : Nat → Option Nat) (z : CSt) : (CWs k a ra ia rr ii z).length = 149 := rfl
set_option maxRecDepth 20000 in
theorem MWlen (k : Nat → ClassId) (v : Nat → Nat) (y : OB) : (moW k v y).length = 38 := rfl
noncomputable abbrev A0 (s : State) : Nat → Prop := fun q => s.heap.size ≤ q

theorem lch_0 : (cL_law.data.toList.drop 0).take 66 = [187, 0, 7, 89, 183, 0, 9, 76, 187, 0, 10, 89, 183, 0, 12, 77, 3, 62, 29, 42, 190, 16, 6, 100, 163, 4, 84, 42, 29, 46, 16, 63, 126, 170, 0, 0, 0, 0, 4, 69, 0, 0, 0, 0, 0, 0, 0, 33, 0, 0, 0, 151, 0, 0, 0, 214, 0, 0, 0, 237, 0, 0, 0, 250, 0, 0] := by decide +kernel
theorem lch_2 : (cL_law.data.toList.drop 128).take 66 = [0, 0, 2, 149, 0, 0, 2, 172, 0, 0, 2, 205, 0, 0, 2, 228, 0, 0, 3, 25, 0, 0, 3, 48, 0, 0, 3, 81, 0, 0, 3, 124, 0, 0, 3, 147, 0, 0, 3, 180, 0, 0, 3, 203, 0, 0, 4, 0, 0, 0, 4, 23, 0, 0, 4, 46, 43, 42, 29, 4, 96, 46, 42, 29, 5, 96] := by decide +kernel
theorem lch_3 : (cL_law.data.toList.drop 192).take 66 = [5, 96, 46, 42, 29, 6, 96, 46, 42, 29, 7, 96, 46, 42, 29, 8, 96, 46, 182, 0, 13, 87, 44, 42, 29, 4, 96, 46, 42, 29, 5, 96, 46, 42, 29, 6, 96, 46, 42, 29, 7, 96, 46, 42, 29, 8, 96, 46, 182, 0, 17, 87, 167, 3, 114, 43, 42, 29, 4, 96, 46, 182, 0, 18, 87, 44] := by decide +kernel
theorem lch_4 : (cL_law.data.toList.drop 256).take 66 = [87, 44, 42, 29, 4, 96, 46, 182, 0, 22, 87, 167, 3, 91, 43, 182, 0, 23, 87, 44, 182, 0, 27, 87, 167, 3, 78, 43, 182, 0, 28, 87, 44, 182, 0, 31, 87, 167, 3, 65, 43, 42, 29, 4, 96, 46, 182, 0, 32, 87, 44, 42, 29, 4, 96, 46, 182, 0, 35, 87, 167, 3, 42, 43, 42, 29] := by decide +kernel
theorem lch_5 : (cL_law.data.toList.drop 320).take 66 = [42, 29, 4, 96, 46, 182, 0, 36, 87, 44, 42, 29, 4, 96, 46, 182, 0, 39, 87, 167, 3, 19, 43, 42, 29, 4, 96, 46, 42, 29, 5, 96, 46, 182, 0, 40, 87, 44, 42, 29, 4, 96, 46, 42, 29, 5, 96, 46, 182, 0, 44, 87, 167, 2, 242, 43, 42, 29, 4, 96, 46, 42, 29, 5, 96, 46] := by decide +kernel
theorem lch_6 : (cL_law.data.toList.drop 384).take 66 = [96, 46, 182, 0, 45, 87, 44, 42, 29, 4, 96, 46, 42, 29, 5, 96, 46, 182, 0, 48, 87, 167, 2, 209, 43, 182, 0, 49, 87, 44, 182, 0, 52, 87, 167, 2, 196, 43, 42, 29, 4, 96, 46, 182, 0, 53, 87, 44, 42, 29, 4, 96, 46, 182, 0, 56, 87, 167, 2, 173, 43, 42, 29, 4, 96, 46] := by decide +kernel
theorem lch_7 : (cL_law.data.toList.drop 448).take 66 = [96, 46, 182, 0, 57, 87, 44, 42, 29, 4, 96, 46, 182, 0, 60, 87, 167, 2, 150, 43, 42, 29, 4, 96, 46, 182, 0, 61, 87, 44, 42, 29, 4, 96, 46, 182, 0, 64, 87, 167, 2, 127, 43, 42, 29, 4, 96, 46, 42, 29, 5, 96, 46, 182, 0, 65, 87, 44, 42, 29, 4, 96, 46, 42, 29, 5] := by decide +kernel
theorem lch_8 : (cL_law.data.toList.drop 512).take 66 = [29, 5, 96, 46, 182, 0, 68, 87, 167, 2, 94, 43, 182, 0, 69, 87, 44, 182, 0, 72, 87, 167, 2, 81, 43, 42, 29, 4, 96, 46, 42, 29, 5, 96, 46, 42, 29, 6, 96, 46, 182, 0, 73, 87, 44, 42, 29, 4, 96, 46, 42, 29, 5, 96, 46, 42, 29, 6, 96, 46, 182, 0, 77, 87, 167, 2] := by decide +kernel
theorem lch_9 : (cL_law.data.toList.drop 576).take 66 = [167, 2, 38, 43, 42, 29, 4, 96, 46, 182, 0, 78, 87, 44, 42, 29, 4, 96, 46, 182, 0, 81, 87, 167, 2, 15, 43, 42, 29, 4, 96, 46, 182, 0, 82, 87, 44, 42, 29, 4, 96, 46, 182, 0, 85, 87, 167, 1, 248, 43, 42, 29, 4, 96, 46, 182, 0, 86, 87, 44, 42, 29, 4, 96, 46, 182] := by decide +kernel
theorem lch_10 : (cL_law.data.toList.drop 640).take 66 = [46, 182, 0, 89, 87, 167, 1, 225, 43, 42, 29, 4, 96, 46, 182, 0, 90, 87, 44, 42, 29, 4, 96, 46, 182, 0, 93, 87, 167, 1, 202, 43, 42, 29, 4, 96, 46, 182, 0, 94, 87, 44, 42, 29, 4, 96, 46, 182, 0, 97, 87, 167, 1, 179, 43, 42, 29, 4, 96, 46, 182, 0, 98, 87, 44, 42] := by decide +kernel
theorem lch_11 : (cL_law.data.toList.drop 704).take 66 = [44, 42, 29, 4, 96, 46, 182, 0, 101, 87, 167, 1, 156, 43, 42, 29, 4, 96, 46, 42, 29, 5, 96, 46, 182, 0, 102, 87, 44, 42, 29, 4, 96, 46, 42, 29, 5, 96, 46, 182, 0, 105, 87, 167, 1, 123, 43, 42, 29, 4, 96, 46, 182, 0, 106, 87, 44, 42, 29, 4, 96, 46, 182, 0, 109, 87] := by decide +kernel
theorem lch_12 : (cL_law.data.toList.drop 768).take 66 = [109, 87, 167, 1, 100, 43, 42, 29, 4, 96, 46, 42, 29, 5, 96, 46, 42, 29, 6, 96, 46, 42, 29, 7, 96, 46, 182, 0, 110, 87, 44, 42, 29, 4, 96, 46, 42, 29, 5, 96, 46, 42, 29, 6, 96, 46, 42, 29, 7, 96, 46, 182, 0, 114, 87, 167, 1, 47, 43, 42, 29, 4, 96, 46, 182, 0] := by decide +kernel
theorem lch_13 : (cL_law.data.toList.drop 832).take 66 = [182, 0, 115, 87, 44, 42, 29, 4, 96, 46, 182, 0, 118, 87, 167, 1, 24, 43, 42, 29, 4, 96, 46, 42, 29, 5, 96, 46, 182, 0, 119, 87, 44, 42, 29, 4, 96, 46, 42, 29, 5, 96, 46, 182, 0, 122, 87, 167, 0, 247, 43, 42, 29, 4, 96, 46, 42, 29, 5, 96, 46, 42, 29, 6, 96, 46] := by decide +kernel
theorem lch_14 : (cL_law.data.toList.drop 896).take 66 = [96, 46, 182, 0, 123, 87, 44, 42, 29, 4, 96, 46, 42, 29, 5, 96, 46, 42, 29, 6, 96, 46, 182, 0, 126, 87, 167, 0, 204, 43, 42, 29, 4, 96, 46, 182, 0, 127, 87, 44, 42, 29, 4, 96, 46, 182, 0, 130, 87, 167, 0, 181, 43, 42, 29, 4, 96, 46, 42, 29, 5, 96, 46, 182, 0, 131] := by decide +kernel
theorem lch_15 : (cL_law.data.toList.drop 960).take 66 = [0, 131, 87, 44, 42, 29, 4, 96, 46, 42, 29, 5, 96, 46, 182, 0, 134, 87, 167, 0, 148, 43, 42, 29, 4, 96, 46, 182, 0, 135, 44, 42, 29, 4, 96, 46, 182, 0, 138, 159, 0, 127, 3, 172, 43, 42, 29, 4, 96, 46, 42, 29, 5, 96, 46, 42, 29, 6, 96, 46, 42, 29, 7, 96, 46, 182] := by decide +kernel
theorem lch_16 : (cL_law.data.toList.drop 1024).take 66 = [46, 182, 0, 139, 87, 44, 42, 29, 4, 96, 46, 42, 29, 5, 96, 46, 42, 29, 6, 96, 46, 42, 29, 7, 96, 46, 182, 0, 142, 87, 167, 0, 72, 43, 42, 29, 4, 96, 46, 182, 0, 143, 87, 44, 42, 29, 4, 96, 46, 182, 0, 146, 87, 167, 0, 49, 43, 42, 29, 4, 96, 46, 182, 0, 147, 87] := by decide +kernel
theorem lch_17 : (cL_law.data.toList.drop 1088).take 66 = [147, 87, 44, 42, 29, 4, 96, 46, 182, 0, 150, 87, 167, 0, 26, 43, 42, 29, 4, 96, 46, 182, 0, 151, 87, 44, 42, 29, 4, 96, 46, 182, 0, 154, 87, 167, 0, 3, 132, 3, 6, 167, 251, 169, 4, 172] := by decide +kernel
theorem dL_law_184 : decode cL_law 184 = .ok (.aload_n 1, 1) := of_0 ok_aload_n_1 (od_ch (j := 56) lch_2 (by decide +kernel))
theorem dL_law_185 : decode cL_law 185 = .ok (.aload_n 0, 1) := of_0 ok_aload_n_0 (od_ch (j := 57) lch_2 (by decide +kernel))
theorem dL_law_186 : decode cL_law 186 = .ok (.iload_n 3, 1) := of_0 ok_iload_n_3 (od_ch (j := 58) lch_2 (by decide +kernel))
theorem dL_law_187 : decode cL_law 187 = .ok (.iconst 1, 1) := of_0 ok_iconst_1 (od_ch (j := 59) lch_2 (by decide +kernel))
theorem dL_law_188 : decode cL_law 188 = .ok (.iadd, 1) := of_0 ok_iadd (od_ch (j := 60) lch_2 (by decide +kernel))
theorem dL_law_189 : decode cL_law 189 = .ok (.iaload, 1) := of_0 ok_iaload (od_ch (j := 61) lch_2 (by decide +kernel))
theorem dL_law_190 : decode cL_law 190 = .ok (.aload_n 0, 1) := of_0 ok_aload_n_0 (od_ch (j := 62) lch_2 (by decide +kernel))
theorem dL_law_191 : decode cL_law 191 = .ok (.iload_n 3, 1) := of_0 ok_iload_n_3 (od_ch (j := 63) lch_2 (by decide +kernel))
theorem dL_law_192 : decode cL_law 192 = .ok (.iconst 2, 1) := of_0 ok_iconst_2 (od_ch (j := 0) lch_3 (by decide +kernel))
theorem dL_law_193 : decode cL_law 193 = .ok (.iadd, 1) := of_0 ok_iadd (od_ch (j := 1) lch_3 (by decide +kernel))
theorem dL_law_194 : decode cL_law 194 = .ok (.iaload, 1) := of_0 ok_iaload (od_ch (j := 2) lch_3 (by decide +kernel))
theorem dL_law_195 : decode cL_law 195 = .ok (.aload_n 0, 1) := of_0 ok_aload_n_0 (od_ch (j := 3) lch_3 (by decide +kernel))
theorem dL_law_196 : decode cL_law 196 = .ok (.iload_n 3, 1) := of_0 ok_iload_n_3 (od_ch (j := 4) lch_3 (by decide +kernel))
theorem dL_law_197 : decode cL_law 197 = .ok (.iconst 3, 1) := of_0 ok_iconst_3 (od_ch (j := 5) lch_3 (by decide +kernel))
theorem dL_law_198 : decode cL_law 198 = .ok (.iadd, 1) := of_0 ok_iadd (od_ch (j := 6) lch_3 (by decide +kernel))
theorem dL_law_199 : decode cL_law 199 = .ok (.iaload, 1) := of_0 ok_iaload (od_ch (j := 7) lch_3 (by decide +kernel))
theorem dL_law_200 : decode cL_law 200 = .ok (.aload_n 0, 1) := of_0 ok_aload_n_0 (od_ch (j := 8) lch_3 (by decide +kernel))
theorem dL_law_201 : decode cL_law 201 = .ok (.iload_n 3, 1) := of_0 ok_iload_n_3 (od_ch (j := 9) lch_3 (by decide +kernel))
theorem dL_law_202 : decode cL_law 202 = .ok (.iconst 4, 1) := of_0 ok_iconst_4 (od_ch (j := 10) lch_3 (by decide +kernel))
theorem dL_law_203 : decode cL_law 203 = .ok (.iadd, 1) := of_0 ok_iadd (od_ch (j := 11) lch_3 (by decide +kernel))
theorem dL_law_204 : decode cL_law 204 = .ok (.iaload, 1) := of_0 ok_iaload (od_ch (j := 12) lch_3 (by decide +kernel))
theorem dL_law_205 : decode cL_law 205 = .ok (.aload_n 0, 1) := of_0 ok_aload_n_0 (od_ch (j := 13) lch_3 (by decide +kernel))
theorem dL_law_206 : decode cL_law 206 = .ok (.iload_n 3, 1) := of_0 ok_iload_n_3 (od_ch (j := 14) lch_3 (by decide +kernel))
theorem dL_law_207 : decode cL_law 207 = .ok (.iconst 5, 1) := of_0 ok_iconst_5 (od_ch (j := 15) lch_3 (by decide +kernel))
theorem dL_law_208 : decode cL_law 208 = .ok (.iadd, 1) := of_0 ok_iadd (od_ch (j := 16) lch_3 (by decide +kernel))
theorem dL_law_209 : decode cL_law 209 = .ok (.iaload, 1) := of_0 ok_iaload (od_ch (j := 17) lch_3 (by decide +kernel))
theorem dL_law_210 : decode cL_law 210 = .ok (.invokevirtual 13, 3) := of_u2 ok_invokevirtual 0 13 (od_ca (j := 18) lch_3 (by decide +kernel))
theorem dL_law_213 : decode cL_law 213 = .ok (.pop, 1) := of_0 ok_pop (od_ch (j := 21) lch_3 (by decide +kernel))
theorem dL_law_214 : decode cL_law 214 = .ok (.aload_n 2, 1) := of_0 ok_aload_n_2 (od_ch (j := 22) lch_3 (by decide +kernel))
theorem dL_law_215 : decode cL_law 215 = .ok (.aload_n 0, 1) := of_0 ok_aload_n_0 (od_ch (j := 23) lch_3 (by decide +kernel))
theorem dL_law_216 : decode cL_law 216 = .ok (.iload_n 3, 1) := of_0 ok_iload_n_3 (od_ch (j := 24) lch_3 (by decide +kernel))
theorem dL_law_217 : decode cL_law 217 = .ok (.iconst 1, 1) := of_0 ok_iconst_1 (od_ch (j := 25) lch_3 (by decide +kernel))
theorem dL_law_218 : decode cL_law 218 = .ok (.iadd, 1) := of_0 ok_iadd (od_ch (j := 26) lch_3 (by decide +kernel))
theorem dL_law_219 : decode cL_law 219 = .ok (.iaload, 1) := of_0 ok_iaload (od_ch (j := 27) lch_3 (by decide +kernel))
theorem dL_law_220 : decode cL_law 220 = .ok (.aload_n 0, 1) := of_0 ok_aload_n_0 (od_ch (j := 28) lch_3 (by decide +kernel))
theorem dL_law_221 : decode cL_law 221 = .ok (.iload_n 3, 1) := of_0 ok_iload_n_3 (od_ch (j := 29) lch_3 (by decide +kernel))
theorem dL_law_222 : decode cL_law 222 = .ok (.iconst 2, 1) := of_0 ok_iconst_2 (od_ch (j := 30) lch_3 (by decide +kernel))
theorem dL_law_223 : decode cL_law 223 = .ok (.iadd, 1) := of_0 ok_iadd (od_ch (j := 31) lch_3 (by decide +kernel))
theorem dL_law_224 : decode cL_law 224 = .ok (.iaload, 1) := of_0 ok_iaload (od_ch (j := 32) lch_3 (by decide +kernel))
theorem dL_law_225 : decode cL_law 225 = .ok (.aload_n 0, 1) := of_0 ok_aload_n_0 (od_ch (j := 33) lch_3 (by decide +kernel))
theorem dL_law_226 : decode cL_law 226 = .ok (.iload_n 3, 1) := of_0 ok_iload_n_3 (od_ch (j := 34) lch_3 (by decide +kernel))
theorem dL_law_227 : decode cL_law 227 = .ok (.iconst 3, 1) := of_0 ok_iconst_3 (od_ch (j := 35) lch_3 (by decide +kernel))
theorem dL_law_228 : decode cL_law 228 = .ok (.iadd, 1) := of_0 ok_iadd (od_ch (j := 36) lch_3 (by decide +kernel))
theorem dL_law_229 : decode cL_law 229 = .ok (.iaload, 1) := of_0 ok_iaload (od_ch (j := 37) lch_3 (by decide +kernel))
theorem dL_law_230 : decode cL_law 230 = .ok (.aload_n 0, 1) := of_0 ok_aload_n_0 (od_ch (j := 38) lch_3 (by decide +kernel))
theorem dL_law_231 : decode cL_law 231 = .ok (.iload_n 3, 1) := of_0 ok_iload_n_3 (od_ch (j := 39) lch_3 (by decide +kernel))
theorem dL_law_232 : decode cL_law 232 = .ok (.iconst 4, 1) := of_0 ok_iconst_4 (od_ch (j := 40) lch_3 (by decide +kernel))
theorem dL_law_233 : decode cL_law 233 = .ok (.iadd, 1) := of_0 ok_iadd (od_ch (j := 41) lch_3 (by decide +kernel))
theorem dL_law_234 : decode cL_law 234 = .ok (.iaload, 1) := of_0 ok_iaload (od_ch (j := 42) lch_3 (by decide +kernel))
theorem dL_law_235 : decode cL_law 235 = .ok (.aload_n 0, 1) := of_0 ok_aload_n_0 (od_ch (j := 43) lch_3 (by decide +kernel))
theorem dL_law_236 : decode cL_law 236 = .ok (.iload_n 3, 1) := of_0 ok_iload_n_3 (od_ch (j := 44) lch_3 (by decide +kernel))
theorem dL_law_237 : decode cL_law 237 = .ok (.iconst 5, 1) := of_0 ok_iconst_5 (od_ch (j := 45) lch_3 (by decide +kernel))
theorem dL_law_238 : decode cL_law 238 = .ok (.iadd, 1) := of_0 ok_iadd (od_ch (j := 46) lch_3 (by decide +kernel))
theorem dL_law_239 : decode cL_law 239 = .ok (.iaload, 1) := of_0 ok_iaload (od_ch (j := 47) lch_3 (by decide +kernel))
theorem dL_law_240 : decode cL_law 240 = .ok (.invokevirtual 17, 3) := of_u2 ok_invokevirtual 0 17 (od_ca (j := 48) lch_3 (by decide +kernel))
theorem dL_law_243 : decode cL_law 243 = .ok (.pop, 1) := of_0 ok_pop (od_ch (j := 51) lch_3 (by decide +kernel))
theorem dL_law_244 : decode cL_law 244 = .ok (.goto 882, 3) := of_s2 ok_goto 3 114 (od_ca (j := 52) lch_3 (by decide +kernel))
theorem dL_law_247 : decode cL_law 247 = .ok (.aload_n 1, 1) := of_0 ok_aload_n_1 (od_ch (j := 55) lch_3 (by decide +kernel))
theorem dL_law_248 : decode cL_law 248 = .ok (.aload_n 0, 1) := of_0 ok_aload_n_0 (od_ch (j := 56) lch_3 (by decide +kernel))
theorem dL_law_249 : decode cL_law 249 = .ok (.iload_n 3, 1) := of_0 ok_iload_n_3 (od_ch (j := 57) lch_3 (by decide +kernel))
theorem dL_law_250 : decode cL_law 250 = .ok (.iconst 1, 1) := of_0 ok_iconst_1 (od_ch (j := 58) lch_3 (by decide +kernel))
theorem dL_law_251 : decode cL_law 251 = .ok (.iadd, 1) := of_0 ok_iadd (od_ch (j := 59) lch_3 (by decide +kernel))
theorem dL_law_252 : decode cL_law 252 = .ok (.iaload, 1) := of_0 ok_iaload (od_ch (j := 60) lch_3 (by decide +kernel))
theorem dL_law_253 : decode cL_law 253 = .ok (.invokevirtual 18, 3) := of_u2 ok_invokevirtual 0 18 (od_ca (j := 61) lch_3 (by decide +kernel))
theorem dL_law_256 : decode cL_law 256 = .ok (.pop, 1) := of_0 ok_pop (od_ch (j := 0) lch_4 (by decide +kernel))
theorem dL_law_257 : decode cL_law 257 = .ok (.aload_n 2, 1) := of_0 ok_aload_n_2 (od_ch (j := 1) lch_4 (by decide +kernel))
theorem dL_law_258 : decode cL_law 258 = .ok (.aload_n 0, 1) := of_0 ok_aload_n_0 (od_ch (j := 2) lch_4 (by decide +kernel))
theorem dL_law_259 : decode cL_law 259 = .ok (.iload_n 3, 1) := of_0 ok_iload_n_3 (od_ch (j := 3) lch_4 (by decide +kernel))
theorem dL_law_260 : decode cL_law 260 = .ok (.iconst 1, 1) := of_0 ok_iconst_1 (od_ch (j := 4) lch_4 (by decide +kernel))
theorem dL_law_261 : decode cL_law 261 = .ok (.iadd, 1) := of_0 ok_iadd (od_ch (j := 5) lch_4 (by decide +kernel))
theorem dL_law_262 : decode cL_law 262 = .ok (.iaload, 1) := of_0 ok_iaload (od_ch (j := 6) lch_4 (by decide +kernel))
theorem dL_law_263 : decode cL_law 263 = .ok (.invokevirtual 22, 3) := of_u2 ok_invokevirtual 0 22 (od_ca (j := 7) lch_4 (by decide +kernel))
theorem dL_law_266 : decode cL_law 266 = .ok (.pop, 1) := of_0 ok_pop (od_ch (j := 10) lch_4 (by decide +kernel))
theorem dL_law_267 : decode cL_law 267 = .ok (.goto 859, 3) := of_s2 ok_goto 3 91 (od_ca (j := 11) lch_4 (by decide +kernel))
theorem dL_law_270 : decode cL_law 270 = .ok (.aload_n 1, 1) := of_0 ok_aload_n_1 (od_ch (j := 14) lch_4 (by decide +kernel))
theorem dL_law_271 : decode cL_law 271 = .ok (.invokevirtual 23, 3) := of_u2 ok_invokevirtual 0 23 (od_ca (j := 15) lch_4 (by decide +kernel))
theorem dL_law_274 : decode cL_law 274 = .ok (.pop, 1) := of_0 ok_pop (od_ch (j := 18) lch_4 (by decide +kernel))
theorem dL_law_275 : decode cL_law 275 = .ok (.aload_n 2, 1) := of_0 ok_aload_n_2 (od_ch (j := 19) lch_4 (by decide +kernel))
theorem dL_law_276 : decode cL_law 276 = .ok (.invokevirtual 27, 3) := of_u2 ok_invokevirtual 0 27 (od_ca (j := 20) lch_4 (by decide +kernel))
theorem dL_law_279 : decode cL_law 279 = .ok (.pop, 1) := of_0 ok_pop (od_ch (j := 23) lch_4 (by decide +kernel))
theorem dL_law_280 : decode cL_law 280 = .ok (.goto 846, 3) := of_s2 ok_goto 3 78 (od_ca (j := 24) lch_4 (by decide +kernel))
theorem dL_law_283 : decode cL_law 283 = .ok (.aload_n 1, 1) := of_0 ok_aload_n_1 (od_ch (j := 27) lch_4 (by decide +kernel))
theorem dL_law_284 : decode cL_law 284 = .ok (.invokevirtual 28, 3) := of_u2 ok_invokevirtual 0 28 (od_ca (j := 28) lch_4 (by decide +kernel))
theorem dL_law_287 : decode cL_law 287 = .ok (.pop, 1) := of_0 ok_pop (od_ch (j := 31) lch_4 (by decide +kernel))
theorem dL_law_288 : decode cL_law 288 = .ok (.aload_n 2, 1) := of_0 ok_aload_n_2 (od_ch (j := 32) lch_4 (by decide +kernel))
theorem dL_law_289 : decode cL_law 289 = .ok (.invokevirtual 31, 3) := of_u2 ok_invokevirtual 0 31 (od_ca (j := 33) lch_4 (by decide +kernel))
theorem dL_law_292 : decode cL_law 292 = .ok (.pop, 1) := of_0 ok_pop (od_ch (j := 36) lch_4 (by decide +kernel))
theorem dL_law_293 : decode cL_law 293 = .ok (.goto 833, 3) := of_s2 ok_goto 3 65 (od_ca (j := 37) lch_4 (by decide +kernel))
theorem dL_law_296 : decode cL_law 296 = .ok (.aload_n 1, 1) := of_0 ok_aload_n_1 (od_ch (j := 40) lch_4 (by decide +kernel))
theorem dL_law_297 : decode cL_law 297 = .ok (.aload_n 0, 1) := of_0 ok_aload_n_0 (od_ch (j := 41) lch_4 (by decide +kernel))
theorem dL_law_298 : decode cL_law 298 = .ok (.iload_n 3, 1) := of_0 ok_iload_n_3 (od_ch (j := 42) lch_4 (by decide +kernel))
theorem dL_law_299 : decode cL_law 299 = .ok (.iconst 1, 1) := of_0 ok_iconst_1 (od_ch (j := 43) lch_4 (by decide +kernel))
theorem dL_law_300 : decode cL_law 300 = .ok (.iadd, 1) := of_0 ok_iadd (od_ch (j := 44) lch_4 (by decide +kernel))
theorem dL_law_301 : decode cL_law 301 = .ok (.iaload, 1) := of_0 ok_iaload (od_ch (j := 45) lch_4 (by decide +kernel))
theorem dL_law_302 : decode cL_law 302 = .ok (.invokevirtual 32, 3) := of_u2 ok_invokevirtual 0 32 (od_ca (j := 46) lch_4 (by decide +kernel))
theorem dL_law_305 : decode cL_law 305 = .ok (.pop, 1) := of_0 ok_pop (od_ch (j := 49) lch_4 (by decide +kernel))
theorem dL_law_306 : decode cL_law 306 = .ok (.aload_n 2, 1) := of_0 ok_aload_n_2 (od_ch (j := 50) lch_4 (by decide +kernel))
theorem dL_law_307 : decode cL_law 307 = .ok (.aload_n 0, 1) := of_0 ok_aload_n_0 (od_ch (j := 51) lch_4 (by decide +kernel))
theorem dL_law_308 : decode cL_law 308 = .ok (.iload_n 3, 1) := of_0 ok_iload_n_3 (od_ch (j := 52) lch_4 (by decide +kernel))
theorem dL_law_309 : decode cL_law 309 = .ok (.iconst 1, 1) := of_0 ok_iconst_1 (od_ch (j := 53) lch_4 (by decide +kernel))
theorem dL_law_310 : decode cL_law 310 = .ok (.iadd, 1) := of_0 ok_iadd (od_ch (j := 54) lch_4 (by decide +kernel))
theorem dL_law_311 : decode cL_law 311 = .ok (.iaload, 1) := of_0 ok_iaload (od_ch (j := 55) lch_4 (by decide +kernel))
theorem dL_law_312 : decode cL_law 312 = .ok (.invokevirtual 35, 3) := of_u2 ok_invokevirtual 0 35 (od_ca (j := 56) lch_4 (by decide +kernel))
theorem dL_law_315 : decode cL_law 315 = .ok (.pop, 1) := of_0 ok_pop (od_ch (j := 59) lch_4 (by decide +kernel))
theorem dL_law_316 : decode cL_law 316 = .ok (.goto 810, 3) := of_s2 ok_goto 3 42 (od_ca (j := 60) lch_4 (by decide +kernel))
theorem dL_law_319 : decode cL_law 319 = .ok (.aload_n 1, 1) := of_0 ok_aload_n_1 (od_ch (j := 63) lch_4 (by decide +kernel))
theorem dL_law_320 : decode cL_law 320 = .ok (.aload_n 0, 1) := of_0 ok_aload_n_0 (od_ch (j := 0) lch_5 (by decide +kernel))
theorem dL_law_321 : decode cL_law 321 = .ok (.iload_n 3, 1) := of_0 ok_iload_n_3 (od_ch (j := 1) lch_5 (by decide +kernel))
theorem dL_law_322 : decode cL_law 322 = .ok (.iconst 1, 1) := of_0 ok_iconst_1 (od_ch (j := 2) lch_5 (by decide +kernel))
theorem dL_law_323 : decode cL_law 323 = .ok (.iadd, 1) := of_0 ok_iadd (od_ch (j := 3) lch_5 (by decide +kernel))
theorem dL_law_324 : decode cL_law 324 = .ok (.iaload, 1) := of_0 ok_iaload (od_ch (j := 4) lch_5 (by decide +kernel))
theorem dL_law_325 : decode cL_law 325 = .ok (.invokevirtual 36, 3) := of_u2 ok_invokevirtual 0 36 (od_ca (j := 5) lch_5 (by decide +kernel))
theorem dL_law_328 : decode cL_law 328 = .ok (.pop, 1) := of_0 ok_pop (od_ch (j := 8) lch_5 (by decide +kernel))
theorem dL_law_329 : decode cL_law 329 = .ok (.aload_n 2, 1) := of_0 ok_aload_n_2 (od_ch (j := 9) lch_5 (by decide +kernel))
theorem dL_law_330 : decode cL_law 330 = .ok (.aload_n 0, 1) := of_0 ok_aload_n_0 (od_ch (j := 10) lch_5 (by decide +kernel))
theorem dL_law_331 : decode cL_law 331 = .ok (.iload_n 3, 1) := of_0 ok_iload_n_3 (od_ch (j := 11) lch_5 (by decide +kernel))
theorem dL_law_332 : decode cL_law 332 = .ok (.iconst 1, 1) := of_0 ok_iconst_1 (od_ch (j := 12) lch_5 (by decide +kernel))
theorem dL_law_333 : decode cL_law 333 = .ok (.iadd, 1) := of_0 ok_iadd (od_ch (j := 13) lch_5 (by decide +kernel))
theorem dL_law_334 : decode cL_law 334 = .ok (.iaload, 1) := of_0 ok_iaload (od_ch (j := 14) lch_5 (by decide +kernel))
theorem dL_law_335 : decode cL_law 335 = .ok (.invokevirtual 39, 3) := of_u2 ok_invokevirtual 0 39 (od_ca (j := 15) lch_5 (by decide +kernel))
theorem dL_law_338 : decode cL_law 338 = .ok (.pop, 1) := of_0 ok_pop (od_ch (j := 18) lch_5 (by decide +kernel))
theorem dL_law_339 : decode cL_law 339 = .ok (.goto 787, 3) := of_s2 ok_goto 3 19 (od_ca (j := 19) lch_5 (by decide +kernel))
theorem dL_law_342 : decode cL_law 342 = .ok (.aload_n 1, 1) := of_0 ok_aload_n_1 (od_ch (j := 22) lch_5 (by decide +kernel))
theorem dL_law_343 : decode cL_law 343 = .ok (.aload_n 0, 1) := of_0 ok_aload_n_0 (od_ch (j := 23) lch_5 (by decide +kernel))
theorem dL_law_344 : decode cL_law 344 = .ok (.iload_n 3, 1) := of_0 ok_iload_n_3 (od_ch (j := 24) lch_5 (by decide +kernel))
theorem dL_law_345 : decode cL_law 345 = .ok (.iconst 1, 1) := of_0 ok_iconst_1 (od_ch (j := 25) lch_5 (by decide +kernel))
theorem dL_law_346 : decode cL_law 346 = .ok (.iadd, 1) := of_0 ok_iadd (od_ch (j := 26) lch_5 (by decide +kernel))
theorem dL_law_347 : decode cL_law 347 = .ok (.iaload, 1) := of_0 ok_iaload (od_ch (j := 27) lch_5 (by decide +kernel))
theorem dL_law_348 : decode cL_law 348 = .ok (.aload_n 0, 1) := of_0 ok_aload_n_0 (od_ch (j := 28) lch_5 (by decide +kernel))
theorem dL_law_349 : decode cL_law 349 = .ok (.iload_n 3, 1) := of_0 ok_iload_n_3 (od_ch (j := 29) lch_5 (by decide +kernel))
theorem dL_law_350 : decode cL_law 350 = .ok (.iconst 2, 1) := of_0 ok_iconst_2 (od_ch (j := 30) lch_5 (by decide +kernel))
theorem dL_law_351 : decode cL_law 351 = .ok (.iadd, 1) := of_0 ok_iadd (od_ch (j := 31) lch_5 (by decide +kernel))
theorem dL_law_352 : decode cL_law 352 = .ok (.iaload, 1) := of_0 ok_iaload (od_ch (j := 32) lch_5 (by decide +kernel))
theorem dL_law_353 : decode cL_law 353 = .ok (.invokevirtual 40, 3) := of_u2 ok_invokevirtual 0 40 (od_ca (j := 33) lch_5 (by decide +kernel))
theorem dL_law_356 : decode cL_law 356 = .ok (.pop, 1) := of_0 ok_pop (od_ch (j := 36) lch_5 (by decide +kernel))
theorem dL_law_357 : decode cL_law 357 = .ok (.aload_n 2, 1) := of_0 ok_aload_n_2 (od_ch (j := 37) lch_5 (by decide +kernel))
theorem dL_law_358 : decode cL_law 358 = .ok (.aload_n 0, 1) := of_0 ok_aload_n_0 (od_ch (j := 38) lch_5 (by decide +kernel))
theorem dL_law_359 : decode cL_law 359 = .ok (.iload_n 3, 1) := of_0 ok_iload_n_3 (od_ch (j := 39) lch_5 (by decide +kernel))
theorem dL_law_360 : decode cL_law 360 = .ok (.iconst 1, 1) := of_0 ok_iconst_1 (od_ch (j := 40) lch_5 (by decide +kernel))
theorem dL_law_361 : decode cL_law 361 = .ok (.iadd, 1) := of_0 ok_iadd (od_ch (j := 41) lch_5 (by decide +kernel))
theorem dL_law_362 : decode cL_law 362 = .ok (.iaload, 1) := of_0 ok_iaload (od_ch (j := 42) lch_5 (by decide +kernel))
theorem dL_law_363 : decode cL_law 363 = .ok (.aload_n 0, 1) := of_0 ok_aload_n_0 (od_ch (j := 43) lch_5 (by decide +kernel))
theorem dL_law_364 : decode cL_law 364 = .ok (.iload_n 3, 1) := of_0 ok_iload_n_3 (od_ch (j := 44) lch_5 (by decide +kernel))
theorem dL_law_365 : decode cL_law 365 = .ok (.iconst 2, 1) := of_0 ok_iconst_2 (od_ch (j := 45) lch_5 (by decide +kernel))
theorem dL_law_366 : decode cL_law 366 = .ok (.iadd, 1) := of_0 ok_iadd (od_ch (j := 46) lch_5 (by decide +kernel))
theorem dL_law_367 : decode cL_law 367 = .ok (.iaload, 1) := of_0 ok_iaload (od_ch (j := 47) lch_5 (by decide +kernel))
theorem dL_law_368 : decode cL_law 368 = .ok (.invokevirtual 44, 3) := of_u2 ok_invokevirtual 0 44 (od_ca (j := 48) lch_5 (by decide +kernel))
theorem dL_law_371 : decode cL_law 371 = .ok (.pop, 1) := of_0 ok_pop (od_ch (j := 51) lch_5 (by decide +kernel))
theorem dL_law_372 : decode cL_law 372 = .ok (.goto 754, 3) := of_s2 ok_goto 2 242 (od_ca (j := 52) lch_5 (by decide +kernel))
theorem dL_law_375 : decode cL_law 375 = .ok (.aload_n 1, 1) := of_0 ok_aload_n_1 (od_ch (j := 55) lch_5 (by decide +kernel))
theorem dL_law_376 : decode cL_law 376 = .ok (.aload_n 0, 1) := of_0 ok_aload_n_0 (od_ch (j := 56) lch_5 (by decide +kernel))
theorem dL_law_377 : decode cL_law 377 = .ok (.iload_n 3, 1) := of_0 ok_iload_n_3 (od_ch (j := 57) lch_5 (by decide +kernel))
theorem dL_law_378 : decode cL_law 378 = .ok (.iconst 1, 1) := of_0 ok_iconst_1 (od_ch (j := 58) lch_5 (by decide +kernel))
theorem dL_law_379 : decode cL_law 379 = .ok (.iadd, 1) := of_0 ok_iadd (od_ch (j := 59) lch_5 (by decide +kernel))
theorem dL_law_380 : decode cL_law 380 = .ok (.iaload, 1) := of_0 ok_iaload (od_ch (j := 60) lch_5 (by decide +kernel))
theorem dL_law_381 : decode cL_law 381 = .ok (.aload_n 0, 1) := of_0 ok_aload_n_0 (od_ch (j := 61) lch_5 (by decide +kernel))
theorem dL_law_382 : decode cL_law 382 = .ok (.iload_n 3, 1) := of_0 ok_iload_n_3 (od_ch (j := 62) lch_5 (by decide +kernel))
theorem dL_law_383 : decode cL_law 383 = .ok (.iconst 2, 1) := of_0 ok_iconst_2 (od_ch (j := 63) lch_5 (by decide +kernel))
theorem dL_law_384 : decode cL_law 384 = .ok (.iadd, 1) := of_0 ok_iadd (od_ch (j := 0) lch_6 (by decide +kernel))
theorem dL_law_385 : decode cL_law 385 = .ok (.iaload, 1) := of_0 ok_iaload (od_ch (j := 1) lch_6 (by decide +kernel))
theorem dL_law_386 : decode cL_law 386 = .ok (.invokevirtual 45, 3) := of_u2 ok_invokevirtual 0 45 (od_ca (j := 2) lch_6 (by decide +kernel))
theorem dL_law_389 : decode cL_law 389 = .ok (.pop, 1) := of_0 ok_pop (od_ch (j := 5) lch_6 (by decide +kernel))
theorem dL_law_390 : decode cL_law 390 = .ok (.aload_n 2, 1) := of_0 ok_aload_n_2 (od_ch (j := 6) lch_6 (by decide +kernel))
theorem dL_law_391 : decode cL_law 391 = .ok (.aload_n 0, 1) := of_0 ok_aload_n_0 (od_ch (j := 7) lch_6 (by decide +kernel))
theorem dL_law_392 : decode cL_law 392 = .ok (.iload_n 3, 1) := of_0 ok_iload_n_3 (od_ch (j := 8) lch_6 (by decide +kernel))
theorem dL_law_393 : decode cL_law 393 = .ok (.iconst 1, 1) := of_0 ok_iconst_1 (od_ch (j := 9) lch_6 (by decide +kernel))
theorem dL_law_394 : decode cL_law 394 = .ok (.iadd, 1) := of_0 ok_iadd (od_ch (j := 10) lch_6 (by decide +kernel))
theorem dL_law_395 : decode cL_law 395 = .ok (.iaload, 1) := of_0 ok_iaload (od_ch (j := 11) lch_6 (by decide +kernel))
theorem dL_law_396 : decode cL_law 396 = .ok (.aload_n 0, 1) := of_0 ok_aload_n_0 (od_ch (j := 12) lch_6 (by decide +kernel))
theorem dL_law_397 : decode cL_law 397 = .ok (.iload_n 3, 1) := of_0 ok_iload_n_3 (od_ch (j := 13) lch_6 (by decide +kernel))
theorem dL_law_398 : decode cL_law 398 = .ok (.iconst 2, 1) := of_0 ok_iconst_2 (od_ch (j := 14) lch_6 (by decide +kernel))
theorem dL_law_399 : decode cL_law 399 = .ok (.iadd, 1) := of_0 ok_iadd (od_ch (j := 15) lch_6 (by decide +kernel))
theorem dL_law_400 : decode cL_law 400 = .ok (.iaload, 1) := of_0 ok_iaload (od_ch (j := 16) lch_6 (by decide +kernel))
theorem dL_law_401 : decode cL_law 401 = .ok (.invokevirtual 48, 3) := of_u2 ok_invokevirtual 0 48 (od_ca (j := 17) lch_6 (by decide +kernel))
theorem dL_law_404 : decode cL_law 404 = .ok (.pop, 1) := of_0 ok_pop (od_ch (j := 20) lch_6 (by decide +kernel))
theorem dL_law_405 : decode cL_law 405 = .ok (.goto 721, 3) := of_s2 ok_goto 2 209 (od_ca (j := 21) lch_6 (by decide +kernel))
theorem dL_law_408 : decode cL_law 408 = .ok (.aload_n 1, 1) := of_0 ok_aload_n_1 (od_ch (j := 24) lch_6 (by decide +kernel))
theorem dL_law_409 : decode cL_law 409 = .ok (.invokevirtual 49, 3) := of_u2 ok_invokevirtual 0 49 (od_ca (j := 25) lch_6 (by decide +kernel))
theorem dL_law_412 : decode cL_law 412 = .ok (.pop, 1) := of_0 ok_pop (od_ch (j := 28) lch_6 (by decide +kernel))
theorem dL_law_413 : decode cL_law 413 = .ok (.aload_n 2, 1) := of_0 ok_aload_n_2 (od_ch (j := 29) lch_6 (by decide +kernel))
theorem dL_law_414 : decode cL_law 414 = .ok (.invokevirtual 52, 3) := of_u2 ok_invokevirtual 0 52 (od_ca (j := 30) lch_6 (by decide +kernel))
theorem dL_law_417 : decode cL_law 417 = .ok (.pop, 1) := of_0 ok_pop (od_ch (j := 33) lch_6 (by decide +kernel))
theorem dL_law_418 : decode cL_law 418 = .ok (.goto 708, 3) := of_s2 ok_goto 2 196 (od_ca (j := 34) lch_6 (by decide +kernel))
theorem dL_law_421 : decode cL_law 421 = .ok (.aload_n 1, 1) := of_0 ok_aload_n_1 (od_ch (j := 37) lch_6 (by decide +kernel))
theorem dL_law_422 : decode cL_law 422 = .ok (.aload_n 0, 1) := of_0 ok_aload_n_0 (od_ch (j := 38) lch_6 (by decide +kernel))
theorem dL_law_423 : decode cL_law 423 = .ok (.iload_n 3, 1) := of_0 ok_iload_n_3 (od_ch (j := 39) lch_6 (by decide +kernel))
theorem dL_law_424 : decode cL_law 424 = .ok (.iconst 1, 1) := of_0 ok_iconst_1 (od_ch (j := 40) lch_6 (by decide +kernel))
theorem dL_law_425 : decode cL_law 425 = .ok (.iadd, 1) := of_0 ok_iadd (od_ch (j := 41) lch_6 (by decide +kernel))
theorem dL_law_426 : decode cL_law 426 = .ok (.iaload, 1) := of_0 ok_iaload (od_ch (j := 42) lch_6 (by decide +kernel))
theorem dL_law_427 : decode cL_law 427 = .ok (.invokevirtual 53, 3) := of_u2 ok_invokevirtual 0 53 (od_ca (j := 43) lch_6 (by decide +kernel))
theorem dL_law_430 : decode cL_law 430 = .ok (.pop, 1) := of_0 ok_pop (od_ch (j := 46) lch_6 (by decide +kernel))
theorem dL_law_431 : decode cL_law 431 = .ok (.aload_n 2, 1) := of_0 ok_aload_n_2 (od_ch (j := 47) lch_6 (by decide +kernel))
theorem dL_law_432 : decode cL_law 432 = .ok (.aload_n 0, 1) := of_0 ok_aload_n_0 (od_ch (j := 48) lch_6 (by decide +kernel))
theorem dL_law_433 : decode cL_law 433 = .ok (.iload_n 3, 1) := of_0 ok_iload_n_3 (od_ch (j := 49) lch_6 (by decide +kernel))
theorem dL_law_434 : decode cL_law 434 = .ok (.iconst 1, 1) := of_0 ok_iconst_1 (od_ch (j := 50) lch_6 (by decide +kernel))
theorem dL_law_435 : decode cL_law 435 = .ok (.iadd, 1) := of_0 ok_iadd (od_ch (j := 51) lch_6 (by decide +kernel))
theorem dL_law_436 : decode cL_law 436 = .ok (.iaload, 1) := of_0 ok_iaload (od_ch (j := 52) lch_6 (by decide +kernel))
theorem dL_law_437 : decode cL_law 437 = .ok (.invokevirtual 56, 3) := of_u2 ok_invokevirtual 0 56 (od_ca (j := 53) lch_6 (by decide +kernel))
theorem dL_law_440 : decode cL_law 440 = .ok (.pop, 1) := of_0 ok_pop (od_ch (j := 56) lch_6 (by decide +kernel))
theorem dL_law_441 : decode cL_law 441 = .ok (.goto 685, 3) := of_s2 ok_goto 2 173 (od_ca (j := 57) lch_6 (by decide +kernel))
theorem dL_law_444 : decode cL_law 444 = .ok (.aload_n 1, 1) := of_0 ok_aload_n_1 (od_ch (j := 60) lch_6 (by decide +kernel))
theorem dL_law_445 : decode cL_law 445 = .ok (.aload_n 0, 1) := of_0 ok_aload_n_0 (od_ch (j := 61) lch_6 (by decide +kernel))
theorem dL_law_446 : decode cL_law 446 = .ok (.iload_n 3, 1) := of_0 ok_iload_n_3 (od_ch (j := 62) lch_6 (by decide +kernel))
theorem dL_law_447 : decode cL_law 447 = .ok (.iconst 1, 1) := of_0 ok_iconst_1 (od_ch (j := 63) lch_6 (by decide +kernel))
theorem dL_law_448 : decode cL_law 448 = .ok (.iadd, 1) := of_0 ok_iadd (od_ch (j := 0) lch_7 (by decide +kernel))
theorem dL_law_449 : decode cL_law 449 = .ok (.iaload, 1) := of_0 ok_iaload (od_ch (j := 1) lch_7 (by decide +kernel))
theorem dL_law_450 : decode cL_law 450 = .ok (.invokevirtual 57, 3) := of_u2 ok_invokevirtual 0 57 (od_ca (j := 2) lch_7 (by decide +kernel))
theorem dL_law_453 : decode cL_law 453 = .ok (.pop, 1) := of_0 ok_pop (od_ch (j := 5) lch_7 (by decide +kernel))
theorem dL_law_454 : decode cL_law 454 = .ok (.aload_n 2, 1) := of_0 ok_aload_n_2 (od_ch (j := 6) lch_7 (by decide +kernel))
theorem dL_law_455 : decode cL_law 455 = .ok (.aload_n 0, 1) := of_0 ok_aload_n_0 (od_ch (j := 7) lch_7 (by decide +kernel))
theorem dL_law_456 : decode cL_law 456 = .ok (.iload_n 3, 1) := of_0 ok_iload_n_3 (od_ch (j := 8) lch_7 (by decide +kernel))
theorem dL_law_457 : decode cL_law 457 = .ok (.iconst 1, 1) := of_0 ok_iconst_1 (od_ch (j := 9) lch_7 (by decide +kernel))
theorem dL_law_458 : decode cL_law 458 = .ok (.iadd, 1) := of_0 ok_iadd (od_ch (j := 10) lch_7 (by decide +kernel))
theorem dL_law_459 : decode cL_law 459 = .ok (.iaload, 1) := of_0 ok_iaload (od_ch (j := 11) lch_7 (by decide +kernel))
theorem dL_law_460 : decode cL_law 460 = .ok (.invokevirtual 60, 3) := of_u2 ok_invokevirtual 0 60 (od_ca (j := 12) lch_7 (by decide +kernel))
theorem dL_law_463 : decode cL_law 463 = .ok (.pop, 1) := of_0 ok_pop (od_ch (j := 15) lch_7 (by decide +kernel))
theorem dL_law_464 : decode cL_law 464 = .ok (.goto 662, 3) := of_s2 ok_goto 2 150 (od_ca (j := 16) lch_7 (by decide +kernel))
theorem dL_law_467 : decode cL_law 467 = .ok (.aload_n 1, 1) := of_0 ok_aload_n_1 (od_ch (j := 19) lch_7 (by decide +kernel))
theorem dL_law_468 : decode cL_law 468 = .ok (.aload_n 0, 1) := of_0 ok_aload_n_0 (od_ch (j := 20) lch_7 (by decide +kernel))
theorem dL_law_469 : decode cL_law 469 = .ok (.iload_n 3, 1) := of_0 ok_iload_n_3 (od_ch (j := 21) lch_7 (by decide +kernel))
theorem dL_law_470 : decode cL_law 470 = .ok (.iconst 1, 1) := of_0 ok_iconst_1 (od_ch (j := 22) lch_7 (by decide +kernel))
theorem dL_law_471 : decode cL_law 471 = .ok (.iadd, 1) := of_0 ok_iadd (od_ch (j := 23) lch_7 (by decide +kernel))
theorem dL_law_472 : decode cL_law 472 = .ok (.iaload, 1) := of_0 ok_iaload (od_ch (j := 24) lch_7 (by decide +kernel))
theorem dL_law_473 : decode cL_law 473 = .ok (.invokevirtual 61, 3) := of_u2 ok_invokevirtual 0 61 (od_ca (j := 25) lch_7 (by decide +kernel))
theorem dL_law_476 : decode cL_law 476 = .ok (.pop, 1) := of_0 ok_pop (od_ch (j := 28) lch_7 (by decide +kernel))
theorem dL_law_477 : decode cL_law 477 = .ok (.aload_n 2, 1) := of_0 ok_aload_n_2 (od_ch (j := 29) lch_7 (by decide +kernel))
theorem dL_law_478 : decode cL_law 478 = .ok (.aload_n 0, 1) := of_0 ok_aload_n_0 (od_ch (j := 30) lch_7 (by decide +kernel))
theorem dL_law_479 : decode cL_law 479 = .ok (.iload_n 3, 1) := of_0 ok_iload_n_3 (od_ch (j := 31) lch_7 (by decide +kernel))
theorem dL_law_480 : decode cL_law 480 = .ok (.iconst 1, 1) := of_0 ok_iconst_1 (od_ch (j := 32) lch_7 (by decide +kernel))
theorem dL_law_481 : decode cL_law 481 = .ok (.iadd, 1) := of_0 ok_iadd (od_ch (j := 33) lch_7 (by decide +kernel))
theorem dL_law_482 : decode cL_law 482 = .ok (.iaload, 1) := of_0 ok_iaload (od_ch (j := 34) lch_7 (by decide +kernel))
theorem dL_law_483 : decode cL_law 483 = .ok (.invokevirtual 64, 3) := of_u2 ok_invokevirtual 0 64 (od_ca (j := 35) lch_7 (by decide +kernel))
theorem dL_law_486 : decode cL_law 486 = .ok (.pop, 1) := of_0 ok_pop (od_ch (j := 38) lch_7 (by decide +kernel))
theorem dL_law_487 : decode cL_law 487 = .ok (.goto 639, 3) := of_s2 ok_goto 2 127 (od_ca (j := 39) lch_7 (by decide +kernel))
theorem dL_law_490 : decode cL_law 490 = .ok (.aload_n 1, 1) := of_0 ok_aload_n_1 (od_ch (j := 42) lch_7 (by decide +kernel))
theorem dL_law_491 : decode cL_law 491 = .ok (.aload_n 0, 1) := of_0 ok_aload_n_0 (od_ch (j := 43) lch_7 (by decide +kernel))
theorem dL_law_492 : decode cL_law 492 = .ok (.iload_n 3, 1) := of_0 ok_iload_n_3 (od_ch (j := 44) lch_7 (by decide +kernel))
theorem dL_law_493 : decode cL_law 493 = .ok (.iconst 1, 1) := of_0 ok_iconst_1 (od_ch (j := 45) lch_7 (by decide +kernel))
theorem dL_law_494 : decode cL_law 494 = .ok (.iadd, 1) := of_0 ok_iadd (od_ch (j := 46) lch_7 (by decide +kernel))
theorem dL_law_495 : decode cL_law 495 = .ok (.iaload, 1) := of_0 ok_iaload (od_ch (j := 47) lch_7 (by decide +kernel))
theorem dL_law_496 : decode cL_law 496 = .ok (.aload_n 0, 1) := of_0 ok_aload_n_0 (od_ch (j := 48) lch_7 (by decide +kernel))
theorem dL_law_497 : decode cL_law 497 = .ok (.iload_n 3, 1) := of_0 ok_iload_n_3 (od_ch (j := 49) lch_7 (by decide +kernel))
theorem dL_law_498 : decode cL_law 498 = .ok (.iconst 2, 1) := of_0 ok_iconst_2 (od_ch (j := 50) lch_7 (by decide +kernel))
theorem dL_law_499 : decode cL_law 499 = .ok (.iadd, 1) := of_0 ok_iadd (od_ch (j := 51) lch_7 (by decide +kernel))
theorem dL_law_500 : decode cL_law 500 = .ok (.iaload, 1) := of_0 ok_iaload (od_ch (j := 52) lch_7 (by decide +kernel))
theorem dL_law_501 : decode cL_law 501 = .ok (.invokevirtual 65, 3) := of_u2 ok_invokevirtual 0 65 (od_ca (j := 53) lch_7 (by decide +kernel))
theorem dL_law_504 : decode cL_law 504 = .ok (.pop, 1) := of_0 ok_pop (od_ch (j := 56) lch_7 (by decide +kernel))
theorem dL_law_505 : decode cL_law 505 = .ok (.aload_n 2, 1) := of_0 ok_aload_n_2 (od_ch (j := 57) lch_7 (by decide +kernel))
theorem dL_law_506 : decode cL_law 506 = .ok (.aload_n 0, 1) := of_0 ok_aload_n_0 (od_ch (j := 58) lch_7 (by decide +kernel))
theorem dL_law_507 : decode cL_law 507 = .ok (.iload_n 3, 1) := of_0 ok_iload_n_3 (od_ch (j := 59) lch_7 (by decide +kernel))
theorem dL_law_508 : decode cL_law 508 = .ok (.iconst 1, 1) := of_0 ok_iconst_1 (od_ch (j := 60) lch_7 (by decide +kernel))
theorem dL_law_509 : decode cL_law 509 = .ok (.iadd, 1) := of_0 ok_iadd (od_ch (j := 61) lch_7 (by decide +kernel))
theorem dL_law_510 : decode cL_law 510 = .ok (.iaload, 1) := of_0 ok_iaload (od_ch (j := 62) lch_7 (by decide +kernel))
theorem dL_law_511 : decode cL_law 511 = .ok (.aload_n 0, 1) := of_0 ok_aload_n_0 (od_ch (j := 63) lch_7 (by decide +kernel))
theorem dL_law_512 : decode cL_law 512 = .ok (.iload_n 3, 1) := of_0 ok_iload_n_3 (od_ch (j := 0) lch_8 (by decide +kernel))
theorem dL_law_513 : decode cL_law 513 = .ok (.iconst 2, 1) := of_0 ok_iconst_2 (od_ch (j := 1) lch_8 (by decide +kernel))
theorem dL_law_514 : decode cL_law 514 = .ok (.iadd, 1) := of_0 ok_iadd (od_ch (j := 2) lch_8 (by decide +kernel))
theorem dL_law_515 : decode cL_law 515 = .ok (.iaload, 1) := of_0 ok_iaload (od_ch (j := 3) lch_8 (by decide +kernel))
theorem dL_law_516 : decode cL_law 516 = .ok (.invokevirtual 68, 3) := of_u2 ok_invokevirtual 0 68 (od_ca (j := 4) lch_8 (by decide +kernel))
theorem dL_law_519 : decode cL_law 519 = .ok (.pop, 1) := of_0 ok_pop (od_ch (j := 7) lch_8 (by decide +kernel))
theorem dL_law_520 : decode cL_law 520 = .ok (.goto 606, 3) := of_s2 ok_goto 2 94 (od_ca (j := 8) lch_8 (by decide +kernel))
theorem dL_law_523 : decode cL_law 523 = .ok (.aload_n 1, 1) := of_0 ok_aload_n_1 (od_ch (j := 11) lch_8 (by decide +kernel))
theorem dL_law_524 : decode cL_law 524 = .ok (.invokevirtual 69, 3) := of_u2 ok_invokevirtual 0 69 (od_ca (j := 12) lch_8 (by decide +kernel))
theorem dL_law_527 : decode cL_law 527 = .ok (.pop, 1) := of_0 ok_pop (od_ch (j := 15) lch_8 (by decide +kernel))
theorem dL_law_528 : decode cL_law 528 = .ok (.aload_n 2, 1) := of_0 ok_aload_n_2 (od_ch (j := 16) lch_8 (by decide +kernel))
theorem dL_law_529 : decode cL_law 529 = .ok (.invokevirtual 72, 3) := of_u2 ok_invokevirtual 0 72 (od_ca (j := 17) lch_8 (by decide +kernel))
theorem dL_law_532 : decode cL_law 532 = .ok (.pop, 1) := of_0 ok_pop (od_ch (j := 20) lch_8 (by decide +kernel))
theorem dL_law_533 : decode cL_law 533 = .ok (.goto 593, 3) := of_s2 ok_goto 2 81 (od_ca (j := 21) lch_8 (by decide +kernel))
theorem dL_law_536 : decode cL_law 536 = .ok (.aload_n 1, 1) := of_0 ok_aload_n_1 (od_ch (j := 24) lch_8 (by decide +kernel))
theorem dL_law_537 : decode cL_law 537 = .ok (.aload_n 0, 1) := of_0 ok_aload_n_0 (od_ch (j := 25) lch_8 (by decide +kernel))
theorem dL_law_538 : decode cL_law 538 = .ok (.iload_n 3, 1) := of_0 ok_iload_n_3 (od_ch (j := 26) lch_8 (by decide +kernel))
theorem dL_law_539 : decode cL_law 539 = .ok (.iconst 1, 1) := of_0 ok_iconst_1 (od_ch (j := 27) lch_8 (by decide +kernel))
theorem dL_law_540 : decode cL_law 540 = .ok (.iadd, 1) := of_0 ok_iadd (od_ch (j := 28) lch_8 (by decide +kernel))
theorem dL_law_541 : decode cL_law 541 = .ok (.iaload, 1) := of_0 ok_iaload (od_ch (j := 29) lch_8 (by decide +kernel))
theorem dL_law_542 : decode cL_law 542 = .ok (.aload_n 0, 1) := of_0 ok_aload_n_0 (od_ch (j := 30) lch_8 (by decide +kernel))
theorem dL_law_543 : decode cL_law 543 = .ok (.iload_n 3, 1) := of_0 ok_iload_n_3 (od_ch (j := 31) lch_8 (by decide +kernel))
theorem dL_law_544 : decode cL_law 544 = .ok (.iconst 2, 1) := of_0 ok_iconst_2 (od_ch (j := 32) lch_8 (by decide +kernel))
theorem dL_law_545 : decode cL_law 545 = .ok (.iadd, 1) := of_0 ok_iadd (od_ch (j := 33) lch_8 (by decide +kernel))
theorem dL_law_546 : decode cL_law 546 = .ok (.iaload, 1) := of_0 ok_iaload (od_ch (j := 34) lch_8 (by decide +kernel))
theorem dL_law_547 : decode cL_law 547 = .ok (.aload_n 0, 1) := of_0 ok_aload_n_0 (od_ch (j := 35) lch_8 (by decide +kernel))
theorem dL_law_548 : decode cL_law 548 = .ok (.iload_n 3, 1) := of_0 ok_iload_n_3 (od_ch (j := 36) lch_8 (by decide +kernel))
theorem dL_law_549 : decode cL_law 549 = .ok (.iconst 3, 1) := of_0 ok_iconst_3 (od_ch (j := 37) lch_8 (by decide +kernel))
theorem dL_law_550 : decode cL_law 550 = .ok (.iadd, 1) := of_0 ok_iadd (od_ch (j := 38) lch_8 (by decide +kernel))
theorem dL_law_551 : decode cL_law 551 = .ok (.iaload, 1) := of_0 ok_iaload (od_ch (j := 39) lch_8 (by decide +kernel))
theorem dL_law_552 : decode cL_law 552 = .ok (.invokevirtual 73, 3) := of_u2 ok_invokevirtual 0 73 (od_ca (j := 40) lch_8 (by decide +kernel))
theorem dL_law_555 : decode cL_law 555 = .ok (.pop, 1) := of_0 ok_pop (od_ch (j := 43) lch_8 (by decide +kernel))
theorem dL_law_556 : decode cL_law 556 = .ok (.aload_n 2, 1) := of_0 ok_aload_n_2 (od_ch (j := 44) lch_8 (by decide +kernel))
theorem dL_law_557 : decode cL_law 557 = .ok (.aload_n 0, 1) := of_0 ok_aload_n_0 (od_ch (j := 45) lch_8 (by decide +kernel))
theorem dL_law_558 : decode cL_law 558 = .ok (.iload_n 3, 1) := of_0 ok_iload_n_3 (od_ch (j := 46) lch_8 (by decide +kernel))
theorem dL_law_559 : decode cL_law 559 = .ok (.iconst 1, 1) := of_0 ok_iconst_1 (od_ch (j := 47) lch_8 (by decide +kernel))
theorem dL_law_560 : decode cL_law 560 = .ok (.iadd, 1) := of_0 ok_iadd (od_ch (j := 48) lch_8 (by decide +kernel))
theorem dL_law_561 : decode cL_law 561 = .ok (.iaload, 1) := of_0 ok_iaload (od_ch (j := 49) lch_8 (by decide +kernel))
theorem dL_law_562 : decode cL_law 562 = .ok (.aload_n 0, 1) := of_0 ok_aload_n_0 (od_ch (j := 50) lch_8 (by decide +kernel))
theorem dL_law_563 : decode cL_law 563 = .ok (.iload_n 3, 1) := of_0 ok_iload_n_3 (od_ch (j := 51) lch_8 (by decide +kernel))
theorem dL_law_564 : decode cL_law 564 = .ok (.iconst 2, 1) := of_0 ok_iconst_2 (od_ch (j := 52) lch_8 (by decide +kernel))
theorem dL_law_565 : decode cL_law 565 = .ok (.iadd, 1) := of_0 ok_iadd (od_ch (j := 53) lch_8 (by decide +kernel))
theorem dL_law_566 : decode cL_law 566 = .ok (.iaload, 1) := of_0 ok_iaload (od_ch (j := 54) lch_8 (by decide +kernel))
theorem dL_law_567 : decode cL_law 567 = .ok (.aload_n 0, 1) := of_0 ok_aload_n_0 (od_ch (j := 55) lch_8 (by decide +kernel))
theorem dL_law_568 : decode cL_law 568 = .ok (.iload_n 3, 1) := of_0 ok_iload_n_3 (od_ch (j := 56) lch_8 (by decide +kernel))
theorem dL_law_569 : decode cL_law 569 = .ok (.iconst 3, 1) := of_0 ok_iconst_3 (od_ch (j := 57) lch_8 (by decide +kernel))
theorem dL_law_570 : decode cL_law 570 = .ok (.iadd, 1) := of_0 ok_iadd (od_ch (j := 58) lch_8 (by decide +kernel))
theorem dL_law_571 : decode cL_law 571 = .ok (.iaload, 1) := of_0 ok_iaload (od_ch (j := 59) lch_8 (by decide +kernel))
theorem dL_law_572 : decode cL_law 572 = .ok (.invokevirtual 77, 3) := of_u2 ok_invokevirtual 0 77 (od_ca (j := 60) lch_8 (by decide +kernel))
theorem dL_law_575 : decode cL_law 575 = .ok (.pop, 1) := of_0 ok_pop (od_ch (j := 63) lch_8 (by decide +kernel))
theorem dL_law_576 : decode cL_law 576 = .ok (.goto 550, 3) := of_s2 ok_goto 2 38 (od_ca (j := 0) lch_9 (by decide +kernel))
theorem dL_law_579 : decode cL_law 579 = .ok (.aload_n 1, 1) := of_0 ok_aload_n_1 (od_ch (j := 3) lch_9 (by decide +kernel))
theorem dL_law_580 : decode cL_law 580 = .ok (.aload_n 0, 1) := of_0 ok_aload_n_0 (od_ch (j := 4) lch_9 (by decide +kernel))
theorem dL_law_581 : decode cL_law 581 = .ok (.iload_n 3, 1) := of_0 ok_iload_n_3 (od_ch (j := 5) lch_9 (by decide +kernel))
theorem dL_law_582 : decode cL_law 582 = .ok (.iconst 1, 1) := of_0 ok_iconst_1 (od_ch (j := 6) lch_9 (by decide +kernel))
theorem dL_law_583 : decode cL_law 583 = .ok (.iadd, 1) := of_0 ok_iadd (od_ch (j := 7) lch_9 (by decide +kernel))
theorem dL_law_584 : decode cL_law 584 = .ok (.iaload, 1) := of_0 ok_iaload (od_ch (j := 8) lch_9 (by decide +kernel))
theorem dL_law_585 : decode cL_law 585 = .ok (.invokevirtual 78, 3) := of_u2 ok_invokevirtual 0 78 (od_ca (j := 9) lch_9 (by decide +kernel))
theorem dL_law_588 : decode cL_law 588 = .ok (.pop, 1) := of_0 ok_pop (od_ch (j := 12) lch_9 (by decide +kernel))
theorem dL_law_589 : decode cL_law 589 = .ok (.aload_n 2, 1) := of_0 ok_aload_n_2 (od_ch (j := 13) lch_9 (by decide +kernel))
theorem dL_law_590 : decode cL_law 590 = .ok (.aload_n 0, 1) := of_0 ok_aload_n_0 (od_ch (j := 14) lch_9 (by decide +kernel))
theorem dL_law_591 : decode cL_law 591 = .ok (.iload_n 3, 1) := of_0 ok_iload_n_3 (od_ch (j := 15) lch_9 (by decide +kernel))
theorem dL_law_592 : decode cL_law 592 = .ok (.iconst 1, 1) := of_0 ok_iconst_1 (od_ch (j := 16) lch_9 (by decide +kernel))
theorem dL_law_593 : decode cL_law 593 = .ok (.iadd, 1) := of_0 ok_iadd (od_ch (j := 17) lch_9 (by decide +kernel))
theorem dL_law_594 : decode cL_law 594 = .ok (.iaload, 1) := of_0 ok_iaload (od_ch (j := 18) lch_9 (by decide +kernel))
theorem dL_law_595 : decode cL_law 595 = .ok (.invokevirtual 81, 3) := of_u2 ok_invokevirtual 0 81 (od_ca (j := 19) lch_9 (by decide +kernel))
theorem dL_law_598 : decode cL_law 598 = .ok (.pop, 1) := of_0 ok_pop (od_ch (j := 22) lch_9 (by decide +kernel))
theorem dL_law_599 : decode cL_law 599 = .ok (.goto 527, 3) := of_s2 ok_goto 2 15 (od_ca (j := 23) lch_9 (by decide +kernel))
theorem dL_law_602 : decode cL_law 602 = .ok (.aload_n 1, 1) := of_0 ok_aload_n_1 (od_ch (j := 26) lch_9 (by decide +kernel))
theorem dL_law_603 : decode cL_law 603 = .ok (.aload_n 0, 1) := of_0 ok_aload_n_0 (od_ch (j := 27) lch_9 (by decide +kernel))
theorem dL_law_604 : decode cL_law 604 = .ok (.iload_n 3, 1) := of_0 ok_iload_n_3 (od_ch (j := 28) lch_9 (by decide +kernel))
theorem dL_law_605 : decode cL_law 605 = .ok (.iconst 1, 1) := of_0 ok_iconst_1 (od_ch (j := 29) lch_9 (by decide +kernel))
theorem dL_law_606 : decode cL_law 606 = .ok (.iadd, 1) := of_0 ok_iadd (od_ch (j := 30) lch_9 (by decide +kernel))
theorem dL_law_607 : decode cL_law 607 = .ok (.iaload, 1) := of_0 ok_iaload (od_ch (j := 31) lch_9 (by decide +kernel))
theorem dL_law_608 : decode cL_law 608 = .ok (.invokevirtual 82, 3) := of_u2 ok_invokevirtual 0 82 (od_ca (j := 32) lch_9 (by decide +kernel))
theorem dL_law_611 : decode cL_law 611 = .ok (.pop, 1) := of_0 ok_pop (od_ch (j := 35) lch_9 (by decide +kernel))
theorem dL_law_612 : decode cL_law 612 = .ok (.aload_n 2, 1) := of_0 ok_aload_n_2 (od_ch (j := 36) lch_9 (by decide +kernel))
theorem dL_law_613 : decode cL_law 613 = .ok (.aload_n 0, 1) := of_0 ok_aload_n_0 (od_ch (j := 37) lch_9 (by decide +kernel))
theorem dL_law_614 : decode cL_law 614 = .ok (.iload_n 3, 1) := of_0 ok_iload_n_3 (od_ch (j := 38) lch_9 (by decide +kernel))
theorem dL_law_615 : decode cL_law 615 = .ok (.iconst 1, 1) := of_0 ok_iconst_1 (od_ch (j := 39) lch_9 (by decide +kernel))
theorem dL_law_616 : decode cL_law 616 = .ok (.iadd, 1) := of_0 ok_iadd (od_ch (j := 40) lch_9 (by decide +kernel))
theorem dL_law_617 : decode cL_law 617 = .ok (.iaload, 1) := of_0 ok_iaload (od_ch (j := 41) lch_9 (by decide +kernel))
theorem dL_law_618 : decode cL_law 618 = .ok (.invokevirtual 85, 3) := of_u2 ok_invokevirtual 0 85 (od_ca (j := 42) lch_9 (by decide +kernel))
theorem dL_law_621 : decode cL_law 621 = .ok (.pop, 1) := of_0 ok_pop (od_ch (j := 45) lch_9 (by decide +kernel))
theorem dL_law_622 : decode cL_law 622 = .ok (.goto 504, 3) := of_s2 ok_goto 1 248 (od_ca (j := 46) lch_9 (by decide +kernel))
theorem dL_law_625 : decode cL_law 625 = .ok (.aload_n 1, 1) := of_0 ok_aload_n_1 (od_ch (j := 49) lch_9 (by decide +kernel))
theorem dL_law_626 : decode cL_law 626 = .ok (.aload_n 0, 1) := of_0 ok_aload_n_0 (od_ch (j := 50) lch_9 (by decide +kernel))
theorem dL_law_627 : decode cL_law 627 = .ok (.iload_n 3, 1) := of_0 ok_iload_n_3 (od_ch (j := 51) lch_9 (by decide +kernel))
theorem dL_law_628 : decode cL_law 628 = .ok (.iconst 1, 1) := of_0 ok_iconst_1 (od_ch (j := 52) lch_9 (by decide +kernel))
theorem dL_law_629 : decode cL_law 629 = .ok (.iadd, 1) := of_0 ok_iadd (od_ch (j := 53) lch_9 (by decide +kernel))
theorem dL_law_630 : decode cL_law 630 = .ok (.iaload, 1) := of_0 ok_iaload (od_ch (j := 54) lch_9 (by decide +kernel))
theorem dL_law_631 : decode cL_law 631 = .ok (.invokevirtual 86, 3) := of_u2 ok_invokevirtual 0 86 (od_ca (j := 55) lch_9 (by decide +kernel))
theorem dL_law_634 : decode cL_law 634 = .ok (.pop, 1) := of_0 ok_pop (od_ch (j := 58) lch_9 (by decide +kernel))
theorem dL_law_635 : decode cL_law 635 = .ok (.aload_n 2, 1) := of_0 ok_aload_n_2 (od_ch (j := 59) lch_9 (by decide +kernel))
theorem dL_law_636 : decode cL_law 636 = .ok (.aload_n 0, 1) := of_0 ok_aload_n_0 (od_ch (j := 60) lch_9 (by decide +kernel))
theorem dL_law_637 : decode cL_law 637 = .ok (.iload_n 3, 1) := of_0 ok_iload_n_3 (od_ch (j := 61) lch_9 (by decide +kernel))
theorem dL_law_638 : decode cL_law 638 = .ok (.iconst 1, 1) := of_0 ok_iconst_1 (od_ch (j := 62) lch_9 (by decide +kernel))
theorem dL_law_639 : decode cL_law 639 = .ok (.iadd, 1) := of_0 ok_iadd (od_ch (j := 63) lch_9 (by decide +kernel))
theorem dL_law_640 : decode cL_law 640 = .ok (.iaload, 1) := of_0 ok_iaload (od_ch (j := 0) lch_10 (by decide +kernel))
theorem dL_law_641 : decode cL_law 641 = .ok (.invokevirtual 89, 3) := of_u2 ok_invokevirtual 0 89 (od_ca (j := 1) lch_10 (by decide +kernel))
theorem dL_law_644 : decode cL_law 644 = .ok (.pop, 1) := of_0 ok_pop (od_ch (j := 4) lch_10 (by decide +kernel))
theorem dL_law_645 : decode cL_law 645 = .ok (.goto 481, 3) := of_s2 ok_goto 1 225 (od_ca (j := 5) lch_10 (by decide +kernel))
theorem dL_law_648 : decode cL_law 648 = .ok (.aload_n 1, 1) := of_0 ok_aload_n_1 (od_ch (j := 8) lch_10 (by decide +kernel))
theorem dL_law_649 : decode cL_law 649 = .ok (.aload_n 0, 1) := of_0 ok_aload_n_0 (od_ch (j := 9) lch_10 (by decide +kernel))
theorem dL_law_650 : decode cL_law 650 = .ok (.iload_n 3, 1) := of_0 ok_iload_n_3 (od_ch (j := 10) lch_10 (by decide +kernel))
theorem dL_law_651 : decode cL_law 651 = .ok (.iconst 1, 1) := of_0 ok_iconst_1 (od_ch (j := 11) lch_10 (by decide +kernel))
theorem dL_law_652 : decode cL_law 652 = .ok (.iadd, 1) := of_0 ok_iadd (od_ch (j := 12) lch_10 (by decide +kernel))
theorem dL_law_653 : decode cL_law 653 = .ok (.iaload, 1) := of_0 ok_iaload (od_ch (j := 13) lch_10 (by decide +kernel))
theorem dL_law_654 : decode cL_law 654 = .ok (.invokevirtual 90, 3) := of_u2 ok_invokevirtual 0 90 (od_ca (j := 14) lch_10 (by decide +kernel))
theorem dL_law_657 : decode cL_law 657 = .ok (.pop, 1) := of_0 ok_pop (od_ch (j := 17) lch_10 (by decide +kernel))
theorem dL_law_658 : decode cL_law 658 = .ok (.aload_n 2, 1) := of_0 ok_aload_n_2 (od_ch (j := 18) lch_10 (by decide +kernel))
theorem dL_law_659 : decode cL_law 659 = .ok (.aload_n 0, 1) := of_0 ok_aload_n_0 (od_ch (j := 19) lch_10 (by decide +kernel))
theorem dL_law_660 : decode cL_law 660 = .ok (.iload_n 3, 1) := of_0 ok_iload_n_3 (od_ch (j := 20) lch_10 (by decide +kernel))
theorem dL_law_661 : decode cL_law 661 = .ok (.iconst 1, 1) := of_0 ok_iconst_1 (od_ch (j := 21) lch_10 (by decide +kernel))
theorem dL_law_662 : decode cL_law 662 = .ok (.iadd, 1) := of_0 ok_iadd (od_ch (j := 22) lch_10 (by decide +kernel))
theorem dL_law_663 : decode cL_law 663 = .ok (.iaload, 1) := of_0 ok_iaload (od_ch (j := 23) lch_10 (by decide +kernel))
theorem dL_law_664 : decode cL_law 664 = .ok (.invokevirtual 93, 3) := of_u2 ok_invokevirtual 0 93 (od_ca (j := 24) lch_10 (by decide +kernel))
theorem dL_law_667 : decode cL_law 667 = .ok (.pop, 1) := of_0 ok_pop (od_ch (j := 27) lch_10 (by decide +kernel))
theorem dL_law_668 : decode cL_law 668 = .ok (.goto 458, 3) := of_s2 ok_goto 1 202 (od_ca (j := 28) lch_10 (by decide +kernel))
theorem dL_law_671 : decode cL_law 671 = .ok (.aload_n 1, 1) := of_0 ok_aload_n_1 (od_ch (j := 31) lch_10 (by decide +kernel))
theorem dL_law_672 : decode cL_law 672 = .ok (.aload_n 0, 1) := of_0 ok_aload_n_0 (od_ch (j := 32) lch_10 (by decide +kernel))
theorem dL_law_673 : decode cL_law 673 = .ok (.iload_n 3, 1) := of_0 ok_iload_n_3 (od_ch (j := 33) lch_10 (by decide +kernel))
theorem dL_law_674 : decode cL_law 674 = .ok (.iconst 1, 1) := of_0 ok_iconst_1 (od_ch (j := 34) lch_10 (by decide +kernel))
theorem dL_law_675 : decode cL_law 675 = .ok (.iadd, 1) := of_0 ok_iadd (od_ch (j := 35) lch_10 (by decide +kernel))
theorem dL_law_676 : decode cL_law 676 = .ok (.iaload, 1) := of_0 ok_iaload (od_ch (j := 36) lch_10 (by decide +kernel))
theorem dL_law_677 : decode cL_law 677 = .ok (.invokevirtual 94, 3) := of_u2 ok_invokevirtual 0 94 (od_ca (j := 37) lch_10 (by decide +kernel))
theorem dL_law_680 : decode cL_law 680 = .ok (.pop, 1) := of_0 ok_pop (od_ch (j := 40) lch_10 (by decide +kernel))
theorem dL_law_681 : decode cL_law 681 = .ok (.aload_n 2, 1) := of_0 ok_aload_n_2 (od_ch (j := 41) lch_10 (by decide +kernel))
theorem dL_law_682 : decode cL_law 682 = .ok (.aload_n 0, 1) := of_0 ok_aload_n_0 (od_ch (j := 42) lch_10 (by decide +kernel))
theorem dL_law_683 : decode cL_law 683 = .ok (.iload_n 3, 1) := of_0 ok_iload_n_3 (od_ch (j := 43) lch_10 (by decide +kernel))
theorem dL_law_684 : decode cL_law 684 = .ok (.iconst 1, 1) := of_0 ok_iconst_1 (od_ch (j := 44) lch_10 (by decide +kernel))
theorem dL_law_685 : decode cL_law 685 = .ok (.iadd, 1) := of_0 ok_iadd (od_ch (j := 45) lch_10 (by decide +kernel))
theorem dL_law_686 : decode cL_law 686 = .ok (.iaload, 1) := of_0 ok_iaload (od_ch (j := 46) lch_10 (by decide +kernel))
theorem dL_law_687 : decode cL_law 687 = .ok (.invokevirtual 97, 3) := of_u2 ok_invokevirtual 0 97 (od_ca (j := 47) lch_10 (by decide +kernel))
theorem dL_law_690 : decode cL_law 690 = .ok (.pop, 1) := of_0 ok_pop (od_ch (j := 50) lch_10 (by decide +kernel))
theorem dL_law_691 : decode cL_law 691 = .ok (.goto 435, 3) := of_s2 ok_goto 1 179 (od_ca (j := 51) lch_10 (by decide +kernel))
theorem dL_law_694 : decode cL_law 694 = .ok (.aload_n 1, 1) := of_0 ok_aload_n_1 (od_ch (j := 54) lch_10 (by decide +kernel))
theorem dL_law_695 : decode cL_law 695 = .ok (.aload_n 0, 1) := of_0 ok_aload_n_0 (od_ch (j := 55) lch_10 (by decide +kernel))
theorem dL_law_696 : decode cL_law 696 = .ok (.iload_n 3, 1) := of_0 ok_iload_n_3 (od_ch (j := 56) lch_10 (by decide +kernel))
theorem dL_law_697 : decode cL_law 697 = .ok (.iconst 1, 1) := of_0 ok_iconst_1 (od_ch (j := 57) lch_10 (by decide +kernel))
theorem dL_law_698 : decode cL_law 698 = .ok (.iadd, 1) := of_0 ok_iadd (od_ch (j := 58) lch_10 (by decide +kernel))
theorem dL_law_699 : decode cL_law 699 = .ok (.iaload, 1) := of_0 ok_iaload (od_ch (j := 59) lch_10 (by decide +kernel))
theorem dL_law_700 : decode cL_law 700 = .ok (.invokevirtual 98, 3) := of_u2 ok_invokevirtual 0 98 (od_ca (j := 60) lch_10 (by decide +kernel))
theorem dL_law_703 : decode cL_law 703 = .ok (.pop, 1) := of_0 ok_pop (od_ch (j := 63) lch_10 (by decide +kernel))
theorem dL_law_704 : decode cL_law 704 = .ok (.aload_n 2, 1) := of_0 ok_aload_n_2 (od_ch (j := 0) lch_11 (by decide +kernel))
theorem dL_law_705 : decode cL_law 705 = .ok (.aload_n 0, 1) := of_0 ok_aload_n_0 (od_ch (j := 1) lch_11 (by decide +kernel))
theorem dL_law_706 : decode cL_law 706 = .ok (.iload_n 3, 1) := of_0 ok_iload_n_3 (od_ch (j := 2) lch_11 (by decide +kernel))
theorem dL_law_707 : decode cL_law 707 = .ok (.iconst 1, 1) := of_0 ok_iconst_1 (od_ch (j := 3) lch_11 (by decide +kernel))
theorem dL_law_708 : decode cL_law 708 = .ok (.iadd, 1) := of_0 ok_iadd (od_ch (j := 4) lch_11 (by decide +kernel))
theorem dL_law_709 : decode cL_law 709 = .ok (.iaload, 1) := of_0 ok_iaload (od_ch (j := 5) lch_11 (by decide +kernel))
theorem dL_law_710 : decode cL_law 710 = .ok (.invokevirtual 101, 3) := of_u2 ok_invokevirtual 0 101 (od_ca (j := 6) lch_11 (by decide +kernel))
theorem dL_law_713 : decode cL_law 713 = .ok (.pop, 1) := of_0 ok_pop (od_ch (j := 9) lch_11 (by decide +kernel))
theorem dL_law_714 : decode cL_law 714 = .ok (.goto 412, 3) := of_s2 ok_goto 1 156 (od_ca (j := 10) lch_11 (by decide +kernel))
theorem dL_law_717 : decode cL_law 717 = .ok (.aload_n 1, 1) := of_0 ok_aload_n_1 (od_ch (j := 13) lch_11 (by decide +kernel))
theorem dL_law_718 : decode cL_law 718 = .ok (.aload_n 0, 1) := of_0 ok_aload_n_0 (od_ch (j := 14) lch_11 (by decide +kernel))
theorem dL_law_719 : decode cL_law 719 = .ok (.iload_n 3, 1) := of_0 ok_iload_n_3 (od_ch (j := 15) lch_11 (by decide +kernel))
theorem dL_law_720 : decode cL_law 720 = .ok (.iconst 1, 1) := of_0 ok_iconst_1 (od_ch (j := 16) lch_11 (by decide +kernel))
theorem dL_law_721 : decode cL_law 721 = .ok (.iadd, 1) := of_0 ok_iadd (od_ch (j := 17) lch_11 (by decide +kernel))
theorem dL_law_722 : decode cL_law 722 = .ok (.iaload, 1) := of_0 ok_iaload (od_ch (j := 18) lch_11 (by decide +kernel))
theorem dL_law_723 : decode cL_law 723 = .ok (.aload_n 0, 1) := of_0 ok_aload_n_0 (od_ch (j := 19) lch_11 (by decide +kernel))
theorem dL_law_724 : decode cL_law 724 = .ok (.iload_n 3, 1) := of_0 ok_iload_n_3 (od_ch (j := 20) lch_11 (by decide +kernel))
theorem dL_law_725 : decode cL_law 725 = .ok (.iconst 2, 1) := of_0 ok_iconst_2 (od_ch (j := 21) lch_11 (by decide +kernel))
theorem dL_law_726 : decode cL_law 726 = .ok (.iadd, 1) := of_0 ok_iadd (od_ch (j := 22) lch_11 (by decide +kernel))
theorem dL_law_727 : decode cL_law 727 = .ok (.iaload, 1) := of_0 ok_iaload (od_ch (j := 23) lch_11 (by decide +kernel))
theorem dL_law_728 : decode cL_law 728 = .ok (.invokevirtual 102, 3) := of_u2 ok_invokevirtual 0 102 (od_ca (j := 24) lch_11 (by decide +kernel))
theorem dL_law_731 : decode cL_law 731 = .ok (.pop, 1) := of_0 ok_pop (od_ch (j := 27) lch_11 (by decide +kernel))
theorem dL_law_732 : decode cL_law 732 = .ok (.aload_n 2, 1) := of_0 ok_aload_n_2 (od_ch (j := 28) lch_11 (by decide +kernel))
theorem dL_law_733 : decode cL_law 733 = .ok (.aload_n 0, 1) := of_0 ok_aload_n_0 (od_ch (j := 29) lch_11 (by decide +kernel))
theorem dL_law_734 : decode cL_law 734 = .ok (.iload_n 3, 1) := of_0 ok_iload_n_3 (od_ch (j := 30) lch_11 (by decide +kernel))
theorem dL_law_735 : decode cL_law 735 = .ok (.iconst 1, 1) := of_0 ok_iconst_1 (od_ch (j := 31) lch_11 (by decide +kernel))
theorem dL_law_736 : decode cL_law 736 = .ok (.iadd, 1) := of_0 ok_iadd (od_ch (j := 32) lch_11 (by decide +kernel))
theorem dL_law_737 : decode cL_law 737 = .ok (.iaload, 1) := of_0 ok_iaload (od_ch (j := 33) lch_11 (by decide +kernel))
theorem dL_law_738 : decode cL_law 738 = .ok (.aload_n 0, 1) := of_0 ok_aload_n_0 (od_ch (j := 34) lch_11 (by decide +kernel))
theorem dL_law_739 : decode cL_law 739 = .ok (.iload_n 3, 1) := of_0 ok_iload_n_3 (od_ch (j := 35) lch_11 (by decide +kernel))
theorem dL_law_740 : decode cL_law 740 = .ok (.iconst 2, 1) := of_0 ok_iconst_2 (od_ch (j := 36) lch_11 (by decide +kernel))
theorem dL_law_741 : decode cL_law 741 = .ok (.iadd, 1) := of_0 ok_iadd (od_ch (j := 37) lch_11 (by decide +kernel))
theorem dL_law_742 : decode cL_law 742 = .ok (.iaload, 1) := of_0 ok_iaload (od_ch (j := 38) lch_11 (by decide +kernel))
theorem dL_law_743 : decode cL_law 743 = .ok (.invokevirtual 105, 3) := of_u2 ok_invokevirtual 0 105 (od_ca (j := 39) lch_11 (by decide +kernel))
theorem dL_law_746 : decode cL_law 746 = .ok (.pop, 1) := of_0 ok_pop (od_ch (j := 42) lch_11 (by decide +kernel))
theorem dL_law_747 : decode cL_law 747 = .ok (.goto 379, 3) := of_s2 ok_goto 1 123 (od_ca (j := 43) lch_11 (by decide +kernel))
theorem dL_law_750 : decode cL_law 750 = .ok (.aload_n 1, 1) := of_0 ok_aload_n_1 (od_ch (j := 46) lch_11 (by decide +kernel))
theorem dL_law_751 : decode cL_law 751 = .ok (.aload_n 0, 1) := of_0 ok_aload_n_0 (od_ch (j := 47) lch_11 (by decide +kernel))
theorem dL_law_752 : decode cL_law 752 = .ok (.iload_n 3, 1) := of_0 ok_iload_n_3 (od_ch (j := 48) lch_11 (by decide +kernel))
theorem dL_law_753 : decode cL_law 753 = .ok (.iconst 1, 1) := of_0 ok_iconst_1 (od_ch (j := 49) lch_11 (by decide +kernel))
theorem dL_law_754 : decode cL_law 754 = .ok (.iadd, 1) := of_0 ok_iadd (od_ch (j := 50) lch_11 (by decide +kernel))
theorem dL_law_755 : decode cL_law 755 = .ok (.iaload, 1) := of_0 ok_iaload (od_ch (j := 51) lch_11 (by decide +kernel))
theorem dL_law_756 : decode cL_law 756 = .ok (.invokevirtual 106, 3) := of_u2 ok_invokevirtual 0 106 (od_ca (j := 52) lch_11 (by decide +kernel))
theorem dL_law_759 : decode cL_law 759 = .ok (.pop, 1) := of_0 ok_pop (od_ch (j := 55) lch_11 (by decide +kernel))
theorem dL_law_760 : decode cL_law 760 = .ok (.aload_n 2, 1) := of_0 ok_aload_n_2 (od_ch (j := 56) lch_11 (by decide +kernel))
theorem dL_law_761 : decode cL_law 761 = .ok (.aload_n 0, 1) := of_0 ok_aload_n_0 (od_ch (j := 57) lch_11 (by decide +kernel))
theorem dL_law_762 : decode cL_law 762 = .ok (.iload_n 3, 1) := of_0 ok_iload_n_3 (od_ch (j := 58) lch_11 (by decide +kernel))
theorem dL_law_763 : decode cL_law 763 = .ok (.iconst 1, 1) := of_0 ok_iconst_1 (od_ch (j := 59) lch_11 (by decide +kernel))
theorem dL_law_764 : decode cL_law 764 = .ok (.iadd, 1) := of_0 ok_iadd (od_ch (j := 60) lch_11 (by decide +kernel))
theorem dL_law_765 : decode cL_law 765 = .ok (.iaload, 1) := of_0 ok_iaload (od_ch (j := 61) lch_11 (by decide +kernel))
theorem dL_law_766 : decode cL_law 766 = .ok (.invokevirtual 109, 3) := of_u2 ok_invokevirtual 0 109 (od_ca (j := 62) lch_11 (by decide +kernel))
theorem dL_law_769 : decode cL_law 769 = .ok (.pop, 1) := of_0 ok_pop (od_ch (j := 1) lch_12 (by decide +kernel))
theorem dL_law_770 : decode cL_law 770 = .ok (.goto 356, 3) := of_s2 ok_goto 1 100 (od_ca (j := 2) lch_12 (by decide +kernel))
theorem dL_law_773 : decode cL_law 773 = .ok (.aload_n 1, 1) := of_0 ok_aload_n_1 (od_ch (j := 5) lch_12 (by decide +kernel))
theorem dL_law_774 : decode cL_law 774 = .ok (.aload_n 0, 1) := of_0 ok_aload_n_0 (od_ch (j := 6) lch_12 (by decide +kernel))
theorem dL_law_775 : decode cL_law 775 = .ok (.iload_n 3, 1) := of_0 ok_iload_n_3 (od_ch (j := 7) lch_12 (by decide +kernel))
theorem dL_law_776 : decode cL_law 776 = .ok (.iconst 1, 1) := of_0 ok_iconst_1 (od_ch (j := 8) lch_12 (by decide +kernel))
theorem dL_law_777 : decode cL_law 777 = .ok (.iadd, 1) := of_0 ok_iadd (od_ch (j := 9) lch_12 (by decide +kernel))
theorem dL_law_778 : decode cL_law 778 = .ok (.iaload, 1) := of_0 ok_iaload (od_ch (j := 10) lch_12 (by decide +kernel))
theorem dL_law_779 : decode cL_law 779 = .ok (.aload_n 0, 1) := of_0 ok_aload_n_0 (od_ch (j := 11) lch_12 (by decide +kernel))
theorem dL_law_780 : decode cL_law 780 = .ok (.iload_n 3, 1) := of_0 ok_iload_n_3 (od_ch (j := 12) lch_12 (by decide +kernel))
theorem dL_law_781 : decode cL_law 781 = .ok (.iconst 2, 1) := of_0 ok_iconst_2 (od_ch (j := 13) lch_12 (by decide +kernel))
theorem dL_law_782 : decode cL_law 782 = .ok (.iadd, 1) := of_0 ok_iadd (od_ch (j := 14) lch_12 (by decide +kernel))
theorem dL_law_783 : decode cL_law 783 = .ok (.iaload, 1) := of_0 ok_iaload (od_ch (j := 15) lch_12 (by decide +kernel))
theorem dL_law_784 : decode cL_law 784 = .ok (.aload_n 0, 1) := of_0 ok_aload_n_0 (od_ch (j := 16) lch_12 (by decide +kernel))
theorem dL_law_785 : decode cL_law 785 = .ok (.iload_n 3, 1) := of_0 ok_iload_n_3 (od_ch (j := 17) lch_12 (by decide +kernel))
theorem dL_law_786 : decode cL_law 786 = .ok (.iconst 3, 1) := of_0 ok_iconst_3 (od_ch (j := 18) lch_12 (by decide +kernel))
theorem dL_law_787 : decode cL_law 787 = .ok (.iadd, 1) := of_0 ok_iadd (od_ch (j := 19) lch_12 (by decide +kernel))
theorem dL_law_788 : decode cL_law 788 = .ok (.iaload, 1) := of_0 ok_iaload (od_ch (j := 20) lch_12 (by decide +kernel))
theorem dL_law_789 : decode cL_law 789 = .ok (.aload_n 0, 1) := of_0 ok_aload_n_0 (od_ch (j := 21) lch_12 (by decide +kernel))
theorem dL_law_790 : decode cL_law 790 = .ok (.iload_n 3, 1) := of_0 ok_iload_n_3 (od_ch (j := 22) lch_12 (by decide +kernel))
theorem dL_law_791 : decode cL_law 791 = .ok (.iconst 4, 1) := of_0 ok_iconst_4 (od_ch (j := 23) lch_12 (by decide +kernel))
theorem dL_law_792 : decode cL_law 792 = .ok (.iadd, 1) := of_0 ok_iadd (od_ch (j := 24) lch_12 (by decide +kernel))
theorem dL_law_793 : decode cL_law 793 = .ok (.iaload, 1) := of_0 ok_iaload (od_ch (j := 25) lch_12 (by decide +kernel))
theorem dL_law_794 : decode cL_law 794 = .ok (.invokevirtual 110, 3) := of_u2 ok_invokevirtual 0 110 (od_ca (j := 26) lch_12 (by decide +kernel))
theorem dL_law_797 : decode cL_law 797 = .ok (.pop, 1) := of_0 ok_pop (od_ch (j := 29) lch_12 (by decide +kernel))
theorem dL_law_798 : decode cL_law 798 = .ok (.aload_n 2, 1) := of_0 ok_aload_n_2 (od_ch (j := 30) lch_12 (by decide +kernel))
theorem dL_law_799 : decode cL_law 799 = .ok (.aload_n 0, 1) := of_0 ok_aload_n_0 (od_ch (j := 31) lch_12 (by decide +kernel))
theorem dL_law_800 : decode cL_law 800 = .ok (.iload_n 3, 1) := of_0 ok_iload_n_3 (od_ch (j := 32) lch_12 (by decide +kernel))
theorem dL_law_801 : decode cL_law 801 = .ok (.iconst 1, 1) := of_0 ok_iconst_1 (od_ch (j := 33) lch_12 (by decide +kernel))
theorem dL_law_802 : decode cL_law 802 = .ok (.iadd, 1) := of_0 ok_iadd (od_ch (j := 34) lch_12 (by decide +kernel))
theorem dL_law_803 : decode cL_law 803 = .ok (.iaload, 1) := of_0 ok_iaload (od_ch (j := 35) lch_12 (by decide +kernel))
theorem dL_law_804 : decode cL_law 804 = .ok (.aload_n 0, 1) := of_0 ok_aload_n_0 (od_ch (j := 36) lch_12 (by decide +kernel))
theorem dL_law_805 : decode cL_law 805 = .ok (.iload_n 3, 1) := of_0 ok_iload_n_3 (od_ch (j := 37) lch_12 (by decide +kernel))
theorem dL_law_806 : decode cL_law 806 = .ok (.iconst 2, 1) := of_0 ok_iconst_2 (od_ch (j := 38) lch_12 (by decide +kernel))
theorem dL_law_807 : decode cL_law 807 = .ok (.iadd, 1) := of_0 ok_iadd (od_ch (j := 39) lch_12 (by decide +kernel))
theorem dL_law_808 : decode cL_law 808 = .ok (.iaload, 1) := of_0 ok_iaload (od_ch (j := 40) lch_12 (by decide +kernel))
theorem dL_law_809 : decode cL_law 809 = .ok (.aload_n 0, 1) := of_0 ok_aload_n_0 (od_ch (j := 41) lch_12 (by decide +kernel))
theorem dL_law_810 : decode cL_law 810 = .ok (.iload_n 3, 1) := of_0 ok_iload_n_3 (od_ch (j := 42) lch_12 (by decide +kernel))
theorem dL_law_811 : decode cL_law 811 = .ok (.iconst 3, 1) := of_0 ok_iconst_3 (od_ch (j := 43) lch_12 (by decide +kernel))
theorem dL_law_812 : decode cL_law 812 = .ok (.iadd, 1) := of_0 ok_iadd (od_ch (j := 44) lch_12 (by decide +kernel))
theorem dL_law_813 : decode cL_law 813 = .ok (.iaload, 1) := of_0 ok_iaload (od_ch (j := 45) lch_12 (by decide +kernel))
theorem dL_law_814 : decode cL_law 814 = .ok (.aload_n 0, 1) := of_0 ok_aload_n_0 (od_ch (j := 46) lch_12 (by decide +kernel))
theorem dL_law_815 : decode cL_law 815 = .ok (.iload_n 3, 1) := of_0 ok_iload_n_3 (od_ch (j := 47) lch_12 (by decide +kernel))
theorem dL_law_816 : decode cL_law 816 = .ok (.iconst 4, 1) := of_0 ok_iconst_4 (od_ch (j := 48) lch_12 (by decide +kernel))
theorem dL_law_817 : decode cL_law 817 = .ok (.iadd, 1) := of_0 ok_iadd (od_ch (j := 49) lch_12 (by decide +kernel))
theorem dL_law_818 : decode cL_law 818 = .ok (.iaload, 1) := of_0 ok_iaload (od_ch (j := 50) lch_12 (by decide +kernel))
theorem dL_law_819 : decode cL_law 819 = .ok (.invokevirtual 114, 3) := of_u2 ok_invokevirtual 0 114 (od_ca (j := 51) lch_12 (by decide +kernel))
theorem dL_law_822 : decode cL_law 822 = .ok (.pop, 1) := of_0 ok_pop (od_ch (j := 54) lch_12 (by decide +kernel))
theorem dL_law_823 : decode cL_law 823 = .ok (.goto 303, 3) := of_s2 ok_goto 1 47 (od_ca (j := 55) lch_12 (by decide +kernel))
theorem dL_law_826 : decode cL_law 826 = .ok (.aload_n 1, 1) := of_0 ok_aload_n_1 (od_ch (j := 58) lch_12 (by decide +kernel))
theorem dL_law_827 : decode cL_law 827 = .ok (.aload_n 0, 1) := of_0 ok_aload_n_0 (od_ch (j := 59) lch_12 (by decide +kernel))
theorem dL_law_828 : decode cL_law 828 = .ok (.iload_n 3, 1) := of_0 ok_iload_n_3 (od_ch (j := 60) lch_12 (by decide +kernel))
theorem dL_law_829 : decode cL_law 829 = .ok (.iconst 1, 1) := of_0 ok_iconst_1 (od_ch (j := 61) lch_12 (by decide +kernel))
theorem dL_law_830 : decode cL_law 830 = .ok (.iadd, 1) := of_0 ok_iadd (od_ch (j := 62) lch_12 (by decide +kernel))
theorem dL_law_831 : decode cL_law 831 = .ok (.iaload, 1) := of_0 ok_iaload (od_ch (j := 63) lch_12 (by decide +kernel))
theorem dL_law_832 : decode cL_law 832 = .ok (.invokevirtual 115, 3) := of_u2 ok_invokevirtual 0 115 (od_ca (j := 0) lch_13 (by decide +kernel))
theorem dL_law_835 : decode cL_law 835 = .ok (.pop, 1) := of_0 ok_pop (od_ch (j := 3) lch_13 (by decide +kernel))
theorem dL_law_836 : decode cL_law 836 = .ok (.aload_n 2, 1) := of_0 ok_aload_n_2 (od_ch (j := 4) lch_13 (by decide +kernel))
theorem dL_law_837 : decode cL_law 837 = .ok (.aload_n 0, 1) := of_0 ok_aload_n_0 (od_ch (j := 5) lch_13 (by decide +kernel))
theorem dL_law_838 : decode cL_law 838 = .ok (.iload_n 3, 1) := of_0 ok_iload_n_3 (od_ch (j := 6) lch_13 (by decide +kernel))
theorem dL_law_839 : decode cL_law 839 = .ok (.iconst 1, 1) := of_0 ok_iconst_1 (od_ch (j := 7) lch_13 (by decide +kernel))
theorem dL_law_840 : decode cL_law 840 = .ok (.iadd, 1) := of_0 ok_iadd (od_ch (j := 8) lch_13 (by decide +kernel))
theorem dL_law_841 : decode cL_law 841 = .ok (.iaload, 1) := of_0 ok_iaload (od_ch (j := 9) lch_13 (by decide +kernel))
theorem dL_law_842 : decode cL_law 842 = .ok (.invokevirtual 118, 3) := of_u2 ok_invokevirtual 0 118 (od_ca (j := 10) lch_13 (by decide +kernel))
theorem dL_law_845 : decode cL_law 845 = .ok (.pop, 1) := of_0 ok_pop (od_ch (j := 13) lch_13 (by decide +kernel))
theorem dL_law_846 : decode cL_law 846 = .ok (.goto 280, 3) := of_s2 ok_goto 1 24 (od_ca (j := 14) lch_13 (by decide +kernel))
theorem dL_law_849 : decode cL_law 849 = .ok (.aload_n 1, 1) := of_0 ok_aload_n_1 (od_ch (j := 17) lch_13 (by decide +kernel))
theorem dL_law_850 : decode cL_law 850 = .ok (.aload_n 0, 1) := of_0 ok_aload_n_0 (od_ch (j := 18) lch_13 (by decide +kernel))
theorem dL_law_851 : decode cL_law 851 = .ok (.iload_n 3, 1) := of_0 ok_iload_n_3 (od_ch (j := 19) lch_13 (by decide +kernel))
theorem dL_law_852 : decode cL_law 852 = .ok (.iconst 1, 1) := of_0 ok_iconst_1 (od_ch (j := 20) lch_13 (by decide +kernel))
theorem dL_law_853 : decode cL_law 853 = .ok (.iadd, 1) := of_0 ok_iadd (od_ch (j := 21) lch_13 (by decide +kernel))
theorem dL_law_854 : decode cL_law 854 = .ok (.iaload, 1) := of_0 ok_iaload (od_ch (j := 22) lch_13 (by decide +kernel))
theorem dL_law_855 : decode cL_law 855 = .ok (.aload_n 0, 1) := of_0 ok_aload_n_0 (od_ch (j := 23) lch_13 (by decide +kernel))
theorem dL_law_856 : decode cL_law 856 = .ok (.iload_n 3, 1) := of_0 ok_iload_n_3 (od_ch (j := 24) lch_13 (by decide +kernel))
theorem dL_law_857 : decode cL_law 857 = .ok (.iconst 2, 1) := of_0 ok_iconst_2 (od_ch (j := 25) lch_13 (by decide +kernel))
theorem dL_law_858 : decode cL_law 858 = .ok (.iadd, 1) := of_0 ok_iadd (od_ch (j := 26) lch_13 (by decide +kernel))
theorem dL_law_859 : decode cL_law 859 = .ok (.iaload, 1) := of_0 ok_iaload (od_ch (j := 27) lch_13 (by decide +kernel))
theorem dL_law_860 : decode cL_law 860 = .ok (.invokevirtual 119, 3) := of_u2 ok_invokevirtual 0 119 (od_ca (j := 28) lch_13 (by decide +kernel))
theorem dL_law_863 : decode cL_law 863 = .ok (.pop, 1) := of_0 ok_pop (od_ch (j := 31) lch_13 (by decide +kernel))
theorem dL_law_864 : decode cL_law 864 = .ok (.aload_n 2, 1) := of_0 ok_aload_n_2 (od_ch (j := 32) lch_13 (by decide +kernel))
theorem dL_law_865 : decode cL_law 865 = .ok (.aload_n 0, 1) := of_0 ok_aload_n_0 (od_ch (j := 33) lch_13 (by decide +kernel))
theorem dL_law_866 : decode cL_law 866 = .ok (.iload_n 3, 1) := of_0 ok_iload_n_3 (od_ch (j := 34) lch_13 (by decide +kernel))
theorem dL_law_867 : decode cL_law 867 = .ok (.iconst 1, 1) := of_0 ok_iconst_1 (od_ch (j := 35) lch_13 (by decide +kernel))
theorem dL_law_868 : decode cL_law 868 = .ok (.iadd, 1) := of_0 ok_iadd (od_ch (j := 36) lch_13 (by decide +kernel))
theorem dL_law_869 : decode cL_law 869 = .ok (.iaload, 1) := of_0 ok_iaload (od_ch (j := 37) lch_13 (by decide +kernel))
theorem dL_law_870 : decode cL_law 870 = .ok (.aload_n 0, 1) := of_0 ok_aload_n_0 (od_ch (j := 38) lch_13 (by decide +kernel))
theorem dL_law_871 : decode cL_law 871 = .ok (.iload_n 3, 1) := of_0 ok_iload_n_3 (od_ch (j := 39) lch_13 (by decide +kernel))
theorem dL_law_872 : decode cL_law 872 = .ok (.iconst 2, 1) := of_0 ok_iconst_2 (od_ch (j := 40) lch_13 (by decide +kernel))
theorem dL_law_873 : decode cL_law 873 = .ok (.iadd, 1) := of_0 ok_iadd (od_ch (j := 41) lch_13 (by decide +kernel))
theorem dL_law_874 : decode cL_law 874 = .ok (.iaload, 1) := of_0 ok_iaload (od_ch (j := 42) lch_13 (by decide +kernel))
theorem dL_law_875 : decode cL_law 875 = .ok (.invokevirtual 122, 3) := of_u2 ok_invokevirtual 0 122 (od_ca (j := 43) lch_13 (by decide +kernel))
theorem dL_law_878 : decode cL_law 878 = .ok (.pop, 1) := of_0 ok_pop (od_ch (j := 46) lch_13 (by decide +kernel))
theorem dL_law_879 : decode cL_law 879 = .ok (.goto 247, 3) := of_s2 ok_goto 0 247 (od_ca (j := 47) lch_13 (by decide +kernel))
theorem dL_law_882 : decode cL_law 882 = .ok (.aload_n 1, 1) := of_0 ok_aload_n_1 (od_ch (j := 50) lch_13 (by decide +kernel))
theorem dL_law_883 : decode cL_law 883 = .ok (.aload_n 0, 1) := of_0 ok_aload_n_0 (od_ch (j := 51) lch_13 (by decide +kernel))
theorem dL_law_884 : decode cL_law 884 = .ok (.iload_n 3, 1) := of_0 ok_iload_n_3 (od_ch (j := 52) lch_13 (by decide +kernel))
theorem dL_law_885 : decode cL_law 885 = .ok (.iconst 1, 1) := of_0 ok_iconst_1 (od_ch (j := 53) lch_13 (by decide +kernel))
theorem dL_law_886 : decode cL_law 886 = .ok (.iadd, 1) := of_0 ok_iadd (od_ch (j := 54) lch_13 (by decide +kernel))
theorem dL_law_887 : decode cL_law 887 = .ok (.iaload, 1) := of_0 ok_iaload (od_ch (j := 55) lch_13 (by decide +kernel))
theorem dL_law_888 : decode cL_law 888 = .ok (.aload_n 0, 1) := of_0 ok_aload_n_0 (od_ch (j := 56) lch_13 (by decide +kernel))
theorem dL_law_889 : decode cL_law 889 = .ok (.iload_n 3, 1) := of_0 ok_iload_n_3 (od_ch (j := 57) lch_13 (by decide +kernel))
theorem dL_law_890 : decode cL_law 890 = .ok (.iconst 2, 1) := of_0 ok_iconst_2 (od_ch (j := 58) lch_13 (by decide +kernel))
theorem dL_law_891 : decode cL_law 891 = .ok (.iadd, 1) := of_0 ok_iadd (od_ch (j := 59) lch_13 (by decide +kernel))
theorem dL_law_892 : decode cL_law 892 = .ok (.iaload, 1) := of_0 ok_iaload (od_ch (j := 60) lch_13 (by decide +kernel))
theorem dL_law_893 : decode cL_law 893 = .ok (.aload_n 0, 1) := of_0 ok_aload_n_0 (od_ch (j := 61) lch_13 (by decide +kernel))
theorem dL_law_894 : decode cL_law 894 = .ok (.iload_n 3, 1) := of_0 ok_iload_n_3 (od_ch (j := 62) lch_13 (by decide +kernel))
theorem dL_law_895 : decode cL_law 895 = .ok (.iconst 3, 1) := of_0 ok_iconst_3 (od_ch (j := 63) lch_13 (by decide +kernel))
theorem dL_law_896 : decode cL_law 896 = .ok (.iadd, 1) := of_0 ok_iadd (od_ch (j := 0) lch_14 (by decide +kernel))
theorem dL_law_897 : decode cL_law 897 = .ok (.iaload, 1) := of_0 ok_iaload (od_ch (j := 1) lch_14 (by decide +kernel))
theorem dL_law_898 : decode cL_law 898 = .ok (.invokevirtual 123, 3) := of_u2 ok_invokevirtual 0 123 (od_ca (j := 2) lch_14 (by decide +kernel))
theorem dL_law_901 : decode cL_law 901 = .ok (.pop, 1) := of_0 ok_pop (od_ch (j := 5) lch_14 (by decide +kernel))
theorem dL_law_902 : decode cL_law 902 = .ok (.aload_n 2, 1) := of_0 ok_aload_n_2 (od_ch (j := 6) lch_14 (by decide +kernel))
theorem dL_law_903 : decode cL_law 903 = .ok (.aload_n 0, 1) := of_0 ok_aload_n_0 (od_ch (j := 7) lch_14 (by decide +kernel))
theorem dL_law_904 : decode cL_law 904 = .ok (.iload_n 3, 1) := of_0 ok_iload_n_3 (od_ch (j := 8) lch_14 (by decide +kernel))
theorem dL_law_905 : decode cL_law 905 = .ok (.iconst 1, 1) := of_0 ok_iconst_1 (od_ch (j := 9) lch_14 (by decide +kernel))
theorem dL_law_906 : decode cL_law 906 = .ok (.iadd, 1) := of_0 ok_iadd (od_ch (j := 10) lch_14 (by decide +kernel))
theorem dL_law_907 : decode cL_law 907 = .ok (.iaload, 1) := of_0 ok_iaload (od_ch (j := 11) lch_14 (by decide +kernel))
theorem dL_law_908 : decode cL_law 908 = .ok (.aload_n 0, 1) := of_0 ok_aload_n_0 (od_ch (j := 12) lch_14 (by decide +kernel))
theorem dL_law_909 : decode cL_law 909 = .ok (.iload_n 3, 1) := of_0 ok_iload_n_3 (od_ch (j := 13) lch_14 (by decide +kernel))
theorem dL_law_910 : decode cL_law 910 = .ok (.iconst 2, 1) := of_0 ok_iconst_2 (od_ch (j := 14) lch_14 (by decide +kernel))
theorem dL_law_911 : decode cL_law 911 = .ok (.iadd, 1) := of_0 ok_iadd (od_ch (j := 15) lch_14 (by decide +kernel))
theorem dL_law_912 : decode cL_law 912 = .ok (.iaload, 1) := of_0 ok_iaload (od_ch (j := 16) lch_14 (by decide +kernel))
theorem dL_law_913 : decode cL_law 913 = .ok (.aload_n 0, 1) := of_0 ok_aload_n_0 (od_ch (j := 17) lch_14 (by decide +kernel))
theorem dL_law_914 : decode cL_law 914 = .ok (.iload_n 3, 1) := of_0 ok_iload_n_3 (od_ch (j := 18) lch_14 (by decide +kernel))
theorem dL_law_915 : decode cL_law 915 = .ok (.iconst 3, 1) := of_0 ok_iconst_3 (od_ch (j := 19) lch_14 (by decide +kernel))
theorem dL_law_916 : decode cL_law 916 = .ok (.iadd, 1) := of_0 ok_iadd (od_ch (j := 20) lch_14 (by decide +kernel))
theorem dL_law_917 : decode cL_law 917 = .ok (.iaload, 1) := of_0 ok_iaload (od_ch (j := 21) lch_14 (by decide +kernel))
theorem dL_law_918 : decode cL_law 918 = .ok (.invokevirtual 126, 3) := of_u2 ok_invokevirtual 0 126 (od_ca (j := 22) lch_14 (by decide +kernel))
theorem dL_law_921 : decode cL_law 921 = .ok (.pop, 1) := of_0 ok_pop (od_ch (j := 25) lch_14 (by decide +kernel))
theorem dL_law_922 : decode cL_law 922 = .ok (.goto 204, 3) := of_s2 ok_goto 0 204 (od_ca (j := 26) lch_14 (by decide +kernel))
theorem dL_law_925 : decode cL_law 925 = .ok (.aload_n 1, 1) := of_0 ok_aload_n_1 (od_ch (j := 29) lch_14 (by decide +kernel))
theorem dL_law_926 : decode cL_law 926 = .ok (.aload_n 0, 1) := of_0 ok_aload_n_0 (od_ch (j := 30) lch_14 (by decide +kernel))
theorem dL_law_927 : decode cL_law 927 = .ok (.iload_n 3, 1) := of_0 ok_iload_n_3 (od_ch (j := 31) lch_14 (by decide +kernel))
theorem dL_law_928 : decode cL_law 928 = .ok (.iconst 1, 1) := of_0 ok_iconst_1 (od_ch (j := 32) lch_14 (by decide +kernel))
theorem dL_law_929 : decode cL_law 929 = .ok (.iadd, 1) := of_0 ok_iadd (od_ch (j := 33) lch_14 (by decide +kernel))
theorem dL_law_930 : decode cL_law 930 = .ok (.iaload, 1) := of_0 ok_iaload (od_ch (j := 34) lch_14 (by decide +kernel))
theorem dL_law_931 : decode cL_law 931 = .ok (.invokevirtual 127, 3) := of_u2 ok_invokevirtual 0 127 (od_ca (j := 35) lch_14 (by decide +kernel))
theorem dL_law_934 : decode cL_law 934 = .ok (.pop, 1) := of_0 ok_pop (od_ch (j := 38) lch_14 (by decide +kernel))
theorem dL_law_935 : decode cL_law 935 = .ok (.aload_n 2, 1) := of_0 ok_aload_n_2 (od_ch (j := 39) lch_14 (by decide +kernel))
theorem dL_law_936 : decode cL_law 936 = .ok (.aload_n 0, 1) := of_0 ok_aload_n_0 (od_ch (j := 40) lch_14 (by decide +kernel))
theorem dL_law_937 : decode cL_law 937 = .ok (.iload_n 3, 1) := of_0 ok_iload_n_3 (od_ch (j := 41) lch_14 (by decide +kernel))
theorem dL_law_938 : decode cL_law 938 = .ok (.iconst 1, 1) := of_0 ok_iconst_1 (od_ch (j := 42) lch_14 (by decide +kernel))
theorem dL_law_939 : decode cL_law 939 = .ok (.iadd, 1) := of_0 ok_iadd (od_ch (j := 43) lch_14 (by decide +kernel))
theorem dL_law_940 : decode cL_law 940 = .ok (.iaload, 1) := of_0 ok_iaload (od_ch (j := 44) lch_14 (by decide +kernel))
theorem dL_law_941 : decode cL_law 941 = .ok (.invokevirtual 130, 3) := of_u2 ok_invokevirtual 0 130 (od_ca (j := 45) lch_14 (by decide +kernel))
theorem dL_law_944 : decode cL_law 944 = .ok (.pop, 1) := of_0 ok_pop (od_ch (j := 48) lch_14 (by decide +kernel))
theorem dL_law_945 : decode cL_law 945 = .ok (.goto 181, 3) := of_s2 ok_goto 0 181 (od_ca (j := 49) lch_14 (by decide +kernel))
theorem dL_law_948 : decode cL_law 948 = .ok (.aload_n 1, 1) := of_0 ok_aload_n_1 (od_ch (j := 52) lch_14 (by decide +kernel))
theorem dL_law_949 : decode cL_law 949 = .ok (.aload_n 0, 1) := of_0 ok_aload_n_0 (od_ch (j := 53) lch_14 (by decide +kernel))
theorem dL_law_950 : decode cL_law 950 = .ok (.iload_n 3, 1) := of_0 ok_iload_n_3 (od_ch (j := 54) lch_14 (by decide +kernel))
theorem dL_law_951 : decode cL_law 951 = .ok (.iconst 1, 1) := of_0 ok_iconst_1 (od_ch (j := 55) lch_14 (by decide +kernel))
theorem dL_law_952 : decode cL_law 952 = .ok (.iadd, 1) := of_0 ok_iadd (od_ch (j := 56) lch_14 (by decide +kernel))
theorem dL_law_953 : decode cL_law 953 = .ok (.iaload, 1) := of_0 ok_iaload (od_ch (j := 57) lch_14 (by decide +kernel))
theorem dL_law_954 : decode cL_law 954 = .ok (.aload_n 0, 1) := of_0 ok_aload_n_0 (od_ch (j := 58) lch_14 (by decide +kernel))
theorem dL_law_955 : decode cL_law 955 = .ok (.iload_n 3, 1) := of_0 ok_iload_n_3 (od_ch (j := 59) lch_14 (by decide +kernel))
theorem dL_law_956 : decode cL_law 956 = .ok (.iconst 2, 1) := of_0 ok_iconst_2 (od_ch (j := 60) lch_14 (by decide +kernel))
theorem dL_law_957 : decode cL_law 957 = .ok (.iadd, 1) := of_0 ok_iadd (od_ch (j := 61) lch_14 (by decide +kernel))
theorem dL_law_958 : decode cL_law 958 = .ok (.iaload, 1) := of_0 ok_iaload (od_ch (j := 62) lch_14 (by decide +kernel))
theorem dL_law_959 : decode cL_law 959 = .ok (.invokevirtual 131, 3) := of_u2 ok_invokevirtual 0 131 (od_ca (j := 63) lch_14 (by decide +kernel))
theorem dL_law_962 : decode cL_law 962 = .ok (.pop, 1) := of_0 ok_pop (od_ch (j := 2) lch_15 (by decide +kernel))
theorem dL_law_963 : decode cL_law 963 = .ok (.aload_n 2, 1) := of_0 ok_aload_n_2 (od_ch (j := 3) lch_15 (by decide +kernel))
theorem dL_law_964 : decode cL_law 964 = .ok (.aload_n 0, 1) := of_0 ok_aload_n_0 (od_ch (j := 4) lch_15 (by decide +kernel))
theorem dL_law_965 : decode cL_law 965 = .ok (.iload_n 3, 1) := of_0 ok_iload_n_3 (od_ch (j := 5) lch_15 (by decide +kernel))
theorem dL_law_966 : decode cL_law 966 = .ok (.iconst 1, 1) := of_0 ok_iconst_1 (od_ch (j := 6) lch_15 (by decide +kernel))
theorem dL_law_967 : decode cL_law 967 = .ok (.iadd, 1) := of_0 ok_iadd (od_ch (j := 7) lch_15 (by decide +kernel))
theorem dL_law_968 : decode cL_law 968 = .ok (.iaload, 1) := of_0 ok_iaload (od_ch (j := 8) lch_15 (by decide +kernel))
theorem dL_law_969 : decode cL_law 969 = .ok (.aload_n 0, 1) := of_0 ok_aload_n_0 (od_ch (j := 9) lch_15 (by decide +kernel))
theorem dL_law_970 : decode cL_law 970 = .ok (.iload_n 3, 1) := of_0 ok_iload_n_3 (od_ch (j := 10) lch_15 (by decide +kernel))
theorem dL_law_971 : decode cL_law 971 = .ok (.iconst 2, 1) := of_0 ok_iconst_2 (od_ch (j := 11) lch_15 (by decide +kernel))
theorem dL_law_972 : decode cL_law 972 = .ok (.iadd, 1) := of_0 ok_iadd (od_ch (j := 12) lch_15 (by decide +kernel))
theorem dL_law_973 : decode cL_law 973 = .ok (.iaload, 1) := of_0 ok_iaload (od_ch (j := 13) lch_15 (by decide +kernel))
theorem dL_law_974 : decode cL_law 974 = .ok (.invokevirtual 134, 3) := of_u2 ok_invokevirtual 0 134 (od_ca (j := 14) lch_15 (by decide +kernel))
theorem dL_law_977 : decode cL_law 977 = .ok (.pop, 1) := of_0 ok_pop (od_ch (j := 17) lch_15 (by decide +kernel))
theorem dL_law_978 : decode cL_law 978 = .ok (.goto 148, 3) := of_s2 ok_goto 0 148 (od_ca (j := 18) lch_15 (by decide +kernel))
theorem dL_law_981 : decode cL_law 981 = .ok (.aload_n 1, 1) := of_0 ok_aload_n_1 (od_ch (j := 21) lch_15 (by decide +kernel))
theorem dL_law_982 : decode cL_law 982 = .ok (.aload_n 0, 1) := of_0 ok_aload_n_0 (od_ch (j := 22) lch_15 (by decide +kernel))
theorem dL_law_983 : decode cL_law 983 = .ok (.iload_n 3, 1) := of_0 ok_iload_n_3 (od_ch (j := 23) lch_15 (by decide +kernel))
theorem dL_law_984 : decode cL_law 984 = .ok (.iconst 1, 1) := of_0 ok_iconst_1 (od_ch (j := 24) lch_15 (by decide +kernel))
theorem dL_law_985 : decode cL_law 985 = .ok (.iadd, 1) := of_0 ok_iadd (od_ch (j := 25) lch_15 (by decide +kernel))
theorem dL_law_986 : decode cL_law 986 = .ok (.iaload, 1) := of_0 ok_iaload (od_ch (j := 26) lch_15 (by decide +kernel))
theorem dL_law_987 : decode cL_law 987 = .ok (.invokevirtual 135, 3) := of_u2 ok_invokevirtual 0 135 (od_ca (j := 27) lch_15 (by decide +kernel))
theorem dL_law_990 : decode cL_law 990 = .ok (.aload_n 2, 1) := of_0 ok_aload_n_2 (od_ch (j := 30) lch_15 (by decide +kernel))
theorem dL_law_991 : decode cL_law 991 = .ok (.aload_n 0, 1) := of_0 ok_aload_n_0 (od_ch (j := 31) lch_15 (by decide +kernel))
theorem dL_law_992 : decode cL_law 992 = .ok (.iload_n 3, 1) := of_0 ok_iload_n_3 (od_ch (j := 32) lch_15 (by decide +kernel))
theorem dL_law_993 : decode cL_law 993 = .ok (.iconst 1, 1) := of_0 ok_iconst_1 (od_ch (j := 33) lch_15 (by decide +kernel))
theorem dL_law_994 : decode cL_law 994 = .ok (.iadd, 1) := of_0 ok_iadd (od_ch (j := 34) lch_15 (by decide +kernel))
theorem dL_law_995 : decode cL_law 995 = .ok (.iaload, 1) := of_0 ok_iaload (od_ch (j := 35) lch_15 (by decide +kernel))
theorem dL_law_996 : decode cL_law 996 = .ok (.invokevirtual 138, 3) := of_u2 ok_invokevirtual 0 138 (od_ca (j := 36) lch_15 (by decide +kernel))
theorem dL_law_999 : decode cL_law 999 = .ok (.if_icmp .eq 127, 3) := of_s2 ok_if_icmp_eq 0 127 (od_ca (j := 39) lch_15 (by decide +kernel))
theorem dL_law_1004 : decode cL_law 1004 = .ok (.aload_n 1, 1) := of_0 ok_aload_n_1 (od_ch (j := 44) lch_15 (by decide +kernel))
theorem dL_law_1005 : decode cL_law 1005 = .ok (.aload_n 0, 1) := of_0 ok_aload_n_0 (od_ch (j := 45) lch_15 (by decide +kernel))
theorem dL_law_1006 : decode cL_law 1006 = .ok (.iload_n 3, 1) := of_0 ok_iload_n_3 (od_ch (j := 46) lch_15 (by decide +kernel))
theorem dL_law_1007 : decode cL_law 1007 = .ok (.iconst 1, 1) := of_0 ok_iconst_1 (od_ch (j := 47) lch_15 (by decide +kernel))
theorem dL_law_1008 : decode cL_law 1008 = .ok (.iadd, 1) := of_0 ok_iadd (od_ch (j := 48) lch_15 (by decide +kernel))
theorem dL_law_1009 : decode cL_law 1009 = .ok (.iaload, 1) := of_0 ok_iaload (od_ch (j := 49) lch_15 (by decide +kernel))
theorem dL_law_1010 : decode cL_law 1010 = .ok (.aload_n 0, 1) := of_0 ok_aload_n_0 (od_ch (j := 50) lch_15 (by decide +kernel))
theorem dL_law_1011 : decode cL_law 1011 = .ok (.iload_n 3, 1) := of_0 ok_iload_n_3 (od_ch (j := 51) lch_15 (by decide +kernel))
theorem dL_law_1012 : decode cL_law 1012 = .ok (.iconst 2, 1) := of_0 ok_iconst_2 (od_ch (j := 52) lch_15 (by decide +kernel))
theorem dL_law_1013 : decode cL_law 1013 = .ok (.iadd, 1) := of_0 ok_iadd (od_ch (j := 53) lch_15 (by decide +kernel))
theorem dL_law_1014 : decode cL_law 1014 = .ok (.iaload, 1) := of_0 ok_iaload (od_ch (j := 54) lch_15 (by decide +kernel))
theorem dL_law_1015 : decode cL_law 1015 = .ok (.aload_n 0, 1) := of_0 ok_aload_n_0 (od_ch (j := 55) lch_15 (by decide +kernel))
theorem dL_law_1016 : decode cL_law 1016 = .ok (.iload_n 3, 1) := of_0 ok_iload_n_3 (od_ch (j := 56) lch_15 (by decide +kernel))
theorem dL_law_1017 : decode cL_law 1017 = .ok (.iconst 3, 1) := of_0 ok_iconst_3 (od_ch (j := 57) lch_15 (by decide +kernel))
theorem dL_law_1018 : decode cL_law 1018 = .ok (.iadd, 1) := of_0 ok_iadd (od_ch (j := 58) lch_15 (by decide +kernel))
theorem dL_law_1019 : decode cL_law 1019 = .ok (.iaload, 1) := of_0 ok_iaload (od_ch (j := 59) lch_15 (by decide +kernel))
theorem dL_law_1020 : decode cL_law 1020 = .ok (.aload_n 0, 1) := of_0 ok_aload_n_0 (od_ch (j := 60) lch_15 (by decide +kernel))
theorem dL_law_1021 : decode cL_law 1021 = .ok (.iload_n 3, 1) := of_0 ok_iload_n_3 (od_ch (j := 61) lch_15 (by decide +kernel))
theorem dL_law_1022 : decode cL_law 1022 = .ok (.iconst 4, 1) := of_0 ok_iconst_4 (od_ch (j := 62) lch_15 (by decide +kernel))
theorem dL_law_1023 : decode cL_law 1023 = .ok (.iadd, 1) := of_0 ok_iadd (od_ch (j := 63) lch_15 (by decide +kernel))
theorem dL_law_1024 : decode cL_law 1024 = .ok (.iaload, 1) := of_0 ok_iaload (od_ch (j := 0) lch_16 (by decide +kernel))
theorem dL_law_1025 : decode cL_law 1025 = .ok (.invokevirtual 139, 3) := of_u2 ok_invokevirtual 0 139 (od_ca (j := 1) lch_16 (by decide +kernel))
theorem dL_law_1028 : decode cL_law 1028 = .ok (.pop, 1) := of_0 ok_pop (od_ch (j := 4) lch_16 (by decide +kernel))
theorem dL_law_1029 : decode cL_law 1029 = .ok (.aload_n 2, 1) := of_0 ok_aload_n_2 (od_ch (j := 5) lch_16 (by decide +kernel))
theorem dL_law_1030 : decode cL_law 1030 = .ok (.aload_n 0, 1) := of_0 ok_aload_n_0 (od_ch (j := 6) lch_16 (by decide +kernel))
theorem dL_law_1031 : decode cL_law 1031 = .ok (.iload_n 3, 1) := of_0 ok_iload_n_3 (od_ch (j := 7) lch_16 (by decide +kernel))
theorem dL_law_1032 : decode cL_law 1032 = .ok (.iconst 1, 1) := of_0 ok_iconst_1 (od_ch (j := 8) lch_16 (by decide +kernel))
theorem dL_law_1033 : decode cL_law 1033 = .ok (.iadd, 1) := of_0 ok_iadd (od_ch (j := 9) lch_16 (by decide +kernel))
theorem dL_law_1034 : decode cL_law 1034 = .ok (.iaload, 1) := of_0 ok_iaload (od_ch (j := 10) lch_16 (by decide +kernel))
theorem dL_law_1035 : decode cL_law 1035 = .ok (.aload_n 0, 1) := of_0 ok_aload_n_0 (od_ch (j := 11) lch_16 (by decide +kernel))
theorem dL_law_1036 : decode cL_law 1036 = .ok (.iload_n 3, 1) := of_0 ok_iload_n_3 (od_ch (j := 12) lch_16 (by decide +kernel))
theorem dL_law_1037 : decode cL_law 1037 = .ok (.iconst 2, 1) := of_0 ok_iconst_2 (od_ch (j := 13) lch_16 (by decide +kernel))
theorem dL_law_1038 : decode cL_law 1038 = .ok (.iadd, 1) := of_0 ok_iadd (od_ch (j := 14) lch_16 (by decide +kernel))
theorem dL_law_1039 : decode cL_law 1039 = .ok (.iaload, 1) := of_0 ok_iaload (od_ch (j := 15) lch_16 (by decide +kernel))
theorem dL_law_1040 : decode cL_law 1040 = .ok (.aload_n 0, 1) := of_0 ok_aload_n_0 (od_ch (j := 16) lch_16 (by decide +kernel))
theorem dL_law_1041 : decode cL_law 1041 = .ok (.iload_n 3, 1) := of_0 ok_iload_n_3 (od_ch (j := 17) lch_16 (by decide +kernel))
theorem dL_law_1042 : decode cL_law 1042 = .ok (.iconst 3, 1) := of_0 ok_iconst_3 (od_ch (j := 18) lch_16 (by decide +kernel))
theorem dL_law_1043 : decode cL_law 1043 = .ok (.iadd, 1) := of_0 ok_iadd (od_ch (j := 19) lch_16 (by decide +kernel))
theorem dL_law_1044 : decode cL_law 1044 = .ok (.iaload, 1) := of_0 ok_iaload (od_ch (j := 20) lch_16 (by decide +kernel))
theorem dL_law_1045 : decode cL_law 1045 = .ok (.aload_n 0, 1) := of_0 ok_aload_n_0 (od_ch (j := 21) lch_16 (by decide +kernel))
theorem dL_law_1046 : decode cL_law 1046 = .ok (.iload_n 3, 1) := of_0 ok_iload_n_3 (od_ch (j := 22) lch_16 (by decide +kernel))
theorem dL_law_1047 : decode cL_law 1047 = .ok (.iconst 4, 1) := of_0 ok_iconst_4 (od_ch (j := 23) lch_16 (by decide +kernel))
theorem dL_law_1048 : decode cL_law 1048 = .ok (.iadd, 1) := of_0 ok_iadd (od_ch (j := 24) lch_16 (by decide +kernel))
theorem dL_law_1049 : decode cL_law 1049 = .ok (.iaload, 1) := of_0 ok_iaload (od_ch (j := 25) lch_16 (by decide +kernel))
theorem dL_law_1050 : decode cL_law 1050 = .ok (.invokevirtual 142, 3) := of_u2 ok_invokevirtual 0 142 (od_ca (j := 26) lch_16 (by decide +kernel))
theorem dL_law_1053 : decode cL_law 1053 = .ok (.pop, 1) := of_0 ok_pop (od_ch (j := 29) lch_16 (by decide +kernel))
theorem dL_law_1054 : decode cL_law 1054 = .ok (.goto 72, 3) := of_s2 ok_goto 0 72 (od_ca (j := 30) lch_16 (by decide +kernel))
theorem dL_law_1057 : decode cL_law 1057 = .ok (.aload_n 1, 1) := of_0 ok_aload_n_1 (od_ch (j := 33) lch_16 (by decide +kernel))
theorem dL_law_1058 : decode cL_law 1058 = .ok (.aload_n 0, 1) := of_0 ok_aload_n_0 (od_ch (j := 34) lch_16 (by decide +kernel))
theorem dL_law_1059 : decode cL_law 1059 = .ok (.iload_n 3, 1) := of_0 ok_iload_n_3 (od_ch (j := 35) lch_16 (by decide +kernel))
theorem dL_law_1060 : decode cL_law 1060 = .ok (.iconst 1, 1) := of_0 ok_iconst_1 (od_ch (j := 36) lch_16 (by decide +kernel))
theorem dL_law_1061 : decode cL_law 1061 = .ok (.iadd, 1) := of_0 ok_iadd (od_ch (j := 37) lch_16 (by decide +kernel))
theorem dL_law_1062 : decode cL_law 1062 = .ok (.iaload, 1) := of_0 ok_iaload (od_ch (j := 38) lch_16 (by decide +kernel))
theorem dL_law_1063 : decode cL_law 1063 = .ok (.invokevirtual 143, 3) := of_u2 ok_invokevirtual 0 143 (od_ca (j := 39) lch_16 (by decide +kernel))
theorem dL_law_1066 : decode cL_law 1066 = .ok (.pop, 1) := of_0 ok_pop (od_ch (j := 42) lch_16 (by decide +kernel))
theorem dL_law_1067 : decode cL_law 1067 = .ok (.aload_n 2, 1) := of_0 ok_aload_n_2 (od_ch (j := 43) lch_16 (by decide +kernel))
theorem dL_law_1068 : decode cL_law 1068 = .ok (.aload_n 0, 1) := of_0 ok_aload_n_0 (od_ch (j := 44) lch_16 (by decide +kernel))
theorem dL_law_1069 : decode cL_law 1069 = .ok (.iload_n 3, 1) := of_0 ok_iload_n_3 (od_ch (j := 45) lch_16 (by decide +kernel))
theorem dL_law_1070 : decode cL_law 1070 = .ok (.iconst 1, 1) := of_0 ok_iconst_1 (od_ch (j := 46) lch_16 (by decide +kernel))
theorem dL_law_1071 : decode cL_law 1071 = .ok (.iadd, 1) := of_0 ok_iadd (od_ch (j := 47) lch_16 (by decide +kernel))
theorem dL_law_1072 : decode cL_law 1072 = .ok (.iaload, 1) := of_0 ok_iaload (od_ch (j := 48) lch_16 (by decide +kernel))
theorem dL_law_1073 : decode cL_law 1073 = .ok (.invokevirtual 146, 3) := of_u2 ok_invokevirtual 0 146 (od_ca (j := 49) lch_16 (by decide +kernel))
theorem dL_law_1076 : decode cL_law 1076 = .ok (.pop, 1) := of_0 ok_pop (od_ch (j := 52) lch_16 (by decide +kernel))
theorem dL_law_1077 : decode cL_law 1077 = .ok (.goto 49, 3) := of_s2 ok_goto 0 49 (od_ca (j := 53) lch_16 (by decide +kernel))
theorem dL_law_1080 : decode cL_law 1080 = .ok (.aload_n 1, 1) := of_0 ok_aload_n_1 (od_ch (j := 56) lch_16 (by decide +kernel))
theorem dL_law_1081 : decode cL_law 1081 = .ok (.aload_n 0, 1) := of_0 ok_aload_n_0 (od_ch (j := 57) lch_16 (by decide +kernel))
theorem dL_law_1082 : decode cL_law 1082 = .ok (.iload_n 3, 1) := of_0 ok_iload_n_3 (od_ch (j := 58) lch_16 (by decide +kernel))
theorem dL_law_1083 : decode cL_law 1083 = .ok (.iconst 1, 1) := of_0 ok_iconst_1 (od_ch (j := 59) lch_16 (by decide +kernel))
theorem dL_law_1084 : decode cL_law 1084 = .ok (.iadd, 1) := of_0 ok_iadd (od_ch (j := 60) lch_16 (by decide +kernel))
theorem dL_law_1085 : decode cL_law 1085 = .ok (.iaload, 1) := of_0 ok_iaload (od_ch (j := 61) lch_16 (by decide +kernel))
theorem dL_law_1086 : decode cL_law 1086 = .ok (.invokevirtual 147, 3) := of_u2 ok_invokevirtual 0 147 (od_ca (j := 62) lch_16 (by decide +kernel))
theorem dL_law_1089 : decode cL_law 1089 = .ok (.pop, 1) := of_0 ok_pop (od_ch (j := 1) lch_17 (by decide +kernel))
theorem dL_law_1090 : decode cL_law 1090 = .ok (.aload_n 2, 1) := of_0 ok_aload_n_2 (od_ch (j := 2) lch_17 (by decide +kernel))
theorem dL_law_1091 : decode cL_law 1091 = .ok (.aload_n 0, 1) := of_0 ok_aload_n_0 (od_ch (j := 3) lch_17 (by decide +kernel))
theorem dL_law_1092 : decode cL_law 1092 = .ok (.iload_n 3, 1) := of_0 ok_iload_n_3 (od_ch (j := 4) lch_17 (by decide +kernel))
theorem dL_law_1093 : decode cL_law 1093 = .ok (.iconst 1, 1) := of_0 ok_iconst_1 (od_ch (j := 5) lch_17 (by decide +kernel))
theorem dL_law_1094 : decode cL_law 1094 = .ok (.iadd, 1) := of_0 ok_iadd (od_ch (j := 6) lch_17 (by decide +kernel))
theorem dL_law_1095 : decode cL_law 1095 = .ok (.iaload, 1) := of_0 ok_iaload (od_ch (j := 7) lch_17 (by decide +kernel))
theorem dL_law_1096 : decode cL_law 1096 = .ok (.invokevirtual 150, 3) := of_u2 ok_invokevirtual 0 150 (od_ca (j := 8) lch_17 (by decide +kernel))
theorem dL_law_1099 : decode cL_law 1099 = .ok (.pop, 1) := of_0 ok_pop (od_ch (j := 11) lch_17 (by decide +kernel))
theorem dL_law_1100 : decode cL_law 1100 = .ok (.goto 26, 3) := of_s2 ok_goto 0 26 (od_ca (j := 12) lch_17 (by decide +kernel))
theorem dL_law_1103 : decode cL_law 1103 = .ok (.aload_n 1, 1) := of_0 ok_aload_n_1 (od_ch (j := 15) lch_17 (by decide +kernel))
theorem dL_law_1104 : decode cL_law 1104 = .ok (.aload_n 0, 1) := of_0 ok_aload_n_0 (od_ch (j := 16) lch_17 (by decide +kernel))
theorem dL_law_1105 : decode cL_law 1105 = .ok (.iload_n 3, 1) := of_0 ok_iload_n_3 (od_ch (j := 17) lch_17 (by decide +kernel))
theorem dL_law_1106 : decode cL_law 1106 = .ok (.iconst 1, 1) := of_0 ok_iconst_1 (od_ch (j := 18) lch_17 (by decide +kernel))
theorem dL_law_1107 : decode cL_law 1107 = .ok (.iadd, 1) := of_0 ok_iadd (od_ch (j := 19) lch_17 (by decide +kernel))
theorem dL_law_1108 : decode cL_law 1108 = .ok (.iaload, 1) := of_0 ok_iaload (od_ch (j := 20) lch_17 (by decide +kernel))
theorem dL_law_1109 : decode cL_law 1109 = .ok (.invokevirtual 151, 3) := of_u2 ok_invokevirtual 0 151 (od_ca (j := 21) lch_17 (by decide +kernel))
theorem dL_law_1112 : decode cL_law 1112 = .ok (.pop, 1) := of_0 ok_pop (od_ch (j := 24) lch_17 (by decide +kernel))
theorem dL_law_1113 : decode cL_law 1113 = .ok (.aload_n 2, 1) := of_0 ok_aload_n_2 (od_ch (j := 25) lch_17 (by decide +kernel))
theorem dL_law_1114 : decode cL_law 1114 = .ok (.aload_n 0, 1) := of_0 ok_aload_n_0 (od_ch (j := 26) lch_17 (by decide +kernel))
theorem dL_law_1115 : decode cL_law 1115 = .ok (.iload_n 3, 1) := of_0 ok_iload_n_3 (od_ch (j := 27) lch_17 (by decide +kernel))
theorem dL_law_1116 : decode cL_law 1116 = .ok (.iconst 1, 1) := of_0 ok_iconst_1 (od_ch (j := 28) lch_17 (by decide +kernel))
theorem dL_law_1117 : decode cL_law 1117 = .ok (.iadd, 1) := of_0 ok_iadd (od_ch (j := 29) lch_17 (by decide +kernel))
theorem dL_law_1118 : decode cL_law 1118 = .ok (.iaload, 1) := of_0 ok_iaload (od_ch (j := 30) lch_17 (by decide +kernel))
theorem dL_law_1119 : decode cL_law 1119 = .ok (.invokevirtual 154, 3) := of_u2 ok_invokevirtual 0 154 (od_ca (j := 31) lch_17 (by decide +kernel))
theorem dL_law_1122 : decode cL_law 1122 = .ok (.pop, 1) := of_0 ok_pop (od_ch (j := 34) lch_17 (by decide +kernel))
theorem dL_law_1123 : decode cL_law 1123 = .ok (.goto 3, 3) := of_s2 ok_goto 0 3 (od_ca (j := 35) lch_17 (by decide +kernel))
end
section
/-! the law's cases -/
set_option maxHeartbeats 4000000 in
set_option maxRecDepth 100000 in
theorem law_case_0 {p : Program} {e : Env} {s : State} {m : MethodId} {below : List Frame} {meth : Method} {c : Code} (l : Launch) {b L : Nat} {xs : Nat → Int32} (hL : L ≤ 3072) (C0 : lw_At p s m meth c b L xs) {D : va_G} {k : Nat → ClassId} (hG : GK D k s) {ad tv ad2 tv2 : Nat → Nat} (hE : EX ad tv (A0 s) s) (hE2 : EY ad2 tv2 (A0 s) s) {a ra ia v : Nat → Nat} {rr ii : Nat → Option Nat} (hq : RQ ra ia rr ii) {i : Int32} (hi0 : 0 ≤ i.toInt) (hi1 : i.toInt + 6 ≤ (L : Int)) {z : CSt} {y : OB} (hk : GLs z y) {H : Heap} {locs : List Loc} {ls : Array Slot} (hP : va_P D vwCl (CWs k a ra ia rr ii z ++ moW k v y) H) (hD : va_D (A0 s) (CWs k a ra ia rr ii z ++ moW k v y)) (hS : va_S (A0 s) s.heap H locs) (hl : lv_has ls 4 [(3, .int i), (2, .ref (v 0)), (1, .ref (a 0)), (0, .ref b)]) (KK : ∀ (z : CSt) (y : OB), GLs z y → ∀ (H : Heap) (locs : List Loc) (ls : Array Slot), va_P D vwCl (CWs k a ra ia rr ii z ++ moW k v y) H → va_D (A0 s) (CWs k a ra ia rr ii z ++ moW k v y) → va_S (A0 s) s.heap H locs → lv_has ls 4 [(3, .int i), (2, .ref (v 0)), (1, .ref (a 0)), (0, .ref b)] → W p l e room_1 s m #[Value.ref b] below meth c H locs 187 14115 (lw_Z below #[Value.ref b] s) (F0 m 1126 ls [])) : W p l e room_1 s m #[Value.ref b] below meth c H locs 187 14115 (lw_Z below #[Value.ref b] s) (F0 m 184 ls []) := by
  obtain ⟨hx, hb, hr, hml, hown, hts, hX, hbl, hlocks, hgv⟩ := id C0
  have hown : s.vm.findClass RL = some m.cls := hown
  have hA : ∀ q : Nat, s.heap.size ≤ q → A0 s q := fun _ h => h
  have hbA : ¬ A0 s b := Nat.not_le.mpr hbl
  refine lv_aload_n hx hb dL_law_184 rfl (lv_at hl 2 rfl) ?_
  refine lv_aload_n hx hb dL_law_185 rfl (lv_at hl 3 rfl) ?_
  refine lv_iload_n hx hb dL_law_186 rfl (lv_at hl 0 rfl) ?_
  refine lv_iconst (v := 1) hx hb dL_law_187 (by decide) ?_
  refine lv_iadd hx hb dL_law_188 ?_
  refine lv_topi (fun w1_1 ew1_1 => ?_)
  have tw1_1 : w1_1.toInt = i.toInt + 1 := ai_add rfl (by decide) ew1_1 (by omega) (by omega)
  refine va_sld hx hb hX hbl hbA hS (i := w1_1) (vp_in_iff.mpr ⟨by omega, by omega⟩) dL_law_189 ?_
  refine lv_topi (fun x1_1 ex1_1 => ?_)
  refine lv_aload_n hx hb dL_law_190 rfl (lv_at hl 3 rfl) ?_
  refine lv_iload_n hx hb dL_law_191 rfl (lv_at hl 0 rfl) ?_
  refine lv_iconst (v := 2) hx hb dL_law_192 (by decide) ?_
  refine lv_iadd hx hb dL_law_193 ?_
  refine lv_topi (fun w1_2 ew1_2 => ?_)
  have tw1_2 : w1_2.toInt = i.toInt + 2 := ai_add rfl (by decide) ew1_2 (by omega) (by omega)
  refine va_sld hx hb hX hbl hbA hS (i := w1_2) (vp_in_iff.mpr ⟨by omega, by omega⟩) dL_law_194 ?_
  refine lv_topi (fun x1_2 ex1_2 => ?_)
  refine lv_aload_n hx hb dL_law_195 rfl (lv_at hl 3 rfl) ?_
  refine lv_iload_n hx hb dL_law_196 rfl (lv_at hl 0 rfl) ?_
  refine lv_iconst (v := 3) hx hb dL_law_197 (by decide) ?_
  refine lv_iadd hx hb dL_law_198 ?_
  refine lv_topi (fun w1_3 ew1_3 => ?_)
  have tw1_3 : w1_3.toInt = i.toInt + 3 := ai_add rfl (by decide) ew1_3 (by omega) (by omega)
  refine va_sld hx hb hX hbl hbA hS (i := w1_3) (vp_in_iff.mpr ⟨by omega, by omega⟩) dL_law_199 ?_
  refine lv_topi (fun x1_3 ex1_3 => ?_)
  refine lv_aload_n hx hb dL_law_200 rfl (lv_at hl 3 rfl) ?_
  refine lv_iload_n hx hb dL_law_201 rfl (lv_at hl 0 rfl) ?_
  refine lv_iconst (v := 4) hx hb dL_law_202 (by decide) ?_
  refine lv_iadd hx hb dL_law_203 ?_
  refine lv_topi (fun w1_4 ew1_4 => ?_)
  have tw1_4 : w1_4.toInt = i.toInt + 4 := ai_add rfl (by decide) ew1_4 (by omega) (by omega)
  refine va_sld hx hb hX hbl hbA hS (i := w1_4) (vp_in_iff.mpr ⟨by omega, by omega⟩) dL_law_204 ?_
  refine lv_topi (fun x1_4 ex1_4 => ?_)
  refine lv_aload_n hx hb dL_law_205 rfl (lv_at hl 3 rfl) ?_
  refine lv_iload_n hx hb dL_law_206 rfl (lv_at hl 0 rfl) ?_
  refine lv_iconst (v := 5) hx hb dL_law_207 (by decide) ?_
  refine lv_iadd hx hb dL_law_208 ?_
  refine lv_topi (fun w1_5 ew1_5 => ?_)
  have tw1_5 : w1_5.toInt = i.toInt + 5 := ai_add rfl (by decide) ew1_5 (by omega) (by omega)
  refine va_sld hx hb hX hbl hbA hS (i := w1_5) (vp_in_iff.mpr ⟨by omega, by omega⟩) dL_law_209 ?_
  refine lv_topi (fun x1_5 ex1_5 => ?_)
  obtain ⟨r0, z2, y2, t8, t9, G2⟩ := t_feed l D k a ra ia v rr ii hq z y hk x1_1 x1_2 x1_3 x1_4 x1_5
  refine hc_Vi (As := [.int x1_1, .int x1_2, .int x1_3, .int x1_4, .int x1_5]) (rest := []) (n := 5) (wr := moW k v y) hx hb hml hown hts hG hA hP hD hS hl.1 (List.range 149) (List.range' 149 38) (t8 _) (ci := 6) (q0 := 0) rfl rfl gL_law_X8_feed rfl ⟨rfl, rfl, Nat.le_of_ble_eq_true rfl, Nat.le_of_ble_eq_true rfl⟩ (by decide +kernel) (rng_l _ _ _ (CWlen k a ra ia rr ii z)) (rng_r _ _ _ _ (CWlen k a ra ia rr ii z) (MWlen k v y)) nd1 ⟨rfl, rfl, Nat.le_of_ble_eq_true rfl, Nat.le_of_ble_eq_true rfl, Nat.le_of_ble_eq_true rfl⟩ dL_law_210 (fun r1 u1 H locs e1 hP hD hS => ?_)
  obtain ⟨hP, hD⟩ := cv (w' := moW k v y ++ CWs k a ra ia rr ii z2) hP hD rfl
  refine lv_pop hx hb dL_law_213 rfl ?_
  refine lv_aload_n hx hb dL_law_214 rfl (lv_at hl 1 rfl) ?_
  refine lv_aload_n hx hb dL_law_215 rfl (lv_at hl 3 rfl) ?_
  refine lv_iload_n hx hb dL_law_216 rfl (lv_at hl 0 rfl) ?_
  refine lv_iconst (v := 1) hx hb dL_law_217 (by decide) ?_
  refine lv_iadd hx hb dL_law_218 ?_
  refine lv_topi (fun w2_1 ew2_1 => ?_)
  have tw2_1 : w2_1.toInt = i.toInt + 1 := ai_add rfl (by decide) ew2_1 (by omega) (by omega)
  refine va_sld hx hb hX hbl hbA hS (i := w2_1) (vp_in_iff.mpr ⟨by omega, by omega⟩) dL_law_219 ?_
  refine lv_topi (fun x2_1 ex2_1 => ?_)
  refine lv_aload_n hx hb dL_law_220 rfl (lv_at hl 3 rfl) ?_
  refine lv_iload_n hx hb dL_law_221 rfl (lv_at hl 0 rfl) ?_
  refine lv_iconst (v := 2) hx hb dL_law_222 (by decide) ?_
  refine lv_iadd hx hb dL_law_223 ?_
  refine lv_topi (fun w2_2 ew2_2 => ?_)
  have tw2_2 : w2_2.toInt = i.toInt + 2 := ai_add rfl (by decide) ew2_2 (by omega) (by omega)
  refine va_sld hx hb hX hbl hbA hS (i := w2_2) (vp_in_iff.mpr ⟨by omega, by omega⟩) dL_law_224 ?_
  refine lv_topi (fun x2_2 ex2_2 => ?_)
  refine lv_aload_n hx hb dL_law_225 rfl (lv_at hl 3 rfl) ?_
  refine lv_iload_n hx hb dL_law_226 rfl (lv_at hl 0 rfl) ?_
  refine lv_iconst (v := 3) hx hb dL_law_227 (by decide) ?_
  refine lv_iadd hx hb dL_law_228 ?_
  refine lv_topi (fun w2_3 ew2_3 => ?_)
  have tw2_3 : w2_3.toInt = i.toInt + 3 := ai_add rfl (by decide) ew2_3 (by omega) (by omega)
  refine va_sld hx hb hX hbl hbA hS (i := w2_3) (vp_in_iff.mpr ⟨by omega, by omega⟩) dL_law_229 ?_
  refine lv_topi (fun x2_3 ex2_3 => ?_)
  refine lv_aload_n hx hb dL_law_230 rfl (lv_at hl 3 rfl) ?_
  refine lv_iload_n hx hb dL_law_231 rfl (lv_at hl 0 rfl) ?_
  refine lv_iconst (v := 4) hx hb dL_law_232 (by decide) ?_
  refine lv_iadd hx hb dL_law_233 ?_
  refine lv_topi (fun w2_4 ew2_4 => ?_)
  have tw2_4 : w2_4.toInt = i.toInt + 4 := ai_add rfl (by decide) ew2_4 (by omega) (by omega)
  refine va_sld hx hb hX hbl hbA hS (i := w2_4) (vp_in_iff.mpr ⟨by omega, by omega⟩) dL_law_234 ?_
  refine lv_topi (fun x2_4 ex2_4 => ?_)
  refine lv_aload_n hx hb dL_law_235 rfl (lv_at hl 3 rfl) ?_
  refine lv_iload_n hx hb dL_law_236 rfl (lv_at hl 0 rfl) ?_
  refine lv_iconst (v := 5) hx hb dL_law_237 (by decide) ?_
  refine lv_iadd hx hb dL_law_238 ?_
  refine lv_topi (fun w2_5 ew2_5 => ?_)
  have tw2_5 : w2_5.toInt = i.toInt + 5 := ai_add rfl (by decide) ew2_5 (by omega) (by omega)
  refine va_sld hx hb hX hbl hbA hS (i := w2_5) (vp_in_iff.mpr ⟨by omega, by omega⟩) dL_law_239 ?_
  refine lv_topi (fun x2_5 ex2_5 => ?_)
  have ex1 : x2_1 = x1_1 := by rw [ex2_1, ew2_1, ex1_1, ew1_1]
  rw [← ex1] at t9
  have ex2 : x2_2 = x1_2 := by rw [ex2_2, ew2_2, ex1_2, ew1_2]
  rw [← ex2] at t9
  have ex3 : x2_3 = x1_3 := by rw [ex2_3, ew2_3, ex1_3, ew1_3]
  rw [← ex3] at t9
  have ex4 : x2_4 = x1_4 := by rw [ex2_4, ew2_4, ex1_4, ew1_4]
  rw [← ex4] at t9
  have ex5 : x2_5 = x1_5 := by rw [ex2_5, ew2_5, ex1_5, ew1_5]
  rw [← ex5] at t9
  refine hc_Vi (As := [.int x2_1, .int x2_2, .int x2_3, .int x2_4, .int x2_5]) (rest := []) (n := 5) (wr := CWs k a ra ia rr ii z2) hx hb hml hown hts hG hA hP hD hS hl.1 (List.range 38) (List.range' 38 149) (t9 _) (ci := 7) (q0 := 0) rfl rfl gL_law_X9_feed rfl ⟨rfl, rfl, Nat.le_of_ble_eq_true rfl, Nat.le_of_ble_eq_true rfl⟩ (by decide +kernel) (rng_l _ _ _ (MWlen k v y)) (rng_r _ _ _ _ (MWlen k v y) (CWlen k a ra ia rr ii z2)) nd2 ⟨rfl, rfl, Nat.le_of_ble_eq_true rfl, Nat.le_of_ble_eq_true rfl, Nat.le_of_ble_eq_true rfl⟩ dL_law_240 (fun r2 u2 H locs e2 hP hD hS => ?_)
  obtain ⟨hP, hD⟩ := cv (w' := CWs k a ra ia rr ii z2 ++ moW k v y2) hP hD rfl
  refine lv_pop hx hb dL_law_243 rfl ?_
  refine lv_goto (tgt := 1126) hx hb dL_law_244 (by decide) ?_
  exact KK z2 y2 G2 H locs ls hP hD hS hl
set_option maxHeartbeats 4000000 in
set_option maxRecDepth 100000 in
theorem law_case_1 {p : Program} {e : Env} {s : State} {m : MethodId} {below : List Frame} {meth : Method} {c : Code} (l : Launch) {b L : Nat} {xs : Nat → Int32} (hL : L ≤ 3072) (C0 : lw_At p s m meth c b L xs) {D : va_G} {k : Nat → ClassId} (hG : GK D k s) {ad tv ad2 tv2 : Nat → Nat} (hE : EX ad tv (A0 s) s) (hE2 : EY ad2 tv2 (A0 s) s) {a ra ia v : Nat → Nat} {rr ii : Nat → Option Nat} (hq : RQ ra ia rr ii) {i : Int32} (hi0 : 0 ≤ i.toInt) (hi1 : i.toInt + 6 ≤ (L : Int)) {z : CSt} {y : OB} (hk : GLs z y) {H : Heap} {locs : List Loc} {ls : Array Slot} (hP : va_P D vwCl (CWs k a ra ia rr ii z ++ moW k v y) H) (hD : va_D (A0 s) (CWs k a ra ia rr ii z ++ moW k v y)) (hS : va_S (A0 s) s.heap H locs) (hl : lv_has ls 4 [(3, .int i), (2, .ref (v 0)), (1, .ref (a 0)), (0, .ref b)]) (KK : ∀ (z : CSt) (y : OB), GLs z y → ∀ (H : Heap) (locs : List Loc) (ls : Array Slot), va_P D vwCl (CWs k a ra ia rr ii z ++ moW k v y) H → va_D (A0 s) (CWs k a ra ia rr ii z ++ moW k v y) → va_S (A0 s) s.heap H locs → lv_has ls 4 [(3, .int i), (2, .ref (v 0)), (1, .ref (a 0)), (0, .ref b)] → W p l e room_1 s m #[Value.ref b] below meth c H locs 187 14115 (lw_Z below #[Value.ref b] s) (F0 m 1126 ls [])) : W p l e room_1 s m #[Value.ref b] below meth c H locs 187 14115 (lw_Z below #[Value.ref b] s) (F0 m 247 ls []) := by
  obtain ⟨hx, hb, hr, hml, hown, hts, hX, hbl, hlocks, hgv⟩ := id C0
  have hown : s.vm.findClass RL = some m.cls := hown
  have hA : ∀ q : Nat, s.heap.size ≤ q → A0 s q := fun _ h => h
  have hbA : ¬ A0 s b := Nat.not_le.mpr hbl
  refine lv_aload_n hx hb dL_law_247 rfl (lv_at hl 2 rfl) ?_
  refine lv_aload_n hx hb dL_law_248 rfl (lv_at hl 3 rfl) ?_
  refine lv_iload_n hx hb dL_law_249 rfl (lv_at hl 0 rfl) ?_
  refine lv_iconst (v := 1) hx hb dL_law_250 (by decide) ?_
  refine lv_iadd hx hb dL_law_251 ?_
  refine lv_topi (fun w1_1 ew1_1 => ?_)
  have tw1_1 : w1_1.toInt = i.toInt + 1 := ai_add rfl (by decide) ew1_1 (by omega) (by omega)
  refine va_sld hx hb hX hbl hbA hS (i := w1_1) (vp_in_iff.mpr ⟨by omega, by omega⟩) dL_law_252 ?_
  refine lv_topi (fun x1_1 ex1_1 => ?_)
  obtain ⟨r0, z2, y2, t8, t9, G2⟩ := t_end l D k a ra ia v rr ii hq z y hk x1_1
  refine hc_Vi (As := [.int x1_1]) (rest := []) (n := 1) (wr := moW k v y) hx hb hml hown hts hG hA hP hD hS hl.1 (List.range 149) (List.range' 149 38) (t8 _) (ci := 6) (q0 := 0) rfl rfl gL_law_X8_end rfl ⟨rfl, rfl, Nat.le_of_ble_eq_true rfl, Nat.le_of_ble_eq_true rfl⟩ (by decide +kernel) (rng_l _ _ _ (CWlen k a ra ia rr ii z)) (rng_r _ _ _ _ (CWlen k a ra ia rr ii z) (MWlen k v y)) nd1 ⟨rfl, rfl, Nat.le_of_ble_eq_true rfl, Nat.le_of_ble_eq_true rfl, Nat.le_of_ble_eq_true rfl⟩ dL_law_253 (fun r1 u1 H locs e1 hP hD hS => ?_)
  obtain ⟨hP, hD⟩ := cv (w' := moW k v y ++ CWs k a ra ia rr ii z2) hP hD rfl
  refine lv_pop hx hb dL_law_256 rfl ?_
  refine lv_aload_n hx hb dL_law_257 rfl (lv_at hl 1 rfl) ?_
  refine lv_aload_n hx hb dL_law_258 rfl (lv_at hl 3 rfl) ?_
  refine lv_iload_n hx hb dL_law_259 rfl (lv_at hl 0 rfl) ?_
  refine lv_iconst (v := 1) hx hb dL_law_260 (by decide) ?_
  refine lv_iadd hx hb dL_law_261 ?_
  refine lv_topi (fun w2_1 ew2_1 => ?_)
  have tw2_1 : w2_1.toInt = i.toInt + 1 := ai_add rfl (by decide) ew2_1 (by omega) (by omega)
  refine va_sld hx hb hX hbl hbA hS (i := w2_1) (vp_in_iff.mpr ⟨by omega, by omega⟩) dL_law_262 ?_
  refine lv_topi (fun x2_1 ex2_1 => ?_)
  have ex1 : x2_1 = x1_1 := by rw [ex2_1, ew2_1, ex1_1, ew1_1]
  rw [← ex1] at t9
  refine hc_Vi (As := [.int x2_1]) (rest := []) (n := 1) (wr := CWs k a ra ia rr ii z2) hx hb hml hown hts hG hA hP hD hS hl.1 (List.range 38) (List.range' 38 149) (t9 _) (ci := 7) (q0 := 0) rfl rfl gL_law_X9_end rfl ⟨rfl, rfl, Nat.le_of_ble_eq_true rfl, Nat.le_of_ble_eq_true rfl⟩ (by decide +kernel) (rng_l _ _ _ (MWlen k v y)) (rng_r _ _ _ _ (MWlen k v y) (CWlen k a ra ia rr ii z2)) nd2 ⟨rfl, rfl, Nat.le_of_ble_eq_true rfl, Nat.le_of_ble_eq_true rfl, Nat.le_of_ble_eq_true rfl⟩ dL_law_263 (fun r2 u2 H locs e2 hP hD hS => ?_)
  obtain ⟨hP, hD⟩ := cv (w' := CWs k a ra ia rr ii z2 ++ moW k v y2) hP hD rfl
  refine lv_pop hx hb dL_law_266 rfl ?_
  refine lv_goto (tgt := 1126) hx hb dL_law_267 (by decide) ?_
  exact KK z2 y2 G2 H locs ls hP hD hS hl
set_option maxHeartbeats 4000000 in
set_option maxRecDepth 100000 in
theorem law_case_2 {p : Program} {e : Env} {s : State} {m : MethodId} {below : List Frame} {meth : Method} {c : Code} (l : Launch) {b L : Nat} {xs : Nat → Int32} (hL : L ≤ 3072) (C0 : lw_At p s m meth c b L xs) {D : va_G} {k : Nat → ClassId} (hG : GK D k s) {ad tv ad2 tv2 : Nat → Nat} (hE : EX ad tv (A0 s) s) (hE2 : EY ad2 tv2 (A0 s) s) {a ra ia v : Nat → Nat} {rr ii : Nat → Option Nat} (hq : RQ ra ia rr ii) {i : Int32} (hi0 : 0 ≤ i.toInt) (hi1 : i.toInt + 6 ≤ (L : Int)) {z : CSt} {y : OB} (hk : GLs z y) {H : Heap} {locs : List Loc} {ls : Array Slot} (hP : va_P D vwCl (CWs k a ra ia rr ii z ++ moW k v y) H) (hD : va_D (A0 s) (CWs k a ra ia rr ii z ++ moW k v y)) (hS : va_S (A0 s) s.heap H locs) (hl : lv_has ls 4 [(3, .int i), (2, .ref (v 0)), (1, .ref (a 0)), (0, .ref b)]) (KK : ∀ (z : CSt) (y : OB), GLs z y → ∀ (H : Heap) (locs : List Loc) (ls : Array Slot), va_P D vwCl (CWs k a ra ia rr ii z ++ moW k v y) H → va_D (A0 s) (CWs k a ra ia rr ii z ++ moW k v y) → va_S (A0 s) s.heap H locs → lv_has ls 4 [(3, .int i), (2, .ref (v 0)), (1, .ref (a 0)), (0, .ref b)] → W p l e room_1 s m #[Value.ref b] below meth c H locs 187 14115 (lw_Z below #[Value.ref b] s) (F0 m 1126 ls [])) : W p l e room_1 s m #[Value.ref b] below meth c H locs 187 14115 (lw_Z below #[Value.ref b] s) (F0 m 270 ls []) := by
  obtain ⟨hx, hb, hr, hml, hown, hts, hX, hbl, hlocks, hgv⟩ := id C0
  have hown : s.vm.findClass RL = some m.cls := hown
  have hA : ∀ q : Nat, s.heap.size ≤ q → A0 s q := fun _ h => h
  have hbA : ¬ A0 s b := Nat.not_le.mpr hbl
  refine lv_aload_n hx hb dL_law_270 rfl (lv_at hl 2 rfl) ?_
  obtain ⟨r0, z2, y2, t8, t9, G2⟩ := t_hall l D k ad tv ad2 tv2 a ra ia v rr ii hq z y hk 
  refine hc_ViE (As := []) (rest := []) (n := 0) (wr := moW k v y) (EX.ok ad tv) hE hx hb hml hown hts hG hA hP hD hS hl.1 (List.range 149) (List.range' 149 38) (t8 _) (va_recv hG.1 hP (ci := 6) (q0 := 0) rfl rfl) gL_law_X8_hall rfl ⟨rfl, rfl, Nat.le_of_ble_eq_true rfl, Nat.le_of_ble_eq_true rfl⟩ (by decide +kernel) (rng_l _ _ _ (CWlen k a ra ia rr ii z)) (rng_r _ _ _ _ (CWlen k a ra ia rr ii z) (MWlen k v y)) nd1 ⟨rfl, rfl, Nat.le_of_ble_eq_true rfl, Nat.le_of_ble_eq_true rfl, Nat.le_of_ble_eq_true rfl⟩ dL_law_271 (fun r1 u1 H locs e1 hP hD hS => ?_)
  obtain ⟨hP, hD⟩ := cv (w' := moW k v y ++ CWs k a ra ia rr ii z2) hP hD rfl
  refine lv_pop hx hb dL_law_274 rfl ?_
  refine lv_aload_n hx hb dL_law_275 rfl (lv_at hl 1 rfl) ?_
  refine hc_ViE (As := []) (rest := []) (n := 0) (wr := CWs k a ra ia rr ii z2) (EY.ok ad2 tv2) hE2 hx hb hml hown hts hG hA hP hD hS hl.1 (List.range 38) (List.range' 38 149) (t9 _) (va_recv hG.1 hP (ci := 7) (q0 := 0) rfl rfl) gL_law_X9_hall rfl ⟨rfl, rfl, Nat.le_of_ble_eq_true rfl, Nat.le_of_ble_eq_true rfl⟩ (by decide +kernel) (rng_l _ _ _ (MWlen k v y)) (rng_r _ _ _ _ (MWlen k v y) (CWlen k a ra ia rr ii z2)) nd2 ⟨rfl, rfl, Nat.le_of_ble_eq_true rfl, Nat.le_of_ble_eq_true rfl, Nat.le_of_ble_eq_true rfl⟩ dL_law_276 (fun r2 u2 H locs e2 hP hD hS => ?_)
  obtain ⟨hP, hD⟩ := cv (w' := CWs k a ra ia rr ii z2 ++ moW k v y2) hP hD rfl
  refine lv_pop hx hb dL_law_279 rfl ?_
  refine lv_goto (tgt := 1126) hx hb dL_law_280 (by decide) ?_
  exact KK z2 y2 G2 H locs ls hP hD hS hl
set_option maxHeartbeats 4000000 in
set_option maxRecDepth 100000 in
theorem law_case_3 {p : Program} {e : Env} {s : State} {m : MethodId} {below : List Frame} {meth : Method} {c : Code} (l : Launch) {b L : Nat} {xs : Nat → Int32} (hL : L ≤ 3072) (C0 : lw_At p s m meth c b L xs) {D : va_G} {k : Nat → ClassId} (hG : GK D k s) {ad tv ad2 tv2 : Nat → Nat} (hE : EX ad tv (A0 s) s) (hE2 : EY ad2 tv2 (A0 s) s) {a ra ia v : Nat → Nat} {rr ii : Nat → Option Nat} (hq : RQ ra ia rr ii) {i : Int32} (hi0 : 0 ≤ i.toInt) (hi1 : i.toInt + 6 ≤ (L : Int)) {z : CSt} {y : OB} (hk : GLs z y) {H : Heap} {locs : List Loc} {ls : Array Slot} (hP : va_P D vwCl (CWs k a ra ia rr ii z ++ moW k v y) H) (hD : va_D (A0 s) (CWs k a ra ia rr ii z ++ moW k v y)) (hS : va_S (A0 s) s.heap H locs) (hl : lv_has ls 4 [(3, .int i), (2, .ref (v 0)), (1, .ref (a 0)), (0, .ref b)]) (KK : ∀ (z : CSt) (y : OB), GLs z y → ∀ (H : Heap) (locs : List Loc) (ls : Array Slot), va_P D vwCl (CWs k a ra ia rr ii z ++ moW k v y) H → va_D (A0 s) (CWs k a ra ia rr ii z ++ moW k v y) → va_S (A0 s) s.heap H locs → lv_has ls 4 [(3, .int i), (2, .ref (v 0)), (1, .ref (a 0)), (0, .ref b)] → W p l e room_1 s m #[Value.ref b] below meth c H locs 187 14115 (lw_Z below #[Value.ref b] s) (F0 m 1126 ls [])) : W p l e room_1 s m #[Value.ref b] below meth c H locs 187 14115 (lw_Z below #[Value.ref b] s) (F0 m 283 ls []) := by
  obtain ⟨hx, hb, hr, hml, hown, hts, hX, hbl, hlocks, hgv⟩ := id C0
  have hown : s.vm.findClass RL = some m.cls := hown
  have hA : ∀ q : Nat, s.heap.size ≤ q → A0 s q := fun _ h => h
  have hbA : ¬ A0 s b := Nat.not_le.mpr hbl
  refine lv_aload_n hx hb dL_law_283 rfl (lv_at hl 2 rfl) ?_
  obtain ⟨r0, z2, y2, t8, t9, G2⟩ := t_rule l D k ad tv ad2 tv2 a ra ia v rr ii hq z y hk 
  refine hc_ViE (As := []) (rest := []) (n := 0) (wr := moW k v y) (EX.ok ad tv) hE hx hb hml hown hts hG hA hP hD hS hl.1 (List.range 149) (List.range' 149 38) (t8 _) (va_recv hG.1 hP (ci := 6) (q0 := 0) rfl rfl) gL_law_X8_rule rfl ⟨rfl, rfl, Nat.le_of_ble_eq_true rfl, Nat.le_of_ble_eq_true rfl⟩ (by decide +kernel) (rng_l _ _ _ (CWlen k a ra ia rr ii z)) (rng_r _ _ _ _ (CWlen k a ra ia rr ii z) (MWlen k v y)) nd1 ⟨rfl, rfl, Nat.le_of_ble_eq_true rfl, Nat.le_of_ble_eq_true rfl, Nat.le_of_ble_eq_true rfl⟩ dL_law_284 (fun r1 u1 H locs e1 hP hD hS => ?_)
  obtain ⟨hP, hD⟩ := cv (w' := moW k v y ++ CWs k a ra ia rr ii z2) hP hD rfl
  refine lv_pop hx hb dL_law_287 rfl ?_
  refine lv_aload_n hx hb dL_law_288 rfl (lv_at hl 1 rfl) ?_
  refine hc_ViE (As := []) (rest := []) (n := 0) (wr := CWs k a ra ia rr ii z2) (EY.ok ad2 tv2) hE2 hx hb hml hown hts hG hA hP hD hS hl.1 (List.range 38) (List.range' 38 149) (t9 _) (va_recv hG.1 hP (ci := 7) (q0 := 0) rfl rfl) gL_law_X9_rule rfl ⟨rfl, rfl, Nat.le_of_ble_eq_true rfl, Nat.le_of_ble_eq_true rfl⟩ (by decide +kernel) (rng_l _ _ _ (MWlen k v y)) (rng_r _ _ _ _ (MWlen k v y) (CWlen k a ra ia rr ii z2)) nd2 ⟨rfl, rfl, Nat.le_of_ble_eq_true rfl, Nat.le_of_ble_eq_true rfl, Nat.le_of_ble_eq_true rfl⟩ dL_law_289 (fun r2 u2 H locs e2 hP hD hS => ?_)
  obtain ⟨hP, hD⟩ := cv (w' := CWs k a ra ia rr ii z2 ++ moW k v y2) hP hD rfl
  refine lv_pop hx hb dL_law_292 rfl ?_
  refine lv_goto (tgt := 1126) hx hb dL_law_293 (by decide) ?_
  exact KK z2 y2 G2 H locs ls hP hD hS hl
set_option maxHeartbeats 4000000 in
set_option maxRecDepth 100000 in
theorem law_case_4 {p : Program} {e : Env} {s : State} {m : MethodId} {below : List Frame} {meth : Method} {c : Code} (l : Launch) {b L : Nat} {xs : Nat → Int32} (hL : L ≤ 3072) (C0 : lw_At p s m meth c b L xs) {D : va_G} {k : Nat → ClassId} (hG : GK D k s) {ad tv ad2 tv2 : Nat → Nat} (hE : EX ad tv (A0 s) s) (hE2 : EY ad2 tv2 (A0 s) s) {a ra ia v : Nat → Nat} {rr ii : Nat → Option Nat} (hq : RQ ra ia rr ii) {i : Int32} (hi0 : 0 ≤ i.toInt) (hi1 : i.toInt + 6 ≤ (L : Int)) {z : CSt} {y : OB} (hk : GLs z y) {H : Heap} {locs : List Loc} {ls : Array Slot} (hP : va_P D vwCl (CWs k a ra ia rr ii z ++ moW k v y) H) (hD : va_D (A0 s) (CWs k a ra ia rr ii z ++ moW k v y)) (hS : va_S (A0 s) s.heap H locs) (hl : lv_has ls 4 [(3, .int i), (2, .ref (v 0)), (1, .ref (a 0)), (0, .ref b)]) (KK : ∀ (z : CSt) (y : OB), GLs z y → ∀ (H : Heap) (locs : List Loc) (ls : Array Slot), va_P D vwCl (CWs k a ra ia rr ii z ++ moW k v y) H → va_D (A0 s) (CWs k a ra ia rr ii z ++ moW k v y) → va_S (A0 s) s.heap H locs → lv_has ls 4 [(3, .int i), (2, .ref (v 0)), (1, .ref (a 0)), (0, .ref b)] → W p l e room_1 s m #[Value.ref b] below meth c H locs 187 14115 (lw_Z below #[Value.ref b] s) (F0 m 1126 ls [])) : W p l e room_1 s m #[Value.ref b] below meth c H locs 187 14115 (lw_Z below #[Value.ref b] s) (F0 m 296 ls []) := by
  obtain ⟨hx, hb, hr, hml, hown, hts, hX, hbl, hlocks, hgv⟩ := id C0
  have hown : s.vm.findClass RL = some m.cls := hown
  have hA : ∀ q : Nat, s.heap.size ≤ q → A0 s q := fun _ h => h
  have hbA : ¬ A0 s b := Nat.not_le.mpr hbl
  refine lv_aload_n hx hb dL_law_296 rfl (lv_at hl 2 rfl) ?_
  refine lv_aload_n hx hb dL_law_297 rfl (lv_at hl 3 rfl) ?_
  refine lv_iload_n hx hb dL_law_298 rfl (lv_at hl 0 rfl) ?_
  refine lv_iconst (v := 1) hx hb dL_law_299 (by decide) ?_
  refine lv_iadd hx hb dL_law_300 ?_
  refine lv_topi (fun w1_1 ew1_1 => ?_)
  have tw1_1 : w1_1.toInt = i.toInt + 1 := ai_add rfl (by decide) ew1_1 (by omega) (by omega)
  refine va_sld hx hb hX hbl hbA hS (i := w1_1) (vp_in_iff.mpr ⟨by omega, by omega⟩) dL_law_301 ?_
  refine lv_topi (fun x1_1 ex1_1 => ?_)
  obtain ⟨r0, z2, y2, t8, t9, G2⟩ := t_force l D k a ra ia v rr ii hq z y hk x1_1
  refine hc_Vi (As := [.int x1_1]) (rest := []) (n := 1) (wr := moW k v y) hx hb hml hown hts hG hA hP hD hS hl.1 (List.range 149) (List.range' 149 38) (t8 _) (ci := 6) (q0 := 0) rfl rfl gL_law_X8_force rfl ⟨rfl, rfl, Nat.le_of_ble_eq_true rfl, Nat.le_of_ble_eq_true rfl⟩ (by decide +kernel) (rng_l _ _ _ (CWlen k a ra ia rr ii z)) (rng_r _ _ _ _ (CWlen k a ra ia rr ii z) (MWlen k v y)) nd1 ⟨rfl, rfl, Nat.le_of_ble_eq_true rfl, Nat.le_of_ble_eq_true rfl, Nat.le_of_ble_eq_true rfl⟩ dL_law_302 (fun r1 u1 H locs e1 hP hD hS => ?_)
  obtain ⟨hP, hD⟩ := cv (w' := moW k v y ++ CWs k a ra ia rr ii z2) hP hD rfl
  refine lv_pop hx hb dL_law_305 rfl ?_
  refine lv_aload_n hx hb dL_law_306 rfl (lv_at hl 1 rfl) ?_
  refine lv_aload_n hx hb dL_law_307 rfl (lv_at hl 3 rfl) ?_
  refine lv_iload_n hx hb dL_law_308 rfl (lv_at hl 0 rfl) ?_
  refine lv_iconst (v := 1) hx hb dL_law_309 (by decide) ?_
  refine lv_iadd hx hb dL_law_310 ?_
  refine lv_topi (fun w2_1 ew2_1 => ?_)
  have tw2_1 : w2_1.toInt = i.toInt + 1 := ai_add rfl (by decide) ew2_1 (by omega) (by omega)
  refine va_sld hx hb hX hbl hbA hS (i := w2_1) (vp_in_iff.mpr ⟨by omega, by omega⟩) dL_law_311 ?_
  refine lv_topi (fun x2_1 ex2_1 => ?_)
  have ex1 : x2_1 = x1_1 := by rw [ex2_1, ew2_1, ex1_1, ew1_1]
  rw [← ex1] at t9
  refine hc_Vi (As := [.int x2_1]) (rest := []) (n := 1) (wr := CWs k a ra ia rr ii z2) hx hb hml hown hts hG hA hP hD hS hl.1 (List.range 38) (List.range' 38 149) (t9 _) (ci := 7) (q0 := 0) rfl rfl gL_law_X9_force rfl ⟨rfl, rfl, Nat.le_of_ble_eq_true rfl, Nat.le_of_ble_eq_true rfl⟩ (by decide +kernel) (rng_l _ _ _ (MWlen k v y)) (rng_r _ _ _ _ (MWlen k v y) (CWlen k a ra ia rr ii z2)) nd2 ⟨rfl, rfl, Nat.le_of_ble_eq_true rfl, Nat.le_of_ble_eq_true rfl, Nat.le_of_ble_eq_true rfl⟩ dL_law_312 (fun r2 u2 H locs e2 hP hD hS => ?_)
  obtain ⟨hP, hD⟩ := cv (w' := CWs k a ra ia rr ii z2 ++ moW k v y2) hP hD rfl
  refine lv_pop hx hb dL_law_315 rfl ?_
  refine lv_goto (tgt := 1126) hx hb dL_law_316 (by decide) ?_
  exact KK z2 y2 G2 H locs ls hP hD hS hl
set_option maxHeartbeats 4000000 in
set_option maxRecDepth 100000 in
theorem law_case_5 {p : Program} {e : Env} {s : State} {m : MethodId} {below : List Frame} {meth : Method} {c : Code} (l : Launch) {b L : Nat} {xs : Nat → Int32} (hL : L ≤ 3072) (C0 : lw_At p s m meth c b L xs) {D : va_G} {k : Nat → ClassId} (hG : GK D k s) {ad tv ad2 tv2 : Nat → Nat} (hE : EX ad tv (A0 s) s) (hE2 : EY ad2 tv2 (A0 s) s) {a ra ia v : Nat → Nat} {rr ii : Nat → Option Nat} (hq : RQ ra ia rr ii) {i : Int32} (hi0 : 0 ≤ i.toInt) (hi1 : i.toInt + 6 ≤ (L : Int)) {z : CSt} {y : OB} (hk : GLs z y) {H : Heap} {locs : List Loc} {ls : Array Slot} (hP : va_P D vwCl (CWs k a ra ia rr ii z ++ moW k v y) H) (hD : va_D (A0 s) (CWs k a ra ia rr ii z ++ moW k v y)) (hS : va_S (A0 s) s.heap H locs) (hl : lv_has ls 4 [(3, .int i), (2, .ref (v 0)), (1, .ref (a 0)), (0, .ref b)]) (KK : ∀ (z : CSt) (y : OB), GLs z y → ∀ (H : Heap) (locs : List Loc) (ls : Array Slot), va_P D vwCl (CWs k a ra ia rr ii z ++ moW k v y) H → va_D (A0 s) (CWs k a ra ia rr ii z ++ moW k v y) → va_S (A0 s) s.heap H locs → lv_has ls 4 [(3, .int i), (2, .ref (v 0)), (1, .ref (a 0)), (0, .ref b)] → W p l e room_1 s m #[Value.ref b] below meth c H locs 187 14115 (lw_Z below #[Value.ref b] s) (F0 m 1126 ls [])) : W p l e room_1 s m #[Value.ref b] below meth c H locs 187 14115 (lw_Z below #[Value.ref b] s) (F0 m 319 ls []) := by
  obtain ⟨hx, hb, hr, hml, hown, hts, hX, hbl, hlocks, hgv⟩ := id C0
  have hown : s.vm.findClass RL = some m.cls := hown
  have hA : ∀ q : Nat, s.heap.size ≤ q → A0 s q := fun _ h => h
  have hbA : ¬ A0 s b := Nat.not_le.mpr hbl
  refine lv_aload_n hx hb dL_law_319 rfl (lv_at hl 2 rfl) ?_
  refine lv_aload_n hx hb dL_law_320 rfl (lv_at hl 3 rfl) ?_
  refine lv_iload_n hx hb dL_law_321 rfl (lv_at hl 0 rfl) ?_
  refine lv_iconst (v := 1) hx hb dL_law_322 (by decide) ?_
  refine lv_iadd hx hb dL_law_323 ?_
  refine lv_topi (fun w1_1 ew1_1 => ?_)
  have tw1_1 : w1_1.toInt = i.toInt + 1 := ai_add rfl (by decide) ew1_1 (by omega) (by omega)
  refine va_sld hx hb hX hbl hbA hS (i := w1_1) (vp_in_iff.mpr ⟨by omega, by omega⟩) dL_law_324 ?_
  refine lv_topi (fun x1_1 ex1_1 => ?_)
  obtain ⟨r0, z2, y2, t8, t9, G2⟩ := t_strand l D k a ra ia v rr ii hq z y hk x1_1
  refine hc_Vi (As := [.int x1_1]) (rest := []) (n := 1) (wr := moW k v y) hx hb hml hown hts hG hA hP hD hS hl.1 (List.range 149) (List.range' 149 38) (t8 _) (ci := 6) (q0 := 0) rfl rfl gL_law_X8_strand rfl ⟨rfl, rfl, Nat.le_of_ble_eq_true rfl, Nat.le_of_ble_eq_true rfl⟩ (by decide +kernel) (rng_l _ _ _ (CWlen k a ra ia rr ii z)) (rng_r _ _ _ _ (CWlen k a ra ia rr ii z) (MWlen k v y)) nd1 ⟨rfl, rfl, Nat.le_of_ble_eq_true rfl, Nat.le_of_ble_eq_true rfl, Nat.le_of_ble_eq_true rfl⟩ dL_law_325 (fun r1 u1 H locs e1 hP hD hS => ?_)
  obtain ⟨hP, hD⟩ := cv (w' := moW k v y ++ CWs k a ra ia rr ii z2) hP hD rfl
  refine lv_pop hx hb dL_law_328 rfl ?_
  refine lv_aload_n hx hb dL_law_329 rfl (lv_at hl 1 rfl) ?_
  refine lv_aload_n hx hb dL_law_330 rfl (lv_at hl 3 rfl) ?_
  refine lv_iload_n hx hb dL_law_331 rfl (lv_at hl 0 rfl) ?_
  refine lv_iconst (v := 1) hx hb dL_law_332 (by decide) ?_
  refine lv_iadd hx hb dL_law_333 ?_
  refine lv_topi (fun w2_1 ew2_1 => ?_)
  have tw2_1 : w2_1.toInt = i.toInt + 1 := ai_add rfl (by decide) ew2_1 (by omega) (by omega)
  refine va_sld hx hb hX hbl hbA hS (i := w2_1) (vp_in_iff.mpr ⟨by omega, by omega⟩) dL_law_334 ?_
  refine lv_topi (fun x2_1 ex2_1 => ?_)
  have ex1 : x2_1 = x1_1 := by rw [ex2_1, ew2_1, ex1_1, ew1_1]
  rw [← ex1] at t9
  refine hc_Vi (As := [.int x2_1]) (rest := []) (n := 1) (wr := CWs k a ra ia rr ii z2) hx hb hml hown hts hG hA hP hD hS hl.1 (List.range 38) (List.range' 38 149) (t9 _) (ci := 7) (q0 := 0) rfl rfl gL_law_X9_strand rfl ⟨rfl, rfl, Nat.le_of_ble_eq_true rfl, Nat.le_of_ble_eq_true rfl⟩ (by decide +kernel) (rng_l _ _ _ (MWlen k v y)) (rng_r _ _ _ _ (MWlen k v y) (CWlen k a ra ia rr ii z2)) nd2 ⟨rfl, rfl, Nat.le_of_ble_eq_true rfl, Nat.le_of_ble_eq_true rfl, Nat.le_of_ble_eq_true rfl⟩ dL_law_335 (fun r2 u2 H locs e2 hP hD hS => ?_)
  obtain ⟨hP, hD⟩ := cv (w' := CWs k a ra ia rr ii z2 ++ moW k v y2) hP hD rfl
  refine lv_pop hx hb dL_law_338 rfl ?_
  refine lv_goto (tgt := 1126) hx hb dL_law_339 (by decide) ?_
  exact KK z2 y2 G2 H locs ls hP hD hS hl
set_option maxHeartbeats 4000000 in
set_option maxRecDepth 100000 in
theorem law_case_6 {p : Program} {e : Env} {s : State} {m : MethodId} {below : List Frame} {meth : Method} {c : Code} (l : Launch) {b L : Nat} {xs : Nat → Int32} (hL : L ≤ 3072) (C0 : lw_At p s m meth c b L xs) {D : va_G} {k : Nat → ClassId} (hG : GK D k s) {ad tv ad2 tv2 : Nat → Nat} (hE : EX ad tv (A0 s) s) (hE2 : EY ad2 tv2 (A0 s) s) {a ra ia v : Nat → Nat} {rr ii : Nat → Option Nat} (hq : RQ ra ia rr ii) {i : Int32} (hi0 : 0 ≤ i.toInt) (hi1 : i.toInt + 6 ≤ (L : Int)) {z : CSt} {y : OB} (hk : GLs z y) {H : Heap} {locs : List Loc} {ls : Array Slot} (hP : va_P D vwCl (CWs k a ra ia rr ii z ++ moW k v y) H) (hD : va_D (A0 s) (CWs k a ra ia rr ii z ++ moW k v y)) (hS : va_S (A0 s) s.heap H locs) (hl : lv_has ls 4 [(3, .int i), (2, .ref (v 0)), (1, .ref (a 0)), (0, .ref b)]) (KK : ∀ (z : CSt) (y : OB), GLs z y → ∀ (H : Heap) (locs : List Loc) (ls : Array Slot), va_P D vwCl (CWs k a ra ia rr ii z ++ moW k v y) H → va_D (A0 s) (CWs k a ra ia rr ii z ++ moW k v y) → va_S (A0 s) s.heap H locs → lv_has ls 4 [(3, .int i), (2, .ref (v 0)), (1, .ref (a 0)), (0, .ref b)] → W p l e room_1 s m #[Value.ref b] below meth c H locs 187 14115 (lw_Z below #[Value.ref b] s) (F0 m 1126 ls [])) : W p l e room_1 s m #[Value.ref b] below meth c H locs 187 14115 (lw_Z below #[Value.ref b] s) (F0 m 342 ls []) := by
  obtain ⟨hx, hb, hr, hml, hown, hts, hX, hbl, hlocks, hgv⟩ := id C0
  have hown : s.vm.findClass RL = some m.cls := hown
  have hA : ∀ q : Nat, s.heap.size ≤ q → A0 s q := fun _ h => h
  have hbA : ¬ A0 s b := Nat.not_le.mpr hbl
  refine lv_aload_n hx hb dL_law_342 rfl (lv_at hl 2 rfl) ?_
  refine lv_aload_n hx hb dL_law_343 rfl (lv_at hl 3 rfl) ?_
  refine lv_iload_n hx hb dL_law_344 rfl (lv_at hl 0 rfl) ?_
  refine lv_iconst (v := 1) hx hb dL_law_345 (by decide) ?_
  refine lv_iadd hx hb dL_law_346 ?_
  refine lv_topi (fun w1_1 ew1_1 => ?_)
  have tw1_1 : w1_1.toInt = i.toInt + 1 := ai_add rfl (by decide) ew1_1 (by omega) (by omega)
  refine va_sld hx hb hX hbl hbA hS (i := w1_1) (vp_in_iff.mpr ⟨by omega, by omega⟩) dL_law_347 ?_
  refine lv_topi (fun x1_1 ex1_1 => ?_)
  refine lv_aload_n hx hb dL_law_348 rfl (lv_at hl 3 rfl) ?_
  refine lv_iload_n hx hb dL_law_349 rfl (lv_at hl 0 rfl) ?_
  refine lv_iconst (v := 2) hx hb dL_law_350 (by decide) ?_
  refine lv_iadd hx hb dL_law_351 ?_
  refine lv_topi (fun w1_2 ew1_2 => ?_)
  have tw1_2 : w1_2.toInt = i.toInt + 2 := ai_add rfl (by decide) ew1_2 (by omega) (by omega)
  refine va_sld hx hb hX hbl hbA hS (i := w1_2) (vp_in_iff.mpr ⟨by omega, by omega⟩) dL_law_352 ?_
  refine lv_topi (fun x1_2 ex1_2 => ?_)
  obtain ⟨r0, z2, y2, t8, t9, G2⟩ := t_chair l D k a ra ia v rr ii hq z y hk x1_1 x1_2
  refine hc_Vi (As := [.int x1_1, .int x1_2]) (rest := []) (n := 2) (wr := moW k v y) hx hb hml hown hts hG hA hP hD hS hl.1 (List.range 149) (List.range' 149 38) (t8 _) (ci := 6) (q0 := 0) rfl rfl gL_law_X8_chair rfl ⟨rfl, rfl, Nat.le_of_ble_eq_true rfl, Nat.le_of_ble_eq_true rfl⟩ (by decide +kernel) (rng_l _ _ _ (CWlen k a ra ia rr ii z)) (rng_r _ _ _ _ (CWlen k a ra ia rr ii z) (MWlen k v y)) nd1 ⟨rfl, rfl, Nat.le_of_ble_eq_true rfl, Nat.le_of_ble_eq_true rfl, Nat.le_of_ble_eq_true rfl⟩ dL_law_353 (fun r1 u1 H locs e1 hP hD hS => ?_)
  obtain ⟨hP, hD⟩ := cv (w' := moW k v y ++ CWs k a ra ia rr ii z2) hP hD rfl
  refine lv_pop hx hb dL_law_356 rfl ?_
  refine lv_aload_n hx hb dL_law_357 rfl (lv_at hl 1 rfl) ?_
  refine lv_aload_n hx hb dL_law_358 rfl (lv_at hl 3 rfl) ?_
  refine lv_iload_n hx hb dL_law_359 rfl (lv_at hl 0 rfl) ?_
  refine lv_iconst (v := 1) hx hb dL_law_360 (by decide) ?_
  refine lv_iadd hx hb dL_law_361 ?_
  refine lv_topi (fun w2_1 ew2_1 => ?_)
  have tw2_1 : w2_1.toInt = i.toInt + 1 := ai_add rfl (by decide) ew2_1 (by omega) (by omega)
  refine va_sld hx hb hX hbl hbA hS (i := w2_1) (vp_in_iff.mpr ⟨by omega, by omega⟩) dL_law_362 ?_
  refine lv_topi (fun x2_1 ex2_1 => ?_)
  refine lv_aload_n hx hb dL_law_363 rfl (lv_at hl 3 rfl) ?_
  refine lv_iload_n hx hb dL_law_364 rfl (lv_at hl 0 rfl) ?_
  refine lv_iconst (v := 2) hx hb dL_law_365 (by decide) ?_
  refine lv_iadd hx hb dL_law_366 ?_
  refine lv_topi (fun w2_2 ew2_2 => ?_)
  have tw2_2 : w2_2.toInt = i.toInt + 2 := ai_add rfl (by decide) ew2_2 (by omega) (by omega)
  refine va_sld hx hb hX hbl hbA hS (i := w2_2) (vp_in_iff.mpr ⟨by omega, by omega⟩) dL_law_367 ?_
  refine lv_topi (fun x2_2 ex2_2 => ?_)
  have ex1 : x2_1 = x1_1 := by rw [ex2_1, ew2_1, ex1_1, ew1_1]
  rw [← ex1] at t9
  have ex2 : x2_2 = x1_2 := by rw [ex2_2, ew2_2, ex1_2, ew1_2]
  rw [← ex2] at t9
  refine hc_Vi (As := [.int x2_1, .int x2_2]) (rest := []) (n := 2) (wr := CWs k a ra ia rr ii z2) hx hb hml hown hts hG hA hP hD hS hl.1 (List.range 38) (List.range' 38 149) (t9 _) (ci := 7) (q0 := 0) rfl rfl gL_law_X9_chair rfl ⟨rfl, rfl, Nat.le_of_ble_eq_true rfl, Nat.le_of_ble_eq_true rfl⟩ (by decide +kernel) (rng_l _ _ _ (MWlen k v y)) (rng_r _ _ _ _ (MWlen k v y) (CWlen k a ra ia rr ii z2)) nd2 ⟨rfl, rfl, Nat.le_of_ble_eq_true rfl, Nat.le_of_ble_eq_true rfl, Nat.le_of_ble_eq_true rfl⟩ dL_law_368 (fun r2 u2 H locs e2 hP hD hS => ?_)
  obtain ⟨hP, hD⟩ := cv (w' := CWs k a ra ia rr ii z2 ++ moW k v y2) hP hD rfl
  refine lv_pop hx hb dL_law_371 rfl ?_
  refine lv_goto (tgt := 1126) hx hb dL_law_372 (by decide) ?_
  exact KK z2 y2 G2 H locs ls hP hD hS hl
set_option maxHeartbeats 4000000 in
set_option maxRecDepth 100000 in
theorem law_case_7 {p : Program} {e : Env} {s : State} {m : MethodId} {below : List Frame} {meth : Method} {c : Code} (l : Launch) {b L : Nat} {xs : Nat → Int32} (hL : L ≤ 3072) (C0 : lw_At p s m meth c b L xs) {D : va_G} {k : Nat → ClassId} (hG : GK D k s) {ad tv ad2 tv2 : Nat → Nat} (hE : EX ad tv (A0 s) s) (hE2 : EY ad2 tv2 (A0 s) s) {a ra ia v : Nat → Nat} {rr ii : Nat → Option Nat} (hq : RQ ra ia rr ii) {i : Int32} (hi0 : 0 ≤ i.toInt) (hi1 : i.toInt + 6 ≤ (L : Int)) {z : CSt} {y : OB} (hk : GLs z y) {H : Heap} {locs : List Loc} {ls : Array Slot} (hP : va_P D vwCl (CWs k a ra ia rr ii z ++ moW k v y) H) (hD : va_D (A0 s) (CWs k a ra ia rr ii z ++ moW k v y)) (hS : va_S (A0 s) s.heap H locs) (hl : lv_has ls 4 [(3, .int i), (2, .ref (v 0)), (1, .ref (a 0)), (0, .ref b)]) (KK : ∀ (z : CSt) (y : OB), GLs z y → ∀ (H : Heap) (locs : List Loc) (ls : Array Slot), va_P D vwCl (CWs k a ra ia rr ii z ++ moW k v y) H → va_D (A0 s) (CWs k a ra ia rr ii z ++ moW k v y) → va_S (A0 s) s.heap H locs → lv_has ls 4 [(3, .int i), (2, .ref (v 0)), (1, .ref (a 0)), (0, .ref b)] → W p l e room_1 s m #[Value.ref b] below meth c H locs 187 14115 (lw_Z below #[Value.ref b] s) (F0 m 1126 ls [])) : W p l e room_1 s m #[Value.ref b] below meth c H locs 187 14115 (lw_Z below #[Value.ref b] s) (F0 m 375 ls []) := by
  obtain ⟨hx, hb, hr, hml, hown, hts, hX, hbl, hlocks, hgv⟩ := id C0
  have hown : s.vm.findClass RL = some m.cls := hown
  have hA : ∀ q : Nat, s.heap.size ≤ q → A0 s q := fun _ h => h
  have hbA : ¬ A0 s b := Nat.not_le.mpr hbl
  refine lv_aload_n hx hb dL_law_375 rfl (lv_at hl 2 rfl) ?_
  refine lv_aload_n hx hb dL_law_376 rfl (lv_at hl 3 rfl) ?_
  refine lv_iload_n hx hb dL_law_377 rfl (lv_at hl 0 rfl) ?_
  refine lv_iconst (v := 1) hx hb dL_law_378 (by decide) ?_
  refine lv_iadd hx hb dL_law_379 ?_
  refine lv_topi (fun w1_1 ew1_1 => ?_)
  have tw1_1 : w1_1.toInt = i.toInt + 1 := ai_add rfl (by decide) ew1_1 (by omega) (by omega)
  refine va_sld hx hb hX hbl hbA hS (i := w1_1) (vp_in_iff.mpr ⟨by omega, by omega⟩) dL_law_380 ?_
  refine lv_topi (fun x1_1 ex1_1 => ?_)
  refine lv_aload_n hx hb dL_law_381 rfl (lv_at hl 3 rfl) ?_
  refine lv_iload_n hx hb dL_law_382 rfl (lv_at hl 0 rfl) ?_
  refine lv_iconst (v := 2) hx hb dL_law_383 (by decide) ?_
  refine lv_iadd hx hb dL_law_384 ?_
  refine lv_topi (fun w1_2 ew1_2 => ?_)
  have tw1_2 : w1_2.toInt = i.toInt + 2 := ai_add rfl (by decide) ew1_2 (by omega) (by omega)
  refine va_sld hx hb hX hbl hbA hS (i := w1_2) (vp_in_iff.mpr ⟨by omega, by omega⟩) dL_law_385 ?_
  refine lv_topi (fun x1_2 ex1_2 => ?_)
  obtain ⟨r0, z2, y2, t8, t9, G2⟩ := t_sitter l D k a ra ia v rr ii hq z y hk x1_1 x1_2
  refine hc_Vi (As := [.int x1_1, .int x1_2]) (rest := []) (n := 2) (wr := moW k v y) hx hb hml hown hts hG hA hP hD hS hl.1 (List.range 149) (List.range' 149 38) (t8 _) (ci := 6) (q0 := 0) rfl rfl gL_law_X8_sitter rfl ⟨rfl, rfl, Nat.le_of_ble_eq_true rfl, Nat.le_of_ble_eq_true rfl⟩ (by decide +kernel) (rng_l _ _ _ (CWlen k a ra ia rr ii z)) (rng_r _ _ _ _ (CWlen k a ra ia rr ii z) (MWlen k v y)) nd1 ⟨rfl, rfl, Nat.le_of_ble_eq_true rfl, Nat.le_of_ble_eq_true rfl, Nat.le_of_ble_eq_true rfl⟩ dL_law_386 (fun r1 u1 H locs e1 hP hD hS => ?_)
  obtain ⟨hP, hD⟩ := cv (w' := moW k v y ++ CWs k a ra ia rr ii z2) hP hD rfl
  refine lv_pop hx hb dL_law_389 rfl ?_
  refine lv_aload_n hx hb dL_law_390 rfl (lv_at hl 1 rfl) ?_
  refine lv_aload_n hx hb dL_law_391 rfl (lv_at hl 3 rfl) ?_
  refine lv_iload_n hx hb dL_law_392 rfl (lv_at hl 0 rfl) ?_
  refine lv_iconst (v := 1) hx hb dL_law_393 (by decide) ?_
  refine lv_iadd hx hb dL_law_394 ?_
  refine lv_topi (fun w2_1 ew2_1 => ?_)
  have tw2_1 : w2_1.toInt = i.toInt + 1 := ai_add rfl (by decide) ew2_1 (by omega) (by omega)
  refine va_sld hx hb hX hbl hbA hS (i := w2_1) (vp_in_iff.mpr ⟨by omega, by omega⟩) dL_law_395 ?_
  refine lv_topi (fun x2_1 ex2_1 => ?_)
  refine lv_aload_n hx hb dL_law_396 rfl (lv_at hl 3 rfl) ?_
  refine lv_iload_n hx hb dL_law_397 rfl (lv_at hl 0 rfl) ?_
  refine lv_iconst (v := 2) hx hb dL_law_398 (by decide) ?_
  refine lv_iadd hx hb dL_law_399 ?_
  refine lv_topi (fun w2_2 ew2_2 => ?_)
  have tw2_2 : w2_2.toInt = i.toInt + 2 := ai_add rfl (by decide) ew2_2 (by omega) (by omega)
  refine va_sld hx hb hX hbl hbA hS (i := w2_2) (vp_in_iff.mpr ⟨by omega, by omega⟩) dL_law_400 ?_
  refine lv_topi (fun x2_2 ex2_2 => ?_)
  have ex1 : x2_1 = x1_1 := by rw [ex2_1, ew2_1, ex1_1, ew1_1]
  rw [← ex1] at t9
  have ex2 : x2_2 = x1_2 := by rw [ex2_2, ew2_2, ex1_2, ew1_2]
  rw [← ex2] at t9
  refine hc_Vi (As := [.int x2_1, .int x2_2]) (rest := []) (n := 2) (wr := CWs k a ra ia rr ii z2) hx hb hml hown hts hG hA hP hD hS hl.1 (List.range 38) (List.range' 38 149) (t9 _) (ci := 7) (q0 := 0) rfl rfl gL_law_X9_sitter rfl ⟨rfl, rfl, Nat.le_of_ble_eq_true rfl, Nat.le_of_ble_eq_true rfl⟩ (by decide +kernel) (rng_l _ _ _ (MWlen k v y)) (rng_r _ _ _ _ (MWlen k v y) (CWlen k a ra ia rr ii z2)) nd2 ⟨rfl, rfl, Nat.le_of_ble_eq_true rfl, Nat.le_of_ble_eq_true rfl, Nat.le_of_ble_eq_true rfl⟩ dL_law_401 (fun r2 u2 H locs e2 hP hD hS => ?_)
  obtain ⟨hP, hD⟩ := cv (w' := CWs k a ra ia rr ii z2 ++ moW k v y2) hP hD rfl
  refine lv_pop hx hb dL_law_404 rfl ?_
  refine lv_goto (tgt := 1126) hx hb dL_law_405 (by decide) ?_
  exact KK z2 y2 G2 H locs ls hP hD hS hl
set_option maxHeartbeats 4000000 in
set_option maxRecDepth 100000 in
theorem law_case_8 {p : Program} {e : Env} {s : State} {m : MethodId} {below : List Frame} {meth : Method} {c : Code} (l : Launch) {b L : Nat} {xs : Nat → Int32} (hL : L ≤ 3072) (C0 : lw_At p s m meth c b L xs) {D : va_G} {k : Nat → ClassId} (hG : GK D k s) {ad tv ad2 tv2 : Nat → Nat} (hE : EX ad tv (A0 s) s) (hE2 : EY ad2 tv2 (A0 s) s) {a ra ia v : Nat → Nat} {rr ii : Nat → Option Nat} (hq : RQ ra ia rr ii) {i : Int32} (hi0 : 0 ≤ i.toInt) (hi1 : i.toInt + 6 ≤ (L : Int)) {z : CSt} {y : OB} (hk : GLs z y) {H : Heap} {locs : List Loc} {ls : Array Slot} (hP : va_P D vwCl (CWs k a ra ia rr ii z ++ moW k v y) H) (hD : va_D (A0 s) (CWs k a ra ia rr ii z ++ moW k v y)) (hS : va_S (A0 s) s.heap H locs) (hl : lv_has ls 4 [(3, .int i), (2, .ref (v 0)), (1, .ref (a 0)), (0, .ref b)]) (KK : ∀ (z : CSt) (y : OB), GLs z y → ∀ (H : Heap) (locs : List Loc) (ls : Array Slot), va_P D vwCl (CWs k a ra ia rr ii z ++ moW k v y) H → va_D (A0 s) (CWs k a ra ia rr ii z ++ moW k v y) → va_S (A0 s) s.heap H locs → lv_has ls 4 [(3, .int i), (2, .ref (v 0)), (1, .ref (a 0)), (0, .ref b)] → W p l e room_1 s m #[Value.ref b] below meth c H locs 187 14115 (lw_Z below #[Value.ref b] s) (F0 m 1126 ls [])) : W p l e room_1 s m #[Value.ref b] below meth c H locs 187 14115 (lw_Z below #[Value.ref b] s) (F0 m 408 ls []) := by
  obtain ⟨hx, hb, hr, hml, hown, hts, hX, hbl, hlocks, hgv⟩ := id C0
  have hown : s.vm.findClass RL = some m.cls := hown
  have hA : ∀ q : Nat, s.heap.size ≤ q → A0 s q := fun _ h => h
  have hbA : ¬ A0 s b := Nat.not_le.mpr hbl
  refine lv_aload_n hx hb dL_law_408 rfl (lv_at hl 2 rfl) ?_
  obtain ⟨r0, z2, y2, t8, t9, G2⟩ := t_minute l D k a ra ia v rr ii hq z y hk 
  refine hc_Vi (As := []) (rest := []) (n := 0) (wr := moW k v y) hx hb hml hown hts hG hA hP hD hS hl.1 (List.range 149) (List.range' 149 38) (t8 _) (ci := 6) (q0 := 0) rfl rfl gL_law_X8_minute rfl ⟨rfl, rfl, Nat.le_of_ble_eq_true rfl, Nat.le_of_ble_eq_true rfl⟩ (by decide +kernel) (rng_l _ _ _ (CWlen k a ra ia rr ii z)) (rng_r _ _ _ _ (CWlen k a ra ia rr ii z) (MWlen k v y)) nd1 ⟨rfl, rfl, Nat.le_of_ble_eq_true rfl, Nat.le_of_ble_eq_true rfl, Nat.le_of_ble_eq_true rfl⟩ dL_law_409 (fun r1 u1 H locs e1 hP hD hS => ?_)
  obtain ⟨hP, hD⟩ := cv (w' := moW k v y ++ CWs k a ra ia rr ii z2) hP hD rfl
  refine lv_pop hx hb dL_law_412 rfl ?_
  refine lv_aload_n hx hb dL_law_413 rfl (lv_at hl 1 rfl) ?_
  refine hc_Vi (As := []) (rest := []) (n := 0) (wr := CWs k a ra ia rr ii z2) hx hb hml hown hts hG hA hP hD hS hl.1 (List.range 38) (List.range' 38 149) (t9 _) (ci := 7) (q0 := 0) rfl rfl gL_law_X9_minute rfl ⟨rfl, rfl, Nat.le_of_ble_eq_true rfl, Nat.le_of_ble_eq_true rfl⟩ (by decide +kernel) (rng_l _ _ _ (MWlen k v y)) (rng_r _ _ _ _ (MWlen k v y) (CWlen k a ra ia rr ii z2)) nd2 ⟨rfl, rfl, Nat.le_of_ble_eq_true rfl, Nat.le_of_ble_eq_true rfl, Nat.le_of_ble_eq_true rfl⟩ dL_law_414 (fun r2 u2 H locs e2 hP hD hS => ?_)
  obtain ⟨hP, hD⟩ := cv (w' := CWs k a ra ia rr ii z2 ++ moW k v y2) hP hD rfl
  refine lv_pop hx hb dL_law_417 rfl ?_
  refine lv_goto (tgt := 1126) hx hb dL_law_418 (by decide) ?_
  exact KK z2 y2 G2 H locs ls hP hD hS hl
set_option maxHeartbeats 4000000 in
set_option maxRecDepth 100000 in
theorem law_case_9 {p : Program} {e : Env} {s : State} {m : MethodId} {below : List Frame} {meth : Method} {c : Code} (l : Launch) {b L : Nat} {xs : Nat → Int32} (hL : L ≤ 3072) (C0 : lw_At p s m meth c b L xs) {D : va_G} {k : Nat → ClassId} (hG : GK D k s) {ad tv ad2 tv2 : Nat → Nat} (hE : EX ad tv (A0 s) s) (hE2 : EY ad2 tv2 (A0 s) s) {a ra ia v : Nat → Nat} {rr ii : Nat → Option Nat} (hq : RQ ra ia rr ii) {i : Int32} (hi0 : 0 ≤ i.toInt) (hi1 : i.toInt + 6 ≤ (L : Int)) {z : CSt} {y : OB} (hk : GLs z y) {H : Heap} {locs : List Loc} {ls : Array Slot} (hP : va_P D vwCl (CWs k a ra ia rr ii z ++ moW k v y) H) (hD : va_D (A0 s) (CWs k a ra ia rr ii z ++ moW k v y)) (hS : va_S (A0 s) s.heap H locs) (hl : lv_has ls 4 [(3, .int i), (2, .ref (v 0)), (1, .ref (a 0)), (0, .ref b)]) (KK : ∀ (z : CSt) (y : OB), GLs z y → ∀ (H : Heap) (locs : List Loc) (ls : Array Slot), va_P D vwCl (CWs k a ra ia rr ii z ++ moW k v y) H → va_D (A0 s) (CWs k a ra ia rr ii z ++ moW k v y) → va_S (A0 s) s.heap H locs → lv_has ls 4 [(3, .int i), (2, .ref (v 0)), (1, .ref (a 0)), (0, .ref b)] → W p l e room_1 s m #[Value.ref b] below meth c H locs 187 14115 (lw_Z below #[Value.ref b] s) (F0 m 1126 ls [])) : W p l e room_1 s m #[Value.ref b] below meth c H locs 187 14115 (lw_Z below #[Value.ref b] s) (F0 m 421 ls []) := by
  obtain ⟨hx, hb, hr, hml, hown, hts, hX, hbl, hlocks, hgv⟩ := id C0
  have hown : s.vm.findClass RL = some m.cls := hown
  have hA : ∀ q : Nat, s.heap.size ≤ q → A0 s q := fun _ h => h
  have hbA : ¬ A0 s b := Nat.not_le.mpr hbl
  refine lv_aload_n hx hb dL_law_421 rfl (lv_at hl 2 rfl) ?_
  refine lv_aload_n hx hb dL_law_422 rfl (lv_at hl 3 rfl) ?_
  refine lv_iload_n hx hb dL_law_423 rfl (lv_at hl 0 rfl) ?_
  refine lv_iconst (v := 1) hx hb dL_law_424 (by decide) ?_
  refine lv_iadd hx hb dL_law_425 ?_
  refine lv_topi (fun w1_1 ew1_1 => ?_)
  have tw1_1 : w1_1.toInt = i.toInt + 1 := ai_add rfl (by decide) ew1_1 (by omega) (by omega)
  refine va_sld hx hb hX hbl hbA hS (i := w1_1) (vp_in_iff.mpr ⟨by omega, by omega⟩) dL_law_426 ?_
  refine lv_topi (fun x1_1 ex1_1 => ?_)
  obtain ⟨r0, z2, y2, t8, t9, G2⟩ := t_sit l D k a ra ia v rr ii hq z y hk x1_1
  refine hc_Vi (As := [.int x1_1]) (rest := []) (n := 1) (wr := moW k v y) hx hb hml hown hts hG hA hP hD hS hl.1 (List.range 149) (List.range' 149 38) (t8 _) (ci := 6) (q0 := 0) rfl rfl gL_law_X8_sit rfl ⟨rfl, rfl, Nat.le_of_ble_eq_true rfl, Nat.le_of_ble_eq_true rfl⟩ (by decide +kernel) (rng_l _ _ _ (CWlen k a ra ia rr ii z)) (rng_r _ _ _ _ (CWlen k a ra ia rr ii z) (MWlen k v y)) nd1 ⟨rfl, rfl, Nat.le_of_ble_eq_true rfl, Nat.le_of_ble_eq_true rfl, Nat.le_of_ble_eq_true rfl⟩ dL_law_427 (fun r1 u1 H locs e1 hP hD hS => ?_)
  obtain ⟨hP, hD⟩ := cv (w' := moW k v y ++ CWs k a ra ia rr ii z2) hP hD rfl
  refine lv_pop hx hb dL_law_430 rfl ?_
  refine lv_aload_n hx hb dL_law_431 rfl (lv_at hl 1 rfl) ?_
  refine lv_aload_n hx hb dL_law_432 rfl (lv_at hl 3 rfl) ?_
  refine lv_iload_n hx hb dL_law_433 rfl (lv_at hl 0 rfl) ?_
  refine lv_iconst (v := 1) hx hb dL_law_434 (by decide) ?_
  refine lv_iadd hx hb dL_law_435 ?_
  refine lv_topi (fun w2_1 ew2_1 => ?_)
  have tw2_1 : w2_1.toInt = i.toInt + 1 := ai_add rfl (by decide) ew2_1 (by omega) (by omega)
  refine va_sld hx hb hX hbl hbA hS (i := w2_1) (vp_in_iff.mpr ⟨by omega, by omega⟩) dL_law_436 ?_
  refine lv_topi (fun x2_1 ex2_1 => ?_)
  have ex1 : x2_1 = x1_1 := by rw [ex2_1, ew2_1, ex1_1, ew1_1]
  rw [← ex1] at t9
  refine hc_Vi (As := [.int x2_1]) (rest := []) (n := 1) (wr := CWs k a ra ia rr ii z2) hx hb hml hown hts hG hA hP hD hS hl.1 (List.range 38) (List.range' 38 149) (t9 _) (ci := 7) (q0 := 0) rfl rfl gL_law_X9_sit rfl ⟨rfl, rfl, Nat.le_of_ble_eq_true rfl, Nat.le_of_ble_eq_true rfl⟩ (by decide +kernel) (rng_l _ _ _ (MWlen k v y)) (rng_r _ _ _ _ (MWlen k v y) (CWlen k a ra ia rr ii z2)) nd2 ⟨rfl, rfl, Nat.le_of_ble_eq_true rfl, Nat.le_of_ble_eq_true rfl, Nat.le_of_ble_eq_true rfl⟩ dL_law_437 (fun r2 u2 H locs e2 hP hD hS => ?_)
  obtain ⟨hP, hD⟩ := cv (w' := CWs k a ra ia rr ii z2 ++ moW k v y2) hP hD rfl
  refine lv_pop hx hb dL_law_440 rfl ?_
  refine lv_goto (tgt := 1126) hx hb dL_law_441 (by decide) ?_
  exact KK z2 y2 G2 H locs ls hP hD hS hl
set_option maxHeartbeats 4000000 in
set_option maxRecDepth 100000 in
theorem law_case_10 {p : Program} {e : Env} {s : State} {m : MethodId} {below : List Frame} {meth : Method} {c : Code} (l : Launch) {b L : Nat} {xs : Nat → Int32} (hL : L ≤ 3072) (C0 : lw_At p s m meth c b L xs) {D : va_G} {k : Nat → ClassId} (hG : GK D k s) {ad tv ad2 tv2 : Nat → Nat} (hE : EX ad tv (A0 s) s) (hE2 : EY ad2 tv2 (A0 s) s) {a ra ia v : Nat → Nat} {rr ii : Nat → Option Nat} (hq : RQ ra ia rr ii) {i : Int32} (hi0 : 0 ≤ i.toInt) (hi1 : i.toInt + 6 ≤ (L : Int)) {z : CSt} {y : OB} (hk : GLs z y) {H : Heap} {locs : List Loc} {ls : Array Slot} (hP : va_P D vwCl (CWs k a ra ia rr ii z ++ moW k v y) H) (hD : va_D (A0 s) (CWs k a ra ia rr ii z ++ moW k v y)) (hS : va_S (A0 s) s.heap H locs) (hl : lv_has ls 4 [(3, .int i), (2, .ref (v 0)), (1, .ref (a 0)), (0, .ref b)]) (KK : ∀ (z : CSt) (y : OB), GLs z y → ∀ (H : Heap) (locs : List Loc) (ls : Array Slot), va_P D vwCl (CWs k a ra ia rr ii z ++ moW k v y) H → va_D (A0 s) (CWs k a ra ia rr ii z ++ moW k v y) → va_S (A0 s) s.heap H locs → lv_has ls 4 [(3, .int i), (2, .ref (v 0)), (1, .ref (a 0)), (0, .ref b)] → W p l e room_1 s m #[Value.ref b] below meth c H locs 187 14115 (lw_Z below #[Value.ref b] s) (F0 m 1126 ls [])) : W p l e room_1 s m #[Value.ref b] below meth c H locs 187 14115 (lw_Z below #[Value.ref b] s) (F0 m 444 ls []) := by
  obtain ⟨hx, hb, hr, hml, hown, hts, hX, hbl, hlocks, hgv⟩ := id C0
  have hown : s.vm.findClass RL = some m.cls := hown
  have hA : ∀ q : Nat, s.heap.size ≤ q → A0 s q := fun _ h => h
  have hbA : ¬ A0 s b := Nat.not_le.mpr hbl
  refine lv_aload_n hx hb dL_law_444 rfl (lv_at hl 2 rfl) ?_
  refine lv_aload_n hx hb dL_law_445 rfl (lv_at hl 3 rfl) ?_
  refine lv_iload_n hx hb dL_law_446 rfl (lv_at hl 0 rfl) ?_
  refine lv_iconst (v := 1) hx hb dL_law_447 (by decide) ?_
  refine lv_iadd hx hb dL_law_448 ?_
  refine lv_topi (fun w1_1 ew1_1 => ?_)
  have tw1_1 : w1_1.toInt = i.toInt + 1 := ai_add rfl (by decide) ew1_1 (by omega) (by omega)
  refine va_sld hx hb hX hbl hbA hS (i := w1_1) (vp_in_iff.mpr ⟨by omega, by omega⟩) dL_law_449 ?_
  refine lv_topi (fun x1_1 ex1_1 => ?_)
  obtain ⟨r0, z2, y2, t8, t9, G2⟩ := t_rise l D k a ra ia v rr ii hq z y hk x1_1
  refine hc_Vi (As := [.int x1_1]) (rest := []) (n := 1) (wr := moW k v y) hx hb hml hown hts hG hA hP hD hS hl.1 (List.range 149) (List.range' 149 38) (t8 _) (ci := 6) (q0 := 0) rfl rfl gL_law_X8_rise rfl ⟨rfl, rfl, Nat.le_of_ble_eq_true rfl, Nat.le_of_ble_eq_true rfl⟩ (by decide +kernel) (rng_l _ _ _ (CWlen k a ra ia rr ii z)) (rng_r _ _ _ _ (CWlen k a ra ia rr ii z) (MWlen k v y)) nd1 ⟨rfl, rfl, Nat.le_of_ble_eq_true rfl, Nat.le_of_ble_eq_true rfl, Nat.le_of_ble_eq_true rfl⟩ dL_law_450 (fun r1 u1 H locs e1 hP hD hS => ?_)
  obtain ⟨hP, hD⟩ := cv (w' := moW k v y ++ CWs k a ra ia rr ii z2) hP hD rfl
  refine lv_pop hx hb dL_law_453 rfl ?_
  refine lv_aload_n hx hb dL_law_454 rfl (lv_at hl 1 rfl) ?_
  refine lv_aload_n hx hb dL_law_455 rfl (lv_at hl 3 rfl) ?_
  refine lv_iload_n hx hb dL_law_456 rfl (lv_at hl 0 rfl) ?_
  refine lv_iconst (v := 1) hx hb dL_law_457 (by decide) ?_
  refine lv_iadd hx hb dL_law_458 ?_
  refine lv_topi (fun w2_1 ew2_1 => ?_)
  have tw2_1 : w2_1.toInt = i.toInt + 1 := ai_add rfl (by decide) ew2_1 (by omega) (by omega)
  refine va_sld hx hb hX hbl hbA hS (i := w2_1) (vp_in_iff.mpr ⟨by omega, by omega⟩) dL_law_459 ?_
  refine lv_topi (fun x2_1 ex2_1 => ?_)
  have ex1 : x2_1 = x1_1 := by rw [ex2_1, ew2_1, ex1_1, ew1_1]
  rw [← ex1] at t9
  refine hc_Vi (As := [.int x2_1]) (rest := []) (n := 1) (wr := CWs k a ra ia rr ii z2) hx hb hml hown hts hG hA hP hD hS hl.1 (List.range 38) (List.range' 38 149) (t9 _) (ci := 7) (q0 := 0) rfl rfl gL_law_X9_rise rfl ⟨rfl, rfl, Nat.le_of_ble_eq_true rfl, Nat.le_of_ble_eq_true rfl⟩ (by decide +kernel) (rng_l _ _ _ (MWlen k v y)) (rng_r _ _ _ _ (MWlen k v y) (CWlen k a ra ia rr ii z2)) nd2 ⟨rfl, rfl, Nat.le_of_ble_eq_true rfl, Nat.le_of_ble_eq_true rfl, Nat.le_of_ble_eq_true rfl⟩ dL_law_460 (fun r2 u2 H locs e2 hP hD hS => ?_)
  obtain ⟨hP, hD⟩ := cv (w' := CWs k a ra ia rr ii z2 ++ moW k v y2) hP hD rfl
  refine lv_pop hx hb dL_law_463 rfl ?_
  refine lv_goto (tgt := 1126) hx hb dL_law_464 (by decide) ?_
  exact KK z2 y2 G2 H locs ls hP hD hS hl
set_option maxHeartbeats 4000000 in
set_option maxRecDepth 100000 in
theorem law_case_11 {p : Program} {e : Env} {s : State} {m : MethodId} {below : List Frame} {meth : Method} {c : Code} (l : Launch) {b L : Nat} {xs : Nat → Int32} (hL : L ≤ 3072) (C0 : lw_At p s m meth c b L xs) {D : va_G} {k : Nat → ClassId} (hG : GK D k s) {ad tv ad2 tv2 : Nat → Nat} (hE : EX ad tv (A0 s) s) (hE2 : EY ad2 tv2 (A0 s) s) {a ra ia v : Nat → Nat} {rr ii : Nat → Option Nat} (hq : RQ ra ia rr ii) {i : Int32} (hi0 : 0 ≤ i.toInt) (hi1 : i.toInt + 6 ≤ (L : Int)) {z : CSt} {y : OB} (hk : GLs z y) {H : Heap} {locs : List Loc} {ls : Array Slot} (hP : va_P D vwCl (CWs k a ra ia rr ii z ++ moW k v y) H) (hD : va_D (A0 s) (CWs k a ra ia rr ii z ++ moW k v y)) (hS : va_S (A0 s) s.heap H locs) (hl : lv_has ls 4 [(3, .int i), (2, .ref (v 0)), (1, .ref (a 0)), (0, .ref b)]) (KK : ∀ (z : CSt) (y : OB), GLs z y → ∀ (H : Heap) (locs : List Loc) (ls : Array Slot), va_P D vwCl (CWs k a ra ia rr ii z ++ moW k v y) H → va_D (A0 s) (CWs k a ra ia rr ii z ++ moW k v y) → va_S (A0 s) s.heap H locs → lv_has ls 4 [(3, .int i), (2, .ref (v 0)), (1, .ref (a 0)), (0, .ref b)] → W p l e room_1 s m #[Value.ref b] below meth c H locs 187 14115 (lw_Z below #[Value.ref b] s) (F0 m 1126 ls [])) : W p l e room_1 s m #[Value.ref b] below meth c H locs 187 14115 (lw_Z below #[Value.ref b] s) (F0 m 467 ls []) := by
  obtain ⟨hx, hb, hr, hml, hown, hts, hX, hbl, hlocks, hgv⟩ := id C0
  have hown : s.vm.findClass RL = some m.cls := hown
  have hA : ∀ q : Nat, s.heap.size ≤ q → A0 s q := fun _ h => h
  have hbA : ¬ A0 s b := Nat.not_le.mpr hbl
  refine lv_aload_n hx hb dL_law_467 rfl (lv_at hl 2 rfl) ?_
  refine lv_aload_n hx hb dL_law_468 rfl (lv_at hl 3 rfl) ?_
  refine lv_iload_n hx hb dL_law_469 rfl (lv_at hl 0 rfl) ?_
  refine lv_iconst (v := 1) hx hb dL_law_470 (by decide) ?_
  refine lv_iadd hx hb dL_law_471 ?_
  refine lv_topi (fun w1_1 ew1_1 => ?_)
  have tw1_1 : w1_1.toInt = i.toInt + 1 := ai_add rfl (by decide) ew1_1 (by omega) (by omega)
  refine va_sld hx hb hX hbl hbA hS (i := w1_1) (vp_in_iff.mpr ⟨by omega, by omega⟩) dL_law_472 ?_
  refine lv_topi (fun x1_1 ex1_1 => ?_)
  obtain ⟨r0, z2, y2, t8, t9, G2⟩ := t_help l D k a ra ia v rr ii hq z y hk x1_1
  refine hc_Vi (As := [.int x1_1]) (rest := []) (n := 1) (wr := moW k v y) hx hb hml hown hts hG hA hP hD hS hl.1 (List.range 149) (List.range' 149 38) (t8 _) (ci := 6) (q0 := 0) rfl rfl gL_law_X8_help rfl ⟨rfl, rfl, Nat.le_of_ble_eq_true rfl, Nat.le_of_ble_eq_true rfl⟩ (by decide +kernel) (rng_l _ _ _ (CWlen k a ra ia rr ii z)) (rng_r _ _ _ _ (CWlen k a ra ia rr ii z) (MWlen k v y)) nd1 ⟨rfl, rfl, Nat.le_of_ble_eq_true rfl, Nat.le_of_ble_eq_true rfl, Nat.le_of_ble_eq_true rfl⟩ dL_law_473 (fun r1 u1 H locs e1 hP hD hS => ?_)
  obtain ⟨hP, hD⟩ := cv (w' := moW k v y ++ CWs k a ra ia rr ii z2) hP hD rfl
  refine lv_pop hx hb dL_law_476 rfl ?_
  refine lv_aload_n hx hb dL_law_477 rfl (lv_at hl 1 rfl) ?_
  refine lv_aload_n hx hb dL_law_478 rfl (lv_at hl 3 rfl) ?_
  refine lv_iload_n hx hb dL_law_479 rfl (lv_at hl 0 rfl) ?_
  refine lv_iconst (v := 1) hx hb dL_law_480 (by decide) ?_
  refine lv_iadd hx hb dL_law_481 ?_
  refine lv_topi (fun w2_1 ew2_1 => ?_)
  have tw2_1 : w2_1.toInt = i.toInt + 1 := ai_add rfl (by decide) ew2_1 (by omega) (by omega)
  refine va_sld hx hb hX hbl hbA hS (i := w2_1) (vp_in_iff.mpr ⟨by omega, by omega⟩) dL_law_482 ?_
  refine lv_topi (fun x2_1 ex2_1 => ?_)
  have ex1 : x2_1 = x1_1 := by rw [ex2_1, ew2_1, ex1_1, ew1_1]
  rw [← ex1] at t9
  refine hc_Vi (As := [.int x2_1]) (rest := []) (n := 1) (wr := CWs k a ra ia rr ii z2) hx hb hml hown hts hG hA hP hD hS hl.1 (List.range 38) (List.range' 38 149) (t9 _) (ci := 7) (q0 := 0) rfl rfl gL_law_X9_help rfl ⟨rfl, rfl, Nat.le_of_ble_eq_true rfl, Nat.le_of_ble_eq_true rfl⟩ (by decide +kernel) (rng_l _ _ _ (MWlen k v y)) (rng_r _ _ _ _ (MWlen k v y) (CWlen k a ra ia rr ii z2)) nd2 ⟨rfl, rfl, Nat.le_of_ble_eq_true rfl, Nat.le_of_ble_eq_true rfl, Nat.le_of_ble_eq_true rfl⟩ dL_law_483 (fun r2 u2 H locs e2 hP hD hS => ?_)
  obtain ⟨hP, hD⟩ := cv (w' := CWs k a ra ia rr ii z2 ++ moW k v y2) hP hD rfl
  refine lv_pop hx hb dL_law_486 rfl ?_
  refine lv_goto (tgt := 1126) hx hb dL_law_487 (by decide) ?_
  exact KK z2 y2 G2 H locs ls hP hD hS hl
set_option maxHeartbeats 4000000 in
set_option maxRecDepth 100000 in
theorem law_case_12 {p : Program} {e : Env} {s : State} {m : MethodId} {below : List Frame} {meth : Method} {c : Code} (l : Launch) {b L : Nat} {xs : Nat → Int32} (hL : L ≤ 3072) (C0 : lw_At p s m meth c b L xs) {D : va_G} {k : Nat → ClassId} (hG : GK D k s) {ad tv ad2 tv2 : Nat → Nat} (hE : EX ad tv (A0 s) s) (hE2 : EY ad2 tv2 (A0 s) s) {a ra ia v : Nat → Nat} {rr ii : Nat → Option Nat} (hq : RQ ra ia rr ii) {i : Int32} (hi0 : 0 ≤ i.toInt) (hi1 : i.toInt + 6 ≤ (L : Int)) {z : CSt} {y : OB} (hk : GLs z y) {H : Heap} {locs : List Loc} {ls : Array Slot} (hP : va_P D vwCl (CWs k a ra ia rr ii z ++ moW k v y) H) (hD : va_D (A0 s) (CWs k a ra ia rr ii z ++ moW k v y)) (hS : va_S (A0 s) s.heap H locs) (hl : lv_has ls 4 [(3, .int i), (2, .ref (v 0)), (1, .ref (a 0)), (0, .ref b)]) (KK : ∀ (z : CSt) (y : OB), GLs z y → ∀ (H : Heap) (locs : List Loc) (ls : Array Slot), va_P D vwCl (CWs k a ra ia rr ii z ++ moW k v y) H → va_D (A0 s) (CWs k a ra ia rr ii z ++ moW k v y) → va_S (A0 s) s.heap H locs → lv_has ls 4 [(3, .int i), (2, .ref (v 0)), (1, .ref (a 0)), (0, .ref b)] → W p l e room_1 s m #[Value.ref b] below meth c H locs 187 14115 (lw_Z below #[Value.ref b] s) (F0 m 1126 ls [])) : W p l e room_1 s m #[Value.ref b] below meth c H locs 187 14115 (lw_Z below #[Value.ref b] s) (F0 m 490 ls []) := by
  obtain ⟨hx, hb, hr, hml, hown, hts, hX, hbl, hlocks, hgv⟩ := id C0
  have hown : s.vm.findClass RL = some m.cls := hown
  have hA : ∀ q : Nat, s.heap.size ≤ q → A0 s q := fun _ h => h
  have hbA : ¬ A0 s b := Nat.not_le.mpr hbl
  refine lv_aload_n hx hb dL_law_490 rfl (lv_at hl 2 rfl) ?_
  refine lv_aload_n hx hb dL_law_491 rfl (lv_at hl 3 rfl) ?_
  refine lv_iload_n hx hb dL_law_492 rfl (lv_at hl 0 rfl) ?_
  refine lv_iconst (v := 1) hx hb dL_law_493 (by decide) ?_
  refine lv_iadd hx hb dL_law_494 ?_
  refine lv_topi (fun w1_1 ew1_1 => ?_)
  have tw1_1 : w1_1.toInt = i.toInt + 1 := ai_add rfl (by decide) ew1_1 (by omega) (by omega)
  refine va_sld hx hb hX hbl hbA hS (i := w1_1) (vp_in_iff.mpr ⟨by omega, by omega⟩) dL_law_495 ?_
  refine lv_topi (fun x1_1 ex1_1 => ?_)
  refine lv_aload_n hx hb dL_law_496 rfl (lv_at hl 3 rfl) ?_
  refine lv_iload_n hx hb dL_law_497 rfl (lv_at hl 0 rfl) ?_
  refine lv_iconst (v := 2) hx hb dL_law_498 (by decide) ?_
  refine lv_iadd hx hb dL_law_499 ?_
  refine lv_topi (fun w1_2 ew1_2 => ?_)
  have tw1_2 : w1_2.toInt = i.toInt + 2 := ai_add rfl (by decide) ew1_2 (by omega) (by omega)
  refine va_sld hx hb hX hbl hbA hS (i := w1_2) (vp_in_iff.mpr ⟨by omega, by omega⟩) dL_law_500 ?_
  refine lv_topi (fun x1_2 ex1_2 => ?_)
  obtain ⟨r0, z2, y2, t8, t9, G2⟩ := t_let l D k a ra ia v rr ii hq z y hk x1_1 x1_2
  refine hc_Vi (As := [.int x1_1, .int x1_2]) (rest := []) (n := 2) (wr := moW k v y) hx hb hml hown hts hG hA hP hD hS hl.1 (List.range 149) (List.range' 149 38) (t8 _) (ci := 6) (q0 := 0) rfl rfl gL_law_X8_let rfl ⟨rfl, rfl, Nat.le_of_ble_eq_true rfl, Nat.le_of_ble_eq_true rfl⟩ (by decide +kernel) (rng_l _ _ _ (CWlen k a ra ia rr ii z)) (rng_r _ _ _ _ (CWlen k a ra ia rr ii z) (MWlen k v y)) nd1 ⟨rfl, rfl, Nat.le_of_ble_eq_true rfl, Nat.le_of_ble_eq_true rfl, Nat.le_of_ble_eq_true rfl⟩ dL_law_501 (fun r1 u1 H locs e1 hP hD hS => ?_)
  obtain ⟨hP, hD⟩ := cv (w' := moW k v y ++ CWs k a ra ia rr ii z2) hP hD rfl
  refine lv_pop hx hb dL_law_504 rfl ?_
  refine lv_aload_n hx hb dL_law_505 rfl (lv_at hl 1 rfl) ?_
  refine lv_aload_n hx hb dL_law_506 rfl (lv_at hl 3 rfl) ?_
  refine lv_iload_n hx hb dL_law_507 rfl (lv_at hl 0 rfl) ?_
  refine lv_iconst (v := 1) hx hb dL_law_508 (by decide) ?_
  refine lv_iadd hx hb dL_law_509 ?_
  refine lv_topi (fun w2_1 ew2_1 => ?_)
  have tw2_1 : w2_1.toInt = i.toInt + 1 := ai_add rfl (by decide) ew2_1 (by omega) (by omega)
  refine va_sld hx hb hX hbl hbA hS (i := w2_1) (vp_in_iff.mpr ⟨by omega, by omega⟩) dL_law_510 ?_
  refine lv_topi (fun x2_1 ex2_1 => ?_)
  refine lv_aload_n hx hb dL_law_511 rfl (lv_at hl 3 rfl) ?_
  refine lv_iload_n hx hb dL_law_512 rfl (lv_at hl 0 rfl) ?_
  refine lv_iconst (v := 2) hx hb dL_law_513 (by decide) ?_
  refine lv_iadd hx hb dL_law_514 ?_
  refine lv_topi (fun w2_2 ew2_2 => ?_)
  have tw2_2 : w2_2.toInt = i.toInt + 2 := ai_add rfl (by decide) ew2_2 (by omega) (by omega)
  refine va_sld hx hb hX hbl hbA hS (i := w2_2) (vp_in_iff.mpr ⟨by omega, by omega⟩) dL_law_515 ?_
  refine lv_topi (fun x2_2 ex2_2 => ?_)
  have ex1 : x2_1 = x1_1 := by rw [ex2_1, ew2_1, ex1_1, ew1_1]
  rw [← ex1] at t9
  have ex2 : x2_2 = x1_2 := by rw [ex2_2, ew2_2, ex1_2, ew1_2]
  rw [← ex2] at t9
  refine hc_Vi (As := [.int x2_1, .int x2_2]) (rest := []) (n := 2) (wr := CWs k a ra ia rr ii z2) hx hb hml hown hts hG hA hP hD hS hl.1 (List.range 38) (List.range' 38 149) (t9 _) (ci := 7) (q0 := 0) rfl rfl gL_law_X9_let rfl ⟨rfl, rfl, Nat.le_of_ble_eq_true rfl, Nat.le_of_ble_eq_true rfl⟩ (by decide +kernel) (rng_l _ _ _ (MWlen k v y)) (rng_r _ _ _ _ (MWlen k v y) (CWlen k a ra ia rr ii z2)) nd2 ⟨rfl, rfl, Nat.le_of_ble_eq_true rfl, Nat.le_of_ble_eq_true rfl, Nat.le_of_ble_eq_true rfl⟩ dL_law_516 (fun r2 u2 H locs e2 hP hD hS => ?_)
  obtain ⟨hP, hD⟩ := cv (w' := CWs k a ra ia rr ii z2 ++ moW k v y2) hP hD rfl
  refine lv_pop hx hb dL_law_519 rfl ?_
  refine lv_goto (tgt := 1126) hx hb dL_law_520 (by decide) ?_
  exact KK z2 y2 G2 H locs ls hP hD hS hl
set_option maxHeartbeats 4000000 in
set_option maxRecDepth 100000 in
theorem law_case_13 {p : Program} {e : Env} {s : State} {m : MethodId} {below : List Frame} {meth : Method} {c : Code} (l : Launch) {b L : Nat} {xs : Nat → Int32} (hL : L ≤ 3072) (C0 : lw_At p s m meth c b L xs) {D : va_G} {k : Nat → ClassId} (hG : GK D k s) {ad tv ad2 tv2 : Nat → Nat} (hE : EX ad tv (A0 s) s) (hE2 : EY ad2 tv2 (A0 s) s) {a ra ia v : Nat → Nat} {rr ii : Nat → Option Nat} (hq : RQ ra ia rr ii) {i : Int32} (hi0 : 0 ≤ i.toInt) (hi1 : i.toInt + 6 ≤ (L : Int)) {z : CSt} {y : OB} (hk : GLs z y) {H : Heap} {locs : List Loc} {ls : Array Slot} (hP : va_P D vwCl (CWs k a ra ia rr ii z ++ moW k v y) H) (hD : va_D (A0 s) (CWs k a ra ia rr ii z ++ moW k v y)) (hS : va_S (A0 s) s.heap H locs) (hl : lv_has ls 4 [(3, .int i), (2, .ref (v 0)), (1, .ref (a 0)), (0, .ref b)]) (KK : ∀ (z : CSt) (y : OB), GLs z y → ∀ (H : Heap) (locs : List Loc) (ls : Array Slot), va_P D vwCl (CWs k a ra ia rr ii z ++ moW k v y) H → va_D (A0 s) (CWs k a ra ia rr ii z ++ moW k v y) → va_S (A0 s) s.heap H locs → lv_has ls 4 [(3, .int i), (2, .ref (v 0)), (1, .ref (a 0)), (0, .ref b)] → W p l e room_1 s m #[Value.ref b] below meth c H locs 187 14115 (lw_Z below #[Value.ref b] s) (F0 m 1126 ls [])) : W p l e room_1 s m #[Value.ref b] below meth c H locs 187 14115 (lw_Z below #[Value.ref b] s) (F0 m 523 ls []) := by
  obtain ⟨hx, hb, hr, hml, hown, hts, hX, hbl, hlocks, hgv⟩ := id C0
  have hown : s.vm.findClass RL = some m.cls := hown
  have hA : ∀ q : Nat, s.heap.size ≤ q → A0 s q := fun _ h => h
  have hbA : ¬ A0 s b := Nat.not_le.mpr hbl
  refine lv_aload_n hx hb dL_law_523 rfl (lv_at hl 2 rfl) ?_
  obtain ⟨r0, z2, y2, t8, t9, G2⟩ := t_undo l D k a ra ia v rr ii hq z y hk 
  refine hc_Vi (As := []) (rest := []) (n := 0) (wr := moW k v y) hx hb hml hown hts hG hA hP hD hS hl.1 (List.range 149) (List.range' 149 38) (t8 _) (ci := 6) (q0 := 0) rfl rfl gL_law_X8_undo rfl ⟨rfl, rfl, Nat.le_of_ble_eq_true rfl, Nat.le_of_ble_eq_true rfl⟩ (by decide +kernel) (rng_l _ _ _ (CWlen k a ra ia rr ii z)) (rng_r _ _ _ _ (CWlen k a ra ia rr ii z) (MWlen k v y)) nd1 ⟨rfl, rfl, Nat.le_of_ble_eq_true rfl, Nat.le_of_ble_eq_true rfl, Nat.le_of_ble_eq_true rfl⟩ dL_law_524 (fun r1 u1 H locs e1 hP hD hS => ?_)
  obtain ⟨hP, hD⟩ := cv (w' := moW k v y ++ CWs k a ra ia rr ii z2) hP hD rfl
  refine lv_pop hx hb dL_law_527 rfl ?_
  refine lv_aload_n hx hb dL_law_528 rfl (lv_at hl 1 rfl) ?_
  refine hc_Vi (As := []) (rest := []) (n := 0) (wr := CWs k a ra ia rr ii z2) hx hb hml hown hts hG hA hP hD hS hl.1 (List.range 38) (List.range' 38 149) (t9 _) (ci := 7) (q0 := 0) rfl rfl gL_law_X9_undo rfl ⟨rfl, rfl, Nat.le_of_ble_eq_true rfl, Nat.le_of_ble_eq_true rfl⟩ (by decide +kernel) (rng_l _ _ _ (MWlen k v y)) (rng_r _ _ _ _ (MWlen k v y) (CWlen k a ra ia rr ii z2)) nd2 ⟨rfl, rfl, Nat.le_of_ble_eq_true rfl, Nat.le_of_ble_eq_true rfl, Nat.le_of_ble_eq_true rfl⟩ dL_law_529 (fun r2 u2 H locs e2 hP hD hS => ?_)
  obtain ⟨hP, hD⟩ := cv (w' := CWs k a ra ia rr ii z2 ++ moW k v y2) hP hD rfl
  refine lv_pop hx hb dL_law_532 rfl ?_
  refine lv_goto (tgt := 1126) hx hb dL_law_533 (by decide) ?_
  exact KK z2 y2 G2 H locs ls hP hD hS hl
set_option maxHeartbeats 4000000 in
set_option maxRecDepth 100000 in
theorem law_case_14 {p : Program} {e : Env} {s : State} {m : MethodId} {below : List Frame} {meth : Method} {c : Code} (l : Launch) {b L : Nat} {xs : Nat → Int32} (hL : L ≤ 3072) (C0 : lw_At p s m meth c b L xs) {D : va_G} {k : Nat → ClassId} (hG : GK D k s) {ad tv ad2 tv2 : Nat → Nat} (hE : EX ad tv (A0 s) s) (hE2 : EY ad2 tv2 (A0 s) s) {a ra ia v : Nat → Nat} {rr ii : Nat → Option Nat} (hq : RQ ra ia rr ii) {i : Int32} (hi0 : 0 ≤ i.toInt) (hi1 : i.toInt + 6 ≤ (L : Int)) {z : CSt} {y : OB} (hk : GLs z y) {H : Heap} {locs : List Loc} {ls : Array Slot} (hP : va_P D vwCl (CWs k a ra ia rr ii z ++ moW k v y) H) (hD : va_D (A0 s) (CWs k a ra ia rr ii z ++ moW k v y)) (hS : va_S (A0 s) s.heap H locs) (hl : lv_has ls 4 [(3, .int i), (2, .ref (v 0)), (1, .ref (a 0)), (0, .ref b)]) (KK : ∀ (z : CSt) (y : OB), GLs z y → ∀ (H : Heap) (locs : List Loc) (ls : Array Slot), va_P D vwCl (CWs k a ra ia rr ii z ++ moW k v y) H → va_D (A0 s) (CWs k a ra ia rr ii z ++ moW k v y) → va_S (A0 s) s.heap H locs → lv_has ls 4 [(3, .int i), (2, .ref (v 0)), (1, .ref (a 0)), (0, .ref b)] → W p l e room_1 s m #[Value.ref b] below meth c H locs 187 14115 (lw_Z below #[Value.ref b] s) (F0 m 1126 ls [])) : W p l e room_1 s m #[Value.ref b] below meth c H locs 187 14115 (lw_Z below #[Value.ref b] s) (F0 m 536 ls []) := by
  obtain ⟨hx, hb, hr, hml, hown, hts, hX, hbl, hlocks, hgv⟩ := id C0
  have hown : s.vm.findClass RL = some m.cls := hown
  have hA : ∀ q : Nat, s.heap.size ≤ q → A0 s q := fun _ h => h
  have hbA : ¬ A0 s b := Nat.not_le.mpr hbl
  refine lv_aload_n hx hb dL_law_536 rfl (lv_at hl 2 rfl) ?_
  refine lv_aload_n hx hb dL_law_537 rfl (lv_at hl 3 rfl) ?_
  refine lv_iload_n hx hb dL_law_538 rfl (lv_at hl 0 rfl) ?_
  refine lv_iconst (v := 1) hx hb dL_law_539 (by decide) ?_
  refine lv_iadd hx hb dL_law_540 ?_
  refine lv_topi (fun w1_1 ew1_1 => ?_)
  have tw1_1 : w1_1.toInt = i.toInt + 1 := ai_add rfl (by decide) ew1_1 (by omega) (by omega)
  refine va_sld hx hb hX hbl hbA hS (i := w1_1) (vp_in_iff.mpr ⟨by omega, by omega⟩) dL_law_541 ?_
  refine lv_topi (fun x1_1 ex1_1 => ?_)
  refine lv_aload_n hx hb dL_law_542 rfl (lv_at hl 3 rfl) ?_
  refine lv_iload_n hx hb dL_law_543 rfl (lv_at hl 0 rfl) ?_
  refine lv_iconst (v := 2) hx hb dL_law_544 (by decide) ?_
  refine lv_iadd hx hb dL_law_545 ?_
  refine lv_topi (fun w1_2 ew1_2 => ?_)
  have tw1_2 : w1_2.toInt = i.toInt + 2 := ai_add rfl (by decide) ew1_2 (by omega) (by omega)
  refine va_sld hx hb hX hbl hbA hS (i := w1_2) (vp_in_iff.mpr ⟨by omega, by omega⟩) dL_law_546 ?_
  refine lv_topi (fun x1_2 ex1_2 => ?_)
  refine lv_aload_n hx hb dL_law_547 rfl (lv_at hl 3 rfl) ?_
  refine lv_iload_n hx hb dL_law_548 rfl (lv_at hl 0 rfl) ?_
  refine lv_iconst (v := 3) hx hb dL_law_549 (by decide) ?_
  refine lv_iadd hx hb dL_law_550 ?_
  refine lv_topi (fun w1_3 ew1_3 => ?_)
  have tw1_3 : w1_3.toInt = i.toInt + 3 := ai_add rfl (by decide) ew1_3 (by omega) (by omega)
  refine va_sld hx hb hX hbl hbA hS (i := w1_3) (vp_in_iff.mpr ⟨by omega, by omega⟩) dL_law_551 ?_
  refine lv_topi (fun x1_3 ex1_3 => ?_)
  obtain ⟨r0, z2, y2, t8, t9, G2⟩ := t_ahead l D k a ra ia v rr ii hq z y hk x1_1 x1_2 x1_3
  refine hc_Vi (As := [.int x1_1, .int x1_2, .int x1_3]) (rest := []) (n := 3) (wr := moW k v y) hx hb hml hown hts hG hA hP hD hS hl.1 (List.range 149) (List.range' 149 38) (t8 _) (ci := 6) (q0 := 0) rfl rfl gL_law_X8_ahead rfl ⟨rfl, rfl, Nat.le_of_ble_eq_true rfl, Nat.le_of_ble_eq_true rfl⟩ (by decide +kernel) (rng_l _ _ _ (CWlen k a ra ia rr ii z)) (rng_r _ _ _ _ (CWlen k a ra ia rr ii z) (MWlen k v y)) nd1 ⟨rfl, rfl, Nat.le_of_ble_eq_true rfl, Nat.le_of_ble_eq_true rfl, Nat.le_of_ble_eq_true rfl⟩ dL_law_552 (fun r1 u1 H locs e1 hP hD hS => ?_)
  obtain ⟨hP, hD⟩ := cv (w' := moW k v y ++ CWs k a ra ia rr ii z2) hP hD rfl
  refine lv_pop hx hb dL_law_555 rfl ?_
  refine lv_aload_n hx hb dL_law_556 rfl (lv_at hl 1 rfl) ?_
  refine lv_aload_n hx hb dL_law_557 rfl (lv_at hl 3 rfl) ?_
  refine lv_iload_n hx hb dL_law_558 rfl (lv_at hl 0 rfl) ?_
  refine lv_iconst (v := 1) hx hb dL_law_559 (by decide) ?_
  refine lv_iadd hx hb dL_law_560 ?_
  refine lv_topi (fun w2_1 ew2_1 => ?_)
  have tw2_1 : w2_1.toInt = i.toInt + 1 := ai_add rfl (by decide) ew2_1 (by omega) (by omega)
  refine va_sld hx hb hX hbl hbA hS (i := w2_1) (vp_in_iff.mpr ⟨by omega, by omega⟩) dL_law_561 ?_
  refine lv_topi (fun x2_1 ex2_1 => ?_)
  refine lv_aload_n hx hb dL_law_562 rfl (lv_at hl 3 rfl) ?_
  refine lv_iload_n hx hb dL_law_563 rfl (lv_at hl 0 rfl) ?_
  refine lv_iconst (v := 2) hx hb dL_law_564 (by decide) ?_
  refine lv_iadd hx hb dL_law_565 ?_
  refine lv_topi (fun w2_2 ew2_2 => ?_)
  have tw2_2 : w2_2.toInt = i.toInt + 2 := ai_add rfl (by decide) ew2_2 (by omega) (by omega)
  refine va_sld hx hb hX hbl hbA hS (i := w2_2) (vp_in_iff.mpr ⟨by omega, by omega⟩) dL_law_566 ?_
  refine lv_topi (fun x2_2 ex2_2 => ?_)
  refine lv_aload_n hx hb dL_law_567 rfl (lv_at hl 3 rfl) ?_
  refine lv_iload_n hx hb dL_law_568 rfl (lv_at hl 0 rfl) ?_
  refine lv_iconst (v := 3) hx hb dL_law_569 (by decide) ?_
  refine lv_iadd hx hb dL_law_570 ?_
  refine lv_topi (fun w2_3 ew2_3 => ?_)
  have tw2_3 : w2_3.toInt = i.toInt + 3 := ai_add rfl (by decide) ew2_3 (by omega) (by omega)
  refine va_sld hx hb hX hbl hbA hS (i := w2_3) (vp_in_iff.mpr ⟨by omega, by omega⟩) dL_law_571 ?_
  refine lv_topi (fun x2_3 ex2_3 => ?_)
  have ex1 : x2_1 = x1_1 := by rw [ex2_1, ew2_1, ex1_1, ew1_1]
  rw [← ex1] at t9
  have ex2 : x2_2 = x1_2 := by rw [ex2_2, ew2_2, ex1_2, ew1_2]
  rw [← ex2] at t9
  have ex3 : x2_3 = x1_3 := by rw [ex2_3, ew2_3, ex1_3, ew1_3]
  rw [← ex3] at t9
  refine hc_Vi (As := [.int x2_1, .int x2_2, .int x2_3]) (rest := []) (n := 3) (wr := CWs k a ra ia rr ii z2) hx hb hml hown hts hG hA hP hD hS hl.1 (List.range 38) (List.range' 38 149) (t9 _) (ci := 7) (q0 := 0) rfl rfl gL_law_X9_ahead rfl ⟨rfl, rfl, Nat.le_of_ble_eq_true rfl, Nat.le_of_ble_eq_true rfl⟩ (by decide +kernel) (rng_l _ _ _ (MWlen k v y)) (rng_r _ _ _ _ (MWlen k v y) (CWlen k a ra ia rr ii z2)) nd2 ⟨rfl, rfl, Nat.le_of_ble_eq_true rfl, Nat.le_of_ble_eq_true rfl, Nat.le_of_ble_eq_true rfl⟩ dL_law_572 (fun r2 u2 H locs e2 hP hD hS => ?_)
  obtain ⟨hP, hD⟩ := cv (w' := CWs k a ra ia rr ii z2 ++ moW k v y2) hP hD rfl
  refine lv_pop hx hb dL_law_575 rfl ?_
  refine lv_goto (tgt := 1126) hx hb dL_law_576 (by decide) ?_
  exact KK z2 y2 G2 H locs ls hP hD hS hl
set_option maxHeartbeats 4000000 in
set_option maxRecDepth 100000 in
theorem law_case_15 {p : Program} {e : Env} {s : State} {m : MethodId} {below : List Frame} {meth : Method} {c : Code} (l : Launch) {b L : Nat} {xs : Nat → Int32} (hL : L ≤ 3072) (C0 : lw_At p s m meth c b L xs) {D : va_G} {k : Nat → ClassId} (hG : GK D k s) {ad tv ad2 tv2 : Nat → Nat} (hE : EX ad tv (A0 s) s) (hE2 : EY ad2 tv2 (A0 s) s) {a ra ia v : Nat → Nat} {rr ii : Nat → Option Nat} (hq : RQ ra ia rr ii) {i : Int32} (hi0 : 0 ≤ i.toInt) (hi1 : i.toInt + 6 ≤ (L : Int)) {z : CSt} {y : OB} (hk : GLs z y) {H : Heap} {locs : List Loc} {ls : Array Slot} (hP : va_P D vwCl (CWs k a ra ia rr ii z ++ moW k v y) H) (hD : va_D (A0 s) (CWs k a ra ia rr ii z ++ moW k v y)) (hS : va_S (A0 s) s.heap H locs) (hl : lv_has ls 4 [(3, .int i), (2, .ref (v 0)), (1, .ref (a 0)), (0, .ref b)]) (KK : ∀ (z : CSt) (y : OB), GLs z y → ∀ (H : Heap) (locs : List Loc) (ls : Array Slot), va_P D vwCl (CWs k a ra ia rr ii z ++ moW k v y) H → va_D (A0 s) (CWs k a ra ia rr ii z ++ moW k v y) → va_S (A0 s) s.heap H locs → lv_has ls 4 [(3, .int i), (2, .ref (v 0)), (1, .ref (a 0)), (0, .ref b)] → W p l e room_1 s m #[Value.ref b] below meth c H locs 187 14115 (lw_Z below #[Value.ref b] s) (F0 m 1126 ls [])) : W p l e room_1 s m #[Value.ref b] below meth c H locs 187 14115 (lw_Z below #[Value.ref b] s) (F0 m 579 ls []) := by
  obtain ⟨hx, hb, hr, hml, hown, hts, hX, hbl, hlocks, hgv⟩ := id C0
  have hown : s.vm.findClass RL = some m.cls := hown
  have hA : ∀ q : Nat, s.heap.size ≤ q → A0 s q := fun _ h => h
  have hbA : ¬ A0 s b := Nat.not_le.mpr hbl
  refine lv_aload_n hx hb dL_law_579 rfl (lv_at hl 2 rfl) ?_
  refine lv_aload_n hx hb dL_law_580 rfl (lv_at hl 3 rfl) ?_
  refine lv_iload_n hx hb dL_law_581 rfl (lv_at hl 0 rfl) ?_
  refine lv_iconst (v := 1) hx hb dL_law_582 (by decide) ?_
  refine lv_iadd hx hb dL_law_583 ?_
  refine lv_topi (fun w1_1 ew1_1 => ?_)
  have tw1_1 : w1_1.toInt = i.toInt + 1 := ai_add rfl (by decide) ew1_1 (by omega) (by omega)
  refine va_sld hx hb hX hbl hbA hS (i := w1_1) (vp_in_iff.mpr ⟨by omega, by omega⟩) dL_law_584 ?_
  refine lv_topi (fun x1_1 ex1_1 => ?_)
  obtain ⟨r0, z2, y2, t8, t9, G2⟩ := t_falls l D k a ra ia v rr ii hq z y hk x1_1
  refine hc_Vi (As := [.int x1_1]) (rest := []) (n := 1) (wr := moW k v y) hx hb hml hown hts hG hA hP hD hS hl.1 (List.range 149) (List.range' 149 38) (t8 _) (ci := 6) (q0 := 0) rfl rfl gL_law_X8_falls rfl ⟨rfl, rfl, Nat.le_of_ble_eq_true rfl, Nat.le_of_ble_eq_true rfl⟩ (by decide +kernel) (rng_l _ _ _ (CWlen k a ra ia rr ii z)) (rng_r _ _ _ _ (CWlen k a ra ia rr ii z) (MWlen k v y)) nd1 ⟨rfl, rfl, Nat.le_of_ble_eq_true rfl, Nat.le_of_ble_eq_true rfl, Nat.le_of_ble_eq_true rfl⟩ dL_law_585 (fun r1 u1 H locs e1 hP hD hS => ?_)
  obtain ⟨hP, hD⟩ := cv (w' := moW k v y ++ CWs k a ra ia rr ii z2) hP hD rfl
  refine lv_pop hx hb dL_law_588 rfl ?_
  refine lv_aload_n hx hb dL_law_589 rfl (lv_at hl 1 rfl) ?_
  refine lv_aload_n hx hb dL_law_590 rfl (lv_at hl 3 rfl) ?_
  refine lv_iload_n hx hb dL_law_591 rfl (lv_at hl 0 rfl) ?_
  refine lv_iconst (v := 1) hx hb dL_law_592 (by decide) ?_
  refine lv_iadd hx hb dL_law_593 ?_
  refine lv_topi (fun w2_1 ew2_1 => ?_)
  have tw2_1 : w2_1.toInt = i.toInt + 1 := ai_add rfl (by decide) ew2_1 (by omega) (by omega)
  refine va_sld hx hb hX hbl hbA hS (i := w2_1) (vp_in_iff.mpr ⟨by omega, by omega⟩) dL_law_594 ?_
  refine lv_topi (fun x2_1 ex2_1 => ?_)
  have ex1 : x2_1 = x1_1 := by rw [ex2_1, ew2_1, ex1_1, ew1_1]
  rw [← ex1] at t9
  refine hc_Vi (As := [.int x2_1]) (rest := []) (n := 1) (wr := CWs k a ra ia rr ii z2) hx hb hml hown hts hG hA hP hD hS hl.1 (List.range 38) (List.range' 38 149) (t9 _) (ci := 7) (q0 := 0) rfl rfl gL_law_X9_falls rfl ⟨rfl, rfl, Nat.le_of_ble_eq_true rfl, Nat.le_of_ble_eq_true rfl⟩ (by decide +kernel) (rng_l _ _ _ (MWlen k v y)) (rng_r _ _ _ _ (MWlen k v y) (CWlen k a ra ia rr ii z2)) nd2 ⟨rfl, rfl, Nat.le_of_ble_eq_true rfl, Nat.le_of_ble_eq_true rfl, Nat.le_of_ble_eq_true rfl⟩ dL_law_595 (fun r2 u2 H locs e2 hP hD hS => ?_)
  obtain ⟨hP, hD⟩ := cv (w' := CWs k a ra ia rr ii z2 ++ moW k v y2) hP hD rfl
  refine lv_pop hx hb dL_law_598 rfl ?_
  refine lv_goto (tgt := 1126) hx hb dL_law_599 (by decide) ?_
  exact KK z2 y2 G2 H locs ls hP hD hS hl
set_option maxHeartbeats 4000000 in
set_option maxRecDepth 100000 in
theorem law_case_16 {p : Program} {e : Env} {s : State} {m : MethodId} {below : List Frame} {meth : Method} {c : Code} (l : Launch) {b L : Nat} {xs : Nat → Int32} (hL : L ≤ 3072) (C0 : lw_At p s m meth c b L xs) {D : va_G} {k : Nat → ClassId} (hG : GK D k s) {ad tv ad2 tv2 : Nat → Nat} (hE : EX ad tv (A0 s) s) (hE2 : EY ad2 tv2 (A0 s) s) {a ra ia v : Nat → Nat} {rr ii : Nat → Option Nat} (hq : RQ ra ia rr ii) {i : Int32} (hi0 : 0 ≤ i.toInt) (hi1 : i.toInt + 6 ≤ (L : Int)) {z : CSt} {y : OB} (hk : GLs z y) {H : Heap} {locs : List Loc} {ls : Array Slot} (hP : va_P D vwCl (CWs k a ra ia rr ii z ++ moW k v y) H) (hD : va_D (A0 s) (CWs k a ra ia rr ii z ++ moW k v y)) (hS : va_S (A0 s) s.heap H locs) (hl : lv_has ls 4 [(3, .int i), (2, .ref (v 0)), (1, .ref (a 0)), (0, .ref b)]) (KK : ∀ (z : CSt) (y : OB), GLs z y → ∀ (H : Heap) (locs : List Loc) (ls : Array Slot), va_P D vwCl (CWs k a ra ia rr ii z ++ moW k v y) H → va_D (A0 s) (CWs k a ra ia rr ii z ++ moW k v y) → va_S (A0 s) s.heap H locs → lv_has ls 4 [(3, .int i), (2, .ref (v 0)), (1, .ref (a 0)), (0, .ref b)] → W p l e room_1 s m #[Value.ref b] below meth c H locs 187 14115 (lw_Z below #[Value.ref b] s) (F0 m 1126 ls [])) : W p l e room_1 s m #[Value.ref b] below meth c H locs 187 14115 (lw_Z below #[Value.ref b] s) (F0 m 602 ls []) := by
  obtain ⟨hx, hb, hr, hml, hown, hts, hX, hbl, hlocks, hgv⟩ := id C0
  have hown : s.vm.findClass RL = some m.cls := hown
  have hA : ∀ q : Nat, s.heap.size ≤ q → A0 s q := fun _ h => h
  have hbA : ¬ A0 s b := Nat.not_le.mpr hbl
  refine lv_aload_n hx hb dL_law_602 rfl (lv_at hl 2 rfl) ?_
  refine lv_aload_n hx hb dL_law_603 rfl (lv_at hl 3 rfl) ?_
  refine lv_iload_n hx hb dL_law_604 rfl (lv_at hl 0 rfl) ?_
  refine lv_iconst (v := 1) hx hb dL_law_605 (by decide) ?_
  refine lv_iadd hx hb dL_law_606 ?_
  refine lv_topi (fun w1_1 ew1_1 => ?_)
  have tw1_1 : w1_1.toInt = i.toInt + 1 := ai_add rfl (by decide) ew1_1 (by omega) (by omega)
  refine va_sld hx hb hX hbl hbA hS (i := w1_1) (vp_in_iff.mpr ⟨by omega, by omega⟩) dL_law_607 ?_
  refine lv_topi (fun x1_1 ex1_1 => ?_)
  obtain ⟨r0, z2, y2, t8, t9, G2⟩ := t_felled l D k a ra ia v rr ii hq z y hk x1_1
  refine hc_Vi (As := [.int x1_1]) (rest := []) (n := 1) (wr := moW k v y) hx hb hml hown hts hG hA hP hD hS hl.1 (List.range 149) (List.range' 149 38) (t8 _) (ci := 6) (q0 := 0) rfl rfl gL_law_X8_felled rfl ⟨rfl, rfl, Nat.le_of_ble_eq_true rfl, Nat.le_of_ble_eq_true rfl⟩ (by decide +kernel) (rng_l _ _ _ (CWlen k a ra ia rr ii z)) (rng_r _ _ _ _ (CWlen k a ra ia rr ii z) (MWlen k v y)) nd1 ⟨rfl, rfl, Nat.le_of_ble_eq_true rfl, Nat.le_of_ble_eq_true rfl, Nat.le_of_ble_eq_true rfl⟩ dL_law_608 (fun r1 u1 H locs e1 hP hD hS => ?_)
  obtain ⟨hP, hD⟩ := cv (w' := moW k v y ++ CWs k a ra ia rr ii z2) hP hD rfl
  refine lv_pop hx hb dL_law_611 rfl ?_
  refine lv_aload_n hx hb dL_law_612 rfl (lv_at hl 1 rfl) ?_
  refine lv_aload_n hx hb dL_law_613 rfl (lv_at hl 3 rfl) ?_
  refine lv_iload_n hx hb dL_law_614 rfl (lv_at hl 0 rfl) ?_
  refine lv_iconst (v := 1) hx hb dL_law_615 (by decide) ?_
  refine lv_iadd hx hb dL_law_616 ?_
  refine lv_topi (fun w2_1 ew2_1 => ?_)
  have tw2_1 : w2_1.toInt = i.toInt + 1 := ai_add rfl (by decide) ew2_1 (by omega) (by omega)
  refine va_sld hx hb hX hbl hbA hS (i := w2_1) (vp_in_iff.mpr ⟨by omega, by omega⟩) dL_law_617 ?_
  refine lv_topi (fun x2_1 ex2_1 => ?_)
  have ex1 : x2_1 = x1_1 := by rw [ex2_1, ew2_1, ex1_1, ew1_1]
  rw [← ex1] at t9
  refine hc_Vi (As := [.int x2_1]) (rest := []) (n := 1) (wr := CWs k a ra ia rr ii z2) hx hb hml hown hts hG hA hP hD hS hl.1 (List.range 38) (List.range' 38 149) (t9 _) (ci := 7) (q0 := 0) rfl rfl gL_law_X9_felled rfl ⟨rfl, rfl, Nat.le_of_ble_eq_true rfl, Nat.le_of_ble_eq_true rfl⟩ (by decide +kernel) (rng_l _ _ _ (MWlen k v y)) (rng_r _ _ _ _ (MWlen k v y) (CWlen k a ra ia rr ii z2)) nd2 ⟨rfl, rfl, Nat.le_of_ble_eq_true rfl, Nat.le_of_ble_eq_true rfl, Nat.le_of_ble_eq_true rfl⟩ dL_law_618 (fun r2 u2 H locs e2 hP hD hS => ?_)
  obtain ⟨hP, hD⟩ := cv (w' := CWs k a ra ia rr ii z2 ++ moW k v y2) hP hD rfl
  refine lv_pop hx hb dL_law_621 rfl ?_
  refine lv_goto (tgt := 1126) hx hb dL_law_622 (by decide) ?_
  exact KK z2 y2 G2 H locs ls hP hD hS hl
end
section
/-! the law's cases, on -/
set_option maxHeartbeats 4000000 in
set_option maxRecDepth 100000 in
theorem law_case_17 {p : Program} {e : Env} {s : State} {m : MethodId} {below : List Frame} {meth : Method} {c : Code} (l : Launch) {b L : Nat} {xs : Nat → Int32} (hL : L ≤ 3072) (C0 : lw_At p s m meth c b L xs) {D : va_G} {k : Nat → ClassId} (hG : GK D k s) {ad tv ad2 tv2 : Nat → Nat} (hE : EX ad tv (A0 s) s) (hE2 : EY ad2 tv2 (A0 s) s) {a ra ia v : Nat → Nat} {rr ii : Nat → Option Nat} (hq : RQ ra ia rr ii) {i : Int32} (hi0 : 0 ≤ i.toInt) (hi1 : i.toInt + 6 ≤ (L : Int)) {z : CSt} {y : OB} (hk : GLs z y) {H : Heap} {locs : List Loc} {ls : Array Slot} (hP : va_P D vwCl (CWs k a ra ia rr ii z ++ moW k v y) H) (hD : va_D (A0 s) (CWs k a ra ia rr ii z ++ moW k v y)) (hS : va_S (A0 s) s.heap H locs) (hl : lv_has ls 4 [(3, .int i), (2, .ref (v 0)), (1, .ref (a 0)), (0, .ref b)]) (KK : ∀ (z : CSt) (y : OB), GLs z y → ∀ (H : Heap) (locs : List Loc) (ls : Array Slot), va_P D vwCl (CWs k a ra ia rr ii z ++ moW k v y) H → va_D (A0 s) (CWs k a ra ia rr ii z ++ moW k v y) → va_S (A0 s) s.heap H locs → lv_has ls 4 [(3, .int i), (2, .ref (v 0)), (1, .ref (a 0)), (0, .ref b)] → W p l e room_1 s m #[Value.ref b] below meth c H locs 187 14115 (lw_Z below #[Value.ref b] s) (F0 m 1126 ls [])) : W p l e room_1 s m #[Value.ref b] below meth c H locs 187 14115 (lw_Z below #[Value.ref b] s) (F0 m 625 ls []) := by
  obtain ⟨hx, hb, hr, hml, hown, hts, hX, hbl, hlocks, hgv⟩ := id C0
  have hown : s.vm.findClass RL = some m.cls := hown
  have hA : ∀ q : Nat, s.heap.size ≤ q → A0 s q := fun _ h => h
  have hbA : ¬ A0 s b := Nat.not_le.mpr hbl
  refine lv_aload_n hx hb dL_law_625 rfl (lv_at hl 2 rfl) ?_
  refine lv_aload_n hx hb dL_law_626 rfl (lv_at hl 3 rfl) ?_
  refine lv_iload_n hx hb dL_law_627 rfl (lv_at hl 0 rfl) ?_
  refine lv_iconst (v := 1) hx hb dL_law_628 (by decide) ?_
  refine lv_iadd hx hb dL_law_629 ?_
  refine lv_topi (fun w1_1 ew1_1 => ?_)
  have tw1_1 : w1_1.toInt = i.toInt + 1 := ai_add rfl (by decide) ew1_1 (by omega) (by omega)
  refine va_sld hx hb hX hbl hbA hS (i := w1_1) (vp_in_iff.mpr ⟨by omega, by omega⟩) dL_law_630 ?_
  refine lv_topi (fun x1_1 ex1_1 => ?_)
  obtain ⟨r0, z2, y2, t8, t9, G2⟩ := t_tall l D k a ra ia v rr ii hq z y hk x1_1
  refine hc_Vi (As := [.int x1_1]) (rest := []) (n := 1) (wr := moW k v y) hx hb hml hown hts hG hA hP hD hS hl.1 (List.range 149) (List.range' 149 38) (t8 _) (ci := 6) (q0 := 0) rfl rfl gL_law_X8_tall rfl ⟨rfl, rfl, Nat.le_of_ble_eq_true rfl, Nat.le_of_ble_eq_true rfl⟩ (by decide +kernel) (rng_l _ _ _ (CWlen k a ra ia rr ii z)) (rng_r _ _ _ _ (CWlen k a ra ia rr ii z) (MWlen k v y)) nd1 ⟨rfl, rfl, Nat.le_of_ble_eq_true rfl, Nat.le_of_ble_eq_true rfl, Nat.le_of_ble_eq_true rfl⟩ dL_law_631 (fun r1 u1 H locs e1 hP hD hS => ?_)
  obtain ⟨hP, hD⟩ := cv (w' := moW k v y ++ CWs k a ra ia rr ii z2) hP hD rfl
  refine lv_pop hx hb dL_law_634 rfl ?_
  refine lv_aload_n hx hb dL_law_635 rfl (lv_at hl 1 rfl) ?_
  refine lv_aload_n hx hb dL_law_636 rfl (lv_at hl 3 rfl) ?_
  refine lv_iload_n hx hb dL_law_637 rfl (lv_at hl 0 rfl) ?_
  refine lv_iconst (v := 1) hx hb dL_law_638 (by decide) ?_
  refine lv_iadd hx hb dL_law_639 ?_
  refine lv_topi (fun w2_1 ew2_1 => ?_)
  have tw2_1 : w2_1.toInt = i.toInt + 1 := ai_add rfl (by decide) ew2_1 (by omega) (by omega)
  refine va_sld hx hb hX hbl hbA hS (i := w2_1) (vp_in_iff.mpr ⟨by omega, by omega⟩) dL_law_640 ?_
  refine lv_topi (fun x2_1 ex2_1 => ?_)
  have ex1 : x2_1 = x1_1 := by rw [ex2_1, ew2_1, ex1_1, ew1_1]
  rw [← ex1] at t9
  refine hc_Vi (As := [.int x2_1]) (rest := []) (n := 1) (wr := CWs k a ra ia rr ii z2) hx hb hml hown hts hG hA hP hD hS hl.1 (List.range 38) (List.range' 38 149) (t9 _) (ci := 7) (q0 := 0) rfl rfl gL_law_X9_tall rfl ⟨rfl, rfl, Nat.le_of_ble_eq_true rfl, Nat.le_of_ble_eq_true rfl⟩ (by decide +kernel) (rng_l _ _ _ (MWlen k v y)) (rng_r _ _ _ _ (MWlen k v y) (CWlen k a ra ia rr ii z2)) nd2 ⟨rfl, rfl, Nat.le_of_ble_eq_true rfl, Nat.le_of_ble_eq_true rfl, Nat.le_of_ble_eq_true rfl⟩ dL_law_641 (fun r2 u2 H locs e2 hP hD hS => ?_)
  obtain ⟨hP, hD⟩ := cv (w' := CWs k a ra ia rr ii z2 ++ moW k v y2) hP hD rfl
  refine lv_pop hx hb dL_law_644 rfl ?_
  refine lv_goto (tgt := 1126) hx hb dL_law_645 (by decide) ?_
  exact KK z2 y2 G2 H locs ls hP hD hS hl
set_option maxHeartbeats 4000000 in
set_option maxRecDepth 100000 in
theorem law_case_18 {p : Program} {e : Env} {s : State} {m : MethodId} {below : List Frame} {meth : Method} {c : Code} (l : Launch) {b L : Nat} {xs : Nat → Int32} (hL : L ≤ 3072) (C0 : lw_At p s m meth c b L xs) {D : va_G} {k : Nat → ClassId} (hG : GK D k s) {ad tv ad2 tv2 : Nat → Nat} (hE : EX ad tv (A0 s) s) (hE2 : EY ad2 tv2 (A0 s) s) {a ra ia v : Nat → Nat} {rr ii : Nat → Option Nat} (hq : RQ ra ia rr ii) {i : Int32} (hi0 : 0 ≤ i.toInt) (hi1 : i.toInt + 6 ≤ (L : Int)) {z : CSt} {y : OB} (hk : GLs z y) {H : Heap} {locs : List Loc} {ls : Array Slot} (hP : va_P D vwCl (CWs k a ra ia rr ii z ++ moW k v y) H) (hD : va_D (A0 s) (CWs k a ra ia rr ii z ++ moW k v y)) (hS : va_S (A0 s) s.heap H locs) (hl : lv_has ls 4 [(3, .int i), (2, .ref (v 0)), (1, .ref (a 0)), (0, .ref b)]) (KK : ∀ (z : CSt) (y : OB), GLs z y → ∀ (H : Heap) (locs : List Loc) (ls : Array Slot), va_P D vwCl (CWs k a ra ia rr ii z ++ moW k v y) H → va_D (A0 s) (CWs k a ra ia rr ii z ++ moW k v y) → va_S (A0 s) s.heap H locs → lv_has ls 4 [(3, .int i), (2, .ref (v 0)), (1, .ref (a 0)), (0, .ref b)] → W p l e room_1 s m #[Value.ref b] below meth c H locs 187 14115 (lw_Z below #[Value.ref b] s) (F0 m 1126 ls [])) : W p l e room_1 s m #[Value.ref b] below meth c H locs 187 14115 (lw_Z below #[Value.ref b] s) (F0 m 648 ls []) := by
  obtain ⟨hx, hb, hr, hml, hown, hts, hX, hbl, hlocks, hgv⟩ := id C0
  have hown : s.vm.findClass RL = some m.cls := hown
  have hA : ∀ q : Nat, s.heap.size ≤ q → A0 s q := fun _ h => h
  have hbA : ¬ A0 s b := Nat.not_le.mpr hbl
  refine lv_aload_n hx hb dL_law_648 rfl (lv_at hl 2 rfl) ?_
  refine lv_aload_n hx hb dL_law_649 rfl (lv_at hl 3 rfl) ?_
  refine lv_iload_n hx hb dL_law_650 rfl (lv_at hl 0 rfl) ?_
  refine lv_iconst (v := 1) hx hb dL_law_651 (by decide) ?_
  refine lv_iadd hx hb dL_law_652 ?_
  refine lv_topi (fun w1_1 ew1_1 => ?_)
  have tw1_1 : w1_1.toInt = i.toInt + 1 := ai_add rfl (by decide) ew1_1 (by omega) (by omega)
  refine va_sld hx hb hX hbl hbA hS (i := w1_1) (vp_in_iff.mpr ⟨by omega, by omega⟩) dL_law_653 ?_
  refine lv_topi (fun x1_1 ex1_1 => ?_)
  obtain ⟨r0, z2, y2, t8, t9, G2⟩ := t_ease l D k a ra ia v rr ii hq z y hk x1_1
  refine hc_Vi (As := [.int x1_1]) (rest := []) (n := 1) (wr := moW k v y) hx hb hml hown hts hG hA hP hD hS hl.1 (List.range 149) (List.range' 149 38) (t8 _) (ci := 6) (q0 := 0) rfl rfl gL_law_X8_ease rfl ⟨rfl, rfl, Nat.le_of_ble_eq_true rfl, Nat.le_of_ble_eq_true rfl⟩ (by decide +kernel) (rng_l _ _ _ (CWlen k a ra ia rr ii z)) (rng_r _ _ _ _ (CWlen k a ra ia rr ii z) (MWlen k v y)) nd1 ⟨rfl, rfl, Nat.le_of_ble_eq_true rfl, Nat.le_of_ble_eq_true rfl, Nat.le_of_ble_eq_true rfl⟩ dL_law_654 (fun r1 u1 H locs e1 hP hD hS => ?_)
  obtain ⟨hP, hD⟩ := cv (w' := moW k v y ++ CWs k a ra ia rr ii z2) hP hD rfl
  refine lv_pop hx hb dL_law_657 rfl ?_
  refine lv_aload_n hx hb dL_law_658 rfl (lv_at hl 1 rfl) ?_
  refine lv_aload_n hx hb dL_law_659 rfl (lv_at hl 3 rfl) ?_
  refine lv_iload_n hx hb dL_law_660 rfl (lv_at hl 0 rfl) ?_
  refine lv_iconst (v := 1) hx hb dL_law_661 (by decide) ?_
  refine lv_iadd hx hb dL_law_662 ?_
  refine lv_topi (fun w2_1 ew2_1 => ?_)
  have tw2_1 : w2_1.toInt = i.toInt + 1 := ai_add rfl (by decide) ew2_1 (by omega) (by omega)
  refine va_sld hx hb hX hbl hbA hS (i := w2_1) (vp_in_iff.mpr ⟨by omega, by omega⟩) dL_law_663 ?_
  refine lv_topi (fun x2_1 ex2_1 => ?_)
  have ex1 : x2_1 = x1_1 := by rw [ex2_1, ew2_1, ex1_1, ew1_1]
  rw [← ex1] at t9
  refine hc_Vi (As := [.int x2_1]) (rest := []) (n := 1) (wr := CWs k a ra ia rr ii z2) hx hb hml hown hts hG hA hP hD hS hl.1 (List.range 38) (List.range' 38 149) (t9 _) (ci := 7) (q0 := 0) rfl rfl gL_law_X9_ease rfl ⟨rfl, rfl, Nat.le_of_ble_eq_true rfl, Nat.le_of_ble_eq_true rfl⟩ (by decide +kernel) (rng_l _ _ _ (MWlen k v y)) (rng_r _ _ _ _ (MWlen k v y) (CWlen k a ra ia rr ii z2)) nd2 ⟨rfl, rfl, Nat.le_of_ble_eq_true rfl, Nat.le_of_ble_eq_true rfl, Nat.le_of_ble_eq_true rfl⟩ dL_law_664 (fun r2 u2 H locs e2 hP hD hS => ?_)
  obtain ⟨hP, hD⟩ := cv (w' := CWs k a ra ia rr ii z2 ++ moW k v y2) hP hD rfl
  refine lv_pop hx hb dL_law_667 rfl ?_
  refine lv_goto (tgt := 1126) hx hb dL_law_668 (by decide) ?_
  exact KK z2 y2 G2 H locs ls hP hD hS hl
set_option maxHeartbeats 4000000 in
set_option maxRecDepth 100000 in
theorem law_case_19 {p : Program} {e : Env} {s : State} {m : MethodId} {below : List Frame} {meth : Method} {c : Code} (l : Launch) {b L : Nat} {xs : Nat → Int32} (hL : L ≤ 3072) (C0 : lw_At p s m meth c b L xs) {D : va_G} {k : Nat → ClassId} (hG : GK D k s) {ad tv ad2 tv2 : Nat → Nat} (hE : EX ad tv (A0 s) s) (hE2 : EY ad2 tv2 (A0 s) s) {a ra ia v : Nat → Nat} {rr ii : Nat → Option Nat} (hq : RQ ra ia rr ii) {i : Int32} (hi0 : 0 ≤ i.toInt) (hi1 : i.toInt + 6 ≤ (L : Int)) {z : CSt} {y : OB} (hk : GLs z y) {H : Heap} {locs : List Loc} {ls : Array Slot} (hP : va_P D vwCl (CWs k a ra ia rr ii z ++ moW k v y) H) (hD : va_D (A0 s) (CWs k a ra ia rr ii z ++ moW k v y)) (hS : va_S (A0 s) s.heap H locs) (hl : lv_has ls 4 [(3, .int i), (2, .ref (v 0)), (1, .ref (a 0)), (0, .ref b)]) (KK : ∀ (z : CSt) (y : OB), GLs z y → ∀ (H : Heap) (locs : List Loc) (ls : Array Slot), va_P D vwCl (CWs k a ra ia rr ii z ++ moW k v y) H → va_D (A0 s) (CWs k a ra ia rr ii z ++ moW k v y) → va_S (A0 s) s.heap H locs → lv_has ls 4 [(3, .int i), (2, .ref (v 0)), (1, .ref (a 0)), (0, .ref b)] → W p l e room_1 s m #[Value.ref b] below meth c H locs 187 14115 (lw_Z below #[Value.ref b] s) (F0 m 1126 ls [])) : W p l e room_1 s m #[Value.ref b] below meth c H locs 187 14115 (lw_Z below #[Value.ref b] s) (F0 m 671 ls []) := by
  obtain ⟨hx, hb, hr, hml, hown, hts, hX, hbl, hlocks, hgv⟩ := id C0
  have hown : s.vm.findClass RL = some m.cls := hown
  have hA : ∀ q : Nat, s.heap.size ≤ q → A0 s q := fun _ h => h
  have hbA : ¬ A0 s b := Nat.not_le.mpr hbl
  refine lv_aload_n hx hb dL_law_671 rfl (lv_at hl 2 rfl) ?_
  refine lv_aload_n hx hb dL_law_672 rfl (lv_at hl 3 rfl) ?_
  refine lv_iload_n hx hb dL_law_673 rfl (lv_at hl 0 rfl) ?_
  refine lv_iconst (v := 1) hx hb dL_law_674 (by decide) ?_
  refine lv_iadd hx hb dL_law_675 ?_
  refine lv_topi (fun w1_1 ew1_1 => ?_)
  have tw1_1 : w1_1.toInt = i.toInt + 1 := ai_add rfl (by decide) ew1_1 (by omega) (by omega)
  refine va_sld hx hb hX hbl hbA hS (i := w1_1) (vp_in_iff.mpr ⟨by omega, by omega⟩) dL_law_676 ?_
  refine lv_topi (fun x1_1 ex1_1 => ?_)
  obtain ⟨r0, r0', z2, y2, t8, t9, G2⟩ := t_way l D k a ra ia v rr ii hq z y hk x1_1
  refine hc_Vi (As := [.int x1_1]) (rest := []) (n := 1) (wr := moW k v y) hx hb hml hown hts hG hA hP hD hS hl.1 (List.range 149) (List.range' 149 38) (t8 _) (ci := 6) (q0 := 0) rfl rfl gL_law_X8_way rfl ⟨rfl, rfl, Nat.le_of_ble_eq_true rfl, Nat.le_of_ble_eq_true rfl⟩ (by decide +kernel) (rng_l _ _ _ (CWlen k a ra ia rr ii z)) (rng_r _ _ _ _ (CWlen k a ra ia rr ii z) (MWlen k v y)) nd1 ⟨rfl, rfl, Nat.le_of_ble_eq_true rfl, Nat.le_of_ble_eq_true rfl, Nat.le_of_ble_eq_true rfl⟩ dL_law_677 (fun r1 u1 H locs e1 hP hD hS => ?_)
  obtain ⟨hP, hD⟩ := cv (w' := moW k v y ++ CWs k a ra ia rr ii z2) hP hD rfl
  refine lv_pop hx hb dL_law_680 rfl ?_
  refine lv_aload_n hx hb dL_law_681 rfl (lv_at hl 1 rfl) ?_
  refine lv_aload_n hx hb dL_law_682 rfl (lv_at hl 3 rfl) ?_
  refine lv_iload_n hx hb dL_law_683 rfl (lv_at hl 0 rfl) ?_
  refine lv_iconst (v := 1) hx hb dL_law_684 (by decide) ?_
  refine lv_iadd hx hb dL_law_685 ?_
  refine lv_topi (fun w2_1 ew2_1 => ?_)
  have tw2_1 : w2_1.toInt = i.toInt + 1 := ai_add rfl (by decide) ew2_1 (by omega) (by omega)
  refine va_sld hx hb hX hbl hbA hS (i := w2_1) (vp_in_iff.mpr ⟨by omega, by omega⟩) dL_law_686 ?_
  refine lv_topi (fun x2_1 ex2_1 => ?_)
  have ex1 : x2_1 = x1_1 := by rw [ex2_1, ew2_1, ex1_1, ew1_1]
  rw [← ex1] at t9
  refine hc_Vi (As := [.int x2_1]) (rest := []) (n := 1) (wr := CWs k a ra ia rr ii z2) hx hb hml hown hts hG hA hP hD hS hl.1 (List.range 38) (List.range' 38 149) (t9 _) (ci := 7) (q0 := 0) rfl rfl gL_law_X9_way rfl ⟨rfl, rfl, Nat.le_of_ble_eq_true rfl, Nat.le_of_ble_eq_true rfl⟩ (by decide +kernel) (rng_l _ _ _ (MWlen k v y)) (rng_r _ _ _ _ (MWlen k v y) (CWlen k a ra ia rr ii z2)) nd2 ⟨rfl, rfl, Nat.le_of_ble_eq_true rfl, Nat.le_of_ble_eq_true rfl, Nat.le_of_ble_eq_true rfl⟩ dL_law_687 (fun r2 u2 H locs e2 hP hD hS => ?_)
  obtain ⟨hP, hD⟩ := cv (w' := CWs k a ra ia rr ii z2 ++ moW k v y2) hP hD rfl
  refine lv_pop hx hb dL_law_690 rfl ?_
  refine lv_goto (tgt := 1126) hx hb dL_law_691 (by decide) ?_
  exact KK z2 y2 G2 H locs ls hP hD hS hl
set_option maxHeartbeats 4000000 in
set_option maxRecDepth 100000 in
theorem law_case_20 {p : Program} {e : Env} {s : State} {m : MethodId} {below : List Frame} {meth : Method} {c : Code} (l : Launch) {b L : Nat} {xs : Nat → Int32} (hL : L ≤ 3072) (C0 : lw_At p s m meth c b L xs) {D : va_G} {k : Nat → ClassId} (hG : GK D k s) {ad tv ad2 tv2 : Nat → Nat} (hE : EX ad tv (A0 s) s) (hE2 : EY ad2 tv2 (A0 s) s) {a ra ia v : Nat → Nat} {rr ii : Nat → Option Nat} (hq : RQ ra ia rr ii) {i : Int32} (hi0 : 0 ≤ i.toInt) (hi1 : i.toInt + 6 ≤ (L : Int)) {z : CSt} {y : OB} (hk : GLs z y) {H : Heap} {locs : List Loc} {ls : Array Slot} (hP : va_P D vwCl (CWs k a ra ia rr ii z ++ moW k v y) H) (hD : va_D (A0 s) (CWs k a ra ia rr ii z ++ moW k v y)) (hS : va_S (A0 s) s.heap H locs) (hl : lv_has ls 4 [(3, .int i), (2, .ref (v 0)), (1, .ref (a 0)), (0, .ref b)]) (KK : ∀ (z : CSt) (y : OB), GLs z y → ∀ (H : Heap) (locs : List Loc) (ls : Array Slot), va_P D vwCl (CWs k a ra ia rr ii z ++ moW k v y) H → va_D (A0 s) (CWs k a ra ia rr ii z ++ moW k v y) → va_S (A0 s) s.heap H locs → lv_has ls 4 [(3, .int i), (2, .ref (v 0)), (1, .ref (a 0)), (0, .ref b)] → W p l e room_1 s m #[Value.ref b] below meth c H locs 187 14115 (lw_Z below #[Value.ref b] s) (F0 m 1126 ls [])) : W p l e room_1 s m #[Value.ref b] below meth c H locs 187 14115 (lw_Z below #[Value.ref b] s) (F0 m 694 ls []) := by
  obtain ⟨hx, hb, hr, hml, hown, hts, hX, hbl, hlocks, hgv⟩ := id C0
  have hown : s.vm.findClass RL = some m.cls := hown
  have hA : ∀ q : Nat, s.heap.size ≤ q → A0 s q := fun _ h => h
  have hbA : ¬ A0 s b := Nat.not_le.mpr hbl
  refine lv_aload_n hx hb dL_law_694 rfl (lv_at hl 2 rfl) ?_
  refine lv_aload_n hx hb dL_law_695 rfl (lv_at hl 3 rfl) ?_
  refine lv_iload_n hx hb dL_law_696 rfl (lv_at hl 0 rfl) ?_
  refine lv_iconst (v := 1) hx hb dL_law_697 (by decide) ?_
  refine lv_iadd hx hb dL_law_698 ?_
  refine lv_topi (fun w1_1 ew1_1 => ?_)
  have tw1_1 : w1_1.toInt = i.toInt + 1 := ai_add rfl (by decide) ew1_1 (by omega) (by omega)
  refine va_sld hx hb hX hbl hbA hS (i := w1_1) (vp_in_iff.mpr ⟨by omega, by omega⟩) dL_law_699 ?_
  refine lv_topi (fun x1_1 ex1_1 => ?_)
  obtain ⟨r0, z2, y2, t8, t9, G2⟩ := t_most l D k a ra ia v rr ii hq z y hk x1_1
  refine hc_Vi (As := [.int x1_1]) (rest := []) (n := 1) (wr := moW k v y) hx hb hml hown hts hG hA hP hD hS hl.1 (List.range 149) (List.range' 149 38) (t8 _) (ci := 6) (q0 := 0) rfl rfl gL_law_X8_most rfl ⟨rfl, rfl, Nat.le_of_ble_eq_true rfl, Nat.le_of_ble_eq_true rfl⟩ (by decide +kernel) (rng_l _ _ _ (CWlen k a ra ia rr ii z)) (rng_r _ _ _ _ (CWlen k a ra ia rr ii z) (MWlen k v y)) nd1 ⟨rfl, rfl, Nat.le_of_ble_eq_true rfl, Nat.le_of_ble_eq_true rfl, Nat.le_of_ble_eq_true rfl⟩ dL_law_700 (fun r1 u1 H locs e1 hP hD hS => ?_)
  obtain ⟨hP, hD⟩ := cv (w' := moW k v y ++ CWs k a ra ia rr ii z2) hP hD rfl
  refine lv_pop hx hb dL_law_703 rfl ?_
  refine lv_aload_n hx hb dL_law_704 rfl (lv_at hl 1 rfl) ?_
  refine lv_aload_n hx hb dL_law_705 rfl (lv_at hl 3 rfl) ?_
  refine lv_iload_n hx hb dL_law_706 rfl (lv_at hl 0 rfl) ?_
  refine lv_iconst (v := 1) hx hb dL_law_707 (by decide) ?_
  refine lv_iadd hx hb dL_law_708 ?_
  refine lv_topi (fun w2_1 ew2_1 => ?_)
  have tw2_1 : w2_1.toInt = i.toInt + 1 := ai_add rfl (by decide) ew2_1 (by omega) (by omega)
  refine va_sld hx hb hX hbl hbA hS (i := w2_1) (vp_in_iff.mpr ⟨by omega, by omega⟩) dL_law_709 ?_
  refine lv_topi (fun x2_1 ex2_1 => ?_)
  have ex1 : x2_1 = x1_1 := by rw [ex2_1, ew2_1, ex1_1, ew1_1]
  rw [← ex1] at t9
  refine hc_Vi (As := [.int x2_1]) (rest := []) (n := 1) (wr := CWs k a ra ia rr ii z2) hx hb hml hown hts hG hA hP hD hS hl.1 (List.range 38) (List.range' 38 149) (t9 _) (ci := 7) (q0 := 0) rfl rfl gL_law_X9_most rfl ⟨rfl, rfl, Nat.le_of_ble_eq_true rfl, Nat.le_of_ble_eq_true rfl⟩ (by decide +kernel) (rng_l _ _ _ (MWlen k v y)) (rng_r _ _ _ _ (MWlen k v y) (CWlen k a ra ia rr ii z2)) nd2 ⟨rfl, rfl, Nat.le_of_ble_eq_true rfl, Nat.le_of_ble_eq_true rfl, Nat.le_of_ble_eq_true rfl⟩ dL_law_710 (fun r2 u2 H locs e2 hP hD hS => ?_)
  obtain ⟨hP, hD⟩ := cv (w' := CWs k a ra ia rr ii z2 ++ moW k v y2) hP hD rfl
  refine lv_pop hx hb dL_law_713 rfl ?_
  refine lv_goto (tgt := 1126) hx hb dL_law_714 (by decide) ?_
  exact KK z2 y2 G2 H locs ls hP hD hS hl
set_option maxHeartbeats 4000000 in
set_option maxRecDepth 100000 in
theorem law_case_21 {p : Program} {e : Env} {s : State} {m : MethodId} {below : List Frame} {meth : Method} {c : Code} (l : Launch) {b L : Nat} {xs : Nat → Int32} (hL : L ≤ 3072) (C0 : lw_At p s m meth c b L xs) {D : va_G} {k : Nat → ClassId} (hG : GK D k s) {ad tv ad2 tv2 : Nat → Nat} (hE : EX ad tv (A0 s) s) (hE2 : EY ad2 tv2 (A0 s) s) {a ra ia v : Nat → Nat} {rr ii : Nat → Option Nat} (hq : RQ ra ia rr ii) {i : Int32} (hi0 : 0 ≤ i.toInt) (hi1 : i.toInt + 6 ≤ (L : Int)) {z : CSt} {y : OB} (hk : GLs z y) {H : Heap} {locs : List Loc} {ls : Array Slot} (hP : va_P D vwCl (CWs k a ra ia rr ii z ++ moW k v y) H) (hD : va_D (A0 s) (CWs k a ra ia rr ii z ++ moW k v y)) (hS : va_S (A0 s) s.heap H locs) (hl : lv_has ls 4 [(3, .int i), (2, .ref (v 0)), (1, .ref (a 0)), (0, .ref b)]) (KK : ∀ (z : CSt) (y : OB), GLs z y → ∀ (H : Heap) (locs : List Loc) (ls : Array Slot), va_P D vwCl (CWs k a ra ia rr ii z ++ moW k v y) H → va_D (A0 s) (CWs k a ra ia rr ii z ++ moW k v y) → va_S (A0 s) s.heap H locs → lv_has ls 4 [(3, .int i), (2, .ref (v 0)), (1, .ref (a 0)), (0, .ref b)] → W p l e room_1 s m #[Value.ref b] below meth c H locs 187 14115 (lw_Z below #[Value.ref b] s) (F0 m 1126 ls [])) : W p l e room_1 s m #[Value.ref b] below meth c H locs 187 14115 (lw_Z below #[Value.ref b] s) (F0 m 717 ls []) := by
  obtain ⟨hx, hb, hr, hml, hown, hts, hX, hbl, hlocks, hgv⟩ := id C0
  have hown : s.vm.findClass RL = some m.cls := hown
  have hA : ∀ q : Nat, s.heap.size ≤ q → A0 s q := fun _ h => h
  have hbA : ¬ A0 s b := Nat.not_le.mpr hbl
  refine lv_aload_n hx hb dL_law_717 rfl (lv_at hl 2 rfl) ?_
  refine lv_aload_n hx hb dL_law_718 rfl (lv_at hl 3 rfl) ?_
  refine lv_iload_n hx hb dL_law_719 rfl (lv_at hl 0 rfl) ?_
  refine lv_iconst (v := 1) hx hb dL_law_720 (by decide) ?_
  refine lv_iadd hx hb dL_law_721 ?_
  refine lv_topi (fun w1_1 ew1_1 => ?_)
  have tw1_1 : w1_1.toInt = i.toInt + 1 := ai_add rfl (by decide) ew1_1 (by omega) (by omega)
  refine va_sld hx hb hX hbl hbA hS (i := w1_1) (vp_in_iff.mpr ⟨by omega, by omega⟩) dL_law_722 ?_
  refine lv_topi (fun x1_1 ex1_1 => ?_)
  refine lv_aload_n hx hb dL_law_723 rfl (lv_at hl 3 rfl) ?_
  refine lv_iload_n hx hb dL_law_724 rfl (lv_at hl 0 rfl) ?_
  refine lv_iconst (v := 2) hx hb dL_law_725 (by decide) ?_
  refine lv_iadd hx hb dL_law_726 ?_
  refine lv_topi (fun w1_2 ew1_2 => ?_)
  have tw1_2 : w1_2.toInt = i.toInt + 2 := ai_add rfl (by decide) ew1_2 (by omega) (by omega)
  refine va_sld hx hb hX hbl hbA hS (i := w1_2) (vp_in_iff.mpr ⟨by omega, by omega⟩) dL_law_727 ?_
  refine lv_topi (fun x1_2 ex1_2 => ?_)
  obtain ⟨r0, z2, y2, t8, t9, G2⟩ := t_heavy l D k a ra ia v rr ii hq z y hk x1_1 x1_2
  refine hc_Vi (As := [.int x1_1, .int x1_2]) (rest := []) (n := 2) (wr := moW k v y) hx hb hml hown hts hG hA hP hD hS hl.1 (List.range 149) (List.range' 149 38) (t8 _) (ci := 6) (q0 := 0) rfl rfl gL_law_X8_heavy rfl ⟨rfl, rfl, Nat.le_of_ble_eq_true rfl, Nat.le_of_ble_eq_true rfl⟩ (by decide +kernel) (rng_l _ _ _ (CWlen k a ra ia rr ii z)) (rng_r _ _ _ _ (CWlen k a ra ia rr ii z) (MWlen k v y)) nd1 ⟨rfl, rfl, Nat.le_of_ble_eq_true rfl, Nat.le_of_ble_eq_true rfl, Nat.le_of_ble_eq_true rfl⟩ dL_law_728 (fun r1 u1 H locs e1 hP hD hS => ?_)
  obtain ⟨hP, hD⟩ := cv (w' := moW k v y ++ CWs k a ra ia rr ii z2) hP hD rfl
  refine lv_pop hx hb dL_law_731 rfl ?_
  refine lv_aload_n hx hb dL_law_732 rfl (lv_at hl 1 rfl) ?_
  refine lv_aload_n hx hb dL_law_733 rfl (lv_at hl 3 rfl) ?_
  refine lv_iload_n hx hb dL_law_734 rfl (lv_at hl 0 rfl) ?_
  refine lv_iconst (v := 1) hx hb dL_law_735 (by decide) ?_
  refine lv_iadd hx hb dL_law_736 ?_
  refine lv_topi (fun w2_1 ew2_1 => ?_)
  have tw2_1 : w2_1.toInt = i.toInt + 1 := ai_add rfl (by decide) ew2_1 (by omega) (by omega)
  refine va_sld hx hb hX hbl hbA hS (i := w2_1) (vp_in_iff.mpr ⟨by omega, by omega⟩) dL_law_737 ?_
  refine lv_topi (fun x2_1 ex2_1 => ?_)
  refine lv_aload_n hx hb dL_law_738 rfl (lv_at hl 3 rfl) ?_
  refine lv_iload_n hx hb dL_law_739 rfl (lv_at hl 0 rfl) ?_
  refine lv_iconst (v := 2) hx hb dL_law_740 (by decide) ?_
  refine lv_iadd hx hb dL_law_741 ?_
  refine lv_topi (fun w2_2 ew2_2 => ?_)
  have tw2_2 : w2_2.toInt = i.toInt + 2 := ai_add rfl (by decide) ew2_2 (by omega) (by omega)
  refine va_sld hx hb hX hbl hbA hS (i := w2_2) (vp_in_iff.mpr ⟨by omega, by omega⟩) dL_law_742 ?_
  refine lv_topi (fun x2_2 ex2_2 => ?_)
  have ex1 : x2_1 = x1_1 := by rw [ex2_1, ew2_1, ex1_1, ew1_1]
  rw [← ex1] at t9
  have ex2 : x2_2 = x1_2 := by rw [ex2_2, ew2_2, ex1_2, ew1_2]
  rw [← ex2] at t9
  refine hc_Vi (As := [.int x2_1, .int x2_2]) (rest := []) (n := 2) (wr := CWs k a ra ia rr ii z2) hx hb hml hown hts hG hA hP hD hS hl.1 (List.range 38) (List.range' 38 149) (t9 _) (ci := 7) (q0 := 0) rfl rfl gL_law_X9_heavy rfl ⟨rfl, rfl, Nat.le_of_ble_eq_true rfl, Nat.le_of_ble_eq_true rfl⟩ (by decide +kernel) (rng_l _ _ _ (MWlen k v y)) (rng_r _ _ _ _ (MWlen k v y) (CWlen k a ra ia rr ii z2)) nd2 ⟨rfl, rfl, Nat.le_of_ble_eq_true rfl, Nat.le_of_ble_eq_true rfl, Nat.le_of_ble_eq_true rfl⟩ dL_law_743 (fun r2 u2 H locs e2 hP hD hS => ?_)
  obtain ⟨hP, hD⟩ := cv (w' := CWs k a ra ia rr ii z2 ++ moW k v y2) hP hD rfl
  refine lv_pop hx hb dL_law_746 rfl ?_
  refine lv_goto (tgt := 1126) hx hb dL_law_747 (by decide) ?_
  exact KK z2 y2 G2 H locs ls hP hD hS hl
set_option maxHeartbeats 4000000 in
set_option maxRecDepth 100000 in
theorem law_case_22 {p : Program} {e : Env} {s : State} {m : MethodId} {below : List Frame} {meth : Method} {c : Code} (l : Launch) {b L : Nat} {xs : Nat → Int32} (hL : L ≤ 3072) (C0 : lw_At p s m meth c b L xs) {D : va_G} {k : Nat → ClassId} (hG : GK D k s) {ad tv ad2 tv2 : Nat → Nat} (hE : EX ad tv (A0 s) s) (hE2 : EY ad2 tv2 (A0 s) s) {a ra ia v : Nat → Nat} {rr ii : Nat → Option Nat} (hq : RQ ra ia rr ii) {i : Int32} (hi0 : 0 ≤ i.toInt) (hi1 : i.toInt + 6 ≤ (L : Int)) {z : CSt} {y : OB} (hk : GLs z y) {H : Heap} {locs : List Loc} {ls : Array Slot} (hP : va_P D vwCl (CWs k a ra ia rr ii z ++ moW k v y) H) (hD : va_D (A0 s) (CWs k a ra ia rr ii z ++ moW k v y)) (hS : va_S (A0 s) s.heap H locs) (hl : lv_has ls 4 [(3, .int i), (2, .ref (v 0)), (1, .ref (a 0)), (0, .ref b)]) (KK : ∀ (z : CSt) (y : OB), GLs z y → ∀ (H : Heap) (locs : List Loc) (ls : Array Slot), va_P D vwCl (CWs k a ra ia rr ii z ++ moW k v y) H → va_D (A0 s) (CWs k a ra ia rr ii z ++ moW k v y) → va_S (A0 s) s.heap H locs → lv_has ls 4 [(3, .int i), (2, .ref (v 0)), (1, .ref (a 0)), (0, .ref b)] → W p l e room_1 s m #[Value.ref b] below meth c H locs 187 14115 (lw_Z below #[Value.ref b] s) (F0 m 1126 ls [])) : W p l e room_1 s m #[Value.ref b] below meth c H locs 187 14115 (lw_Z below #[Value.ref b] s) (F0 m 750 ls []) := by
  obtain ⟨hx, hb, hr, hml, hown, hts, hX, hbl, hlocks, hgv⟩ := id C0
  have hown : s.vm.findClass RL = some m.cls := hown
  have hA : ∀ q : Nat, s.heap.size ≤ q → A0 s q := fun _ h => h
  have hbA : ¬ A0 s b := Nat.not_le.mpr hbl
  refine lv_aload_n hx hb dL_law_750 rfl (lv_at hl 2 rfl) ?_
  refine lv_aload_n hx hb dL_law_751 rfl (lv_at hl 3 rfl) ?_
  refine lv_iload_n hx hb dL_law_752 rfl (lv_at hl 0 rfl) ?_
  refine lv_iconst (v := 1) hx hb dL_law_753 (by decide) ?_
  refine lv_iadd hx hb dL_law_754 ?_
  refine lv_topi (fun w1_1 ew1_1 => ?_)
  have tw1_1 : w1_1.toInt = i.toInt + 1 := ai_add rfl (by decide) ew1_1 (by omega) (by omega)
  refine va_sld hx hb hX hbl hbA hS (i := w1_1) (vp_in_iff.mpr ⟨by omega, by omega⟩) dL_law_755 ?_
  refine lv_topi (fun x1_1 ex1_1 => ?_)
  obtain ⟨r0, z2, y2, t8, t9, G2⟩ := t_strung l D k a ra ia v rr ii hq z y hk x1_1
  refine hc_Vi (As := [.int x1_1]) (rest := []) (n := 1) (wr := moW k v y) hx hb hml hown hts hG hA hP hD hS hl.1 (List.range 149) (List.range' 149 38) (t8 _) (ci := 6) (q0 := 0) rfl rfl gL_law_X8_strung rfl ⟨rfl, rfl, Nat.le_of_ble_eq_true rfl, Nat.le_of_ble_eq_true rfl⟩ (by decide +kernel) (rng_l _ _ _ (CWlen k a ra ia rr ii z)) (rng_r _ _ _ _ (CWlen k a ra ia rr ii z) (MWlen k v y)) nd1 ⟨rfl, rfl, Nat.le_of_ble_eq_true rfl, Nat.le_of_ble_eq_true rfl, Nat.le_of_ble_eq_true rfl⟩ dL_law_756 (fun r1 u1 H locs e1 hP hD hS => ?_)
  obtain ⟨hP, hD⟩ := cv (w' := moW k v y ++ CWs k a ra ia rr ii z2) hP hD rfl
  refine lv_pop hx hb dL_law_759 rfl ?_
  refine lv_aload_n hx hb dL_law_760 rfl (lv_at hl 1 rfl) ?_
  refine lv_aload_n hx hb dL_law_761 rfl (lv_at hl 3 rfl) ?_
  refine lv_iload_n hx hb dL_law_762 rfl (lv_at hl 0 rfl) ?_
  refine lv_iconst (v := 1) hx hb dL_law_763 (by decide) ?_
  refine lv_iadd hx hb dL_law_764 ?_
  refine lv_topi (fun w2_1 ew2_1 => ?_)
  have tw2_1 : w2_1.toInt = i.toInt + 1 := ai_add rfl (by decide) ew2_1 (by omega) (by omega)
  refine va_sld hx hb hX hbl hbA hS (i := w2_1) (vp_in_iff.mpr ⟨by omega, by omega⟩) dL_law_765 ?_
  refine lv_topi (fun x2_1 ex2_1 => ?_)
  have ex1 : x2_1 = x1_1 := by rw [ex2_1, ew2_1, ex1_1, ew1_1]
  rw [← ex1] at t9
  refine hc_Vi (As := [.int x2_1]) (rest := []) (n := 1) (wr := CWs k a ra ia rr ii z2) hx hb hml hown hts hG hA hP hD hS hl.1 (List.range 38) (List.range' 38 149) (t9 _) (ci := 7) (q0 := 0) rfl rfl gL_law_X9_strung rfl ⟨rfl, rfl, Nat.le_of_ble_eq_true rfl, Nat.le_of_ble_eq_true rfl⟩ (by decide +kernel) (rng_l _ _ _ (MWlen k v y)) (rng_r _ _ _ _ (MWlen k v y) (CWlen k a ra ia rr ii z2)) nd2 ⟨rfl, rfl, Nat.le_of_ble_eq_true rfl, Nat.le_of_ble_eq_true rfl, Nat.le_of_ble_eq_true rfl⟩ dL_law_766 (fun r2 u2 H locs e2 hP hD hS => ?_)
  obtain ⟨hP, hD⟩ := cv (w' := CWs k a ra ia rr ii z2 ++ moW k v y2) hP hD rfl
  refine lv_pop hx hb dL_law_769 rfl ?_
  refine lv_goto (tgt := 1126) hx hb dL_law_770 (by decide) ?_
  exact KK z2 y2 G2 H locs ls hP hD hS hl
set_option maxHeartbeats 4000000 in
set_option maxRecDepth 100000 in
theorem law_case_23 {p : Program} {e : Env} {s : State} {m : MethodId} {below : List Frame} {meth : Method} {c : Code} (l : Launch) {b L : Nat} {xs : Nat → Int32} (hL : L ≤ 3072) (C0 : lw_At p s m meth c b L xs) {D : va_G} {k : Nat → ClassId} (hG : GK D k s) {ad tv ad2 tv2 : Nat → Nat} (hE : EX ad tv (A0 s) s) (hE2 : EY ad2 tv2 (A0 s) s) {a ra ia v : Nat → Nat} {rr ii : Nat → Option Nat} (hq : RQ ra ia rr ii) {i : Int32} (hi0 : 0 ≤ i.toInt) (hi1 : i.toInt + 6 ≤ (L : Int)) {z : CSt} {y : OB} (hk : GLs z y) {H : Heap} {locs : List Loc} {ls : Array Slot} (hP : va_P D vwCl (CWs k a ra ia rr ii z ++ moW k v y) H) (hD : va_D (A0 s) (CWs k a ra ia rr ii z ++ moW k v y)) (hS : va_S (A0 s) s.heap H locs) (hl : lv_has ls 4 [(3, .int i), (2, .ref (v 0)), (1, .ref (a 0)), (0, .ref b)]) (KK : ∀ (z : CSt) (y : OB), GLs z y → ∀ (H : Heap) (locs : List Loc) (ls : Array Slot), va_P D vwCl (CWs k a ra ia rr ii z ++ moW k v y) H → va_D (A0 s) (CWs k a ra ia rr ii z ++ moW k v y) → va_S (A0 s) s.heap H locs → lv_has ls 4 [(3, .int i), (2, .ref (v 0)), (1, .ref (a 0)), (0, .ref b)] → W p l e room_1 s m #[Value.ref b] below meth c H locs 187 14115 (lw_Z below #[Value.ref b] s) (F0 m 1126 ls [])) : W p l e room_1 s m #[Value.ref b] below meth c H locs 187 14115 (lw_Z below #[Value.ref b] s) (F0 m 773 ls []) := by
  obtain ⟨hx, hb, hr, hml, hown, hts, hX, hbl, hlocks, hgv⟩ := id C0
  have hown : s.vm.findClass RL = some m.cls := hown
  have hA : ∀ q : Nat, s.heap.size ≤ q → A0 s q := fun _ h => h
  have hbA : ¬ A0 s b := Nat.not_le.mpr hbl
  refine lv_aload_n hx hb dL_law_773 rfl (lv_at hl 2 rfl) ?_
  refine lv_aload_n hx hb dL_law_774 rfl (lv_at hl 3 rfl) ?_
  refine lv_iload_n hx hb dL_law_775 rfl (lv_at hl 0 rfl) ?_
  refine lv_iconst (v := 1) hx hb dL_law_776 (by decide) ?_
  refine lv_iadd hx hb dL_law_777 ?_
  refine lv_topi (fun w1_1 ew1_1 => ?_)
  have tw1_1 : w1_1.toInt = i.toInt + 1 := ai_add rfl (by decide) ew1_1 (by omega) (by omega)
  refine va_sld hx hb hX hbl hbA hS (i := w1_1) (vp_in_iff.mpr ⟨by omega, by omega⟩) dL_law_778 ?_
  refine lv_topi (fun x1_1 ex1_1 => ?_)
  refine lv_aload_n hx hb dL_law_779 rfl (lv_at hl 3 rfl) ?_
  refine lv_iload_n hx hb dL_law_780 rfl (lv_at hl 0 rfl) ?_
  refine lv_iconst (v := 2) hx hb dL_law_781 (by decide) ?_
  refine lv_iadd hx hb dL_law_782 ?_
  refine lv_topi (fun w1_2 ew1_2 => ?_)
  have tw1_2 : w1_2.toInt = i.toInt + 2 := ai_add rfl (by decide) ew1_2 (by omega) (by omega)
  refine va_sld hx hb hX hbl hbA hS (i := w1_2) (vp_in_iff.mpr ⟨by omega, by omega⟩) dL_law_783 ?_
  refine lv_topi (fun x1_2 ex1_2 => ?_)
  refine lv_aload_n hx hb dL_law_784 rfl (lv_at hl 3 rfl) ?_
  refine lv_iload_n hx hb dL_law_785 rfl (lv_at hl 0 rfl) ?_
  refine lv_iconst (v := 3) hx hb dL_law_786 (by decide) ?_
  refine lv_iadd hx hb dL_law_787 ?_
  refine lv_topi (fun w1_3 ew1_3 => ?_)
  have tw1_3 : w1_3.toInt = i.toInt + 3 := ai_add rfl (by decide) ew1_3 (by omega) (by omega)
  refine va_sld hx hb hX hbl hbA hS (i := w1_3) (vp_in_iff.mpr ⟨by omega, by omega⟩) dL_law_788 ?_
  refine lv_topi (fun x1_3 ex1_3 => ?_)
  refine lv_aload_n hx hb dL_law_789 rfl (lv_at hl 3 rfl) ?_
  refine lv_iload_n hx hb dL_law_790 rfl (lv_at hl 0 rfl) ?_
  refine lv_iconst (v := 4) hx hb dL_law_791 (by decide) ?_
  refine lv_iadd hx hb dL_law_792 ?_
  refine lv_topi (fun w1_4 ew1_4 => ?_)
  have tw1_4 : w1_4.toInt = i.toInt + 4 := ai_add rfl (by decide) ew1_4 (by omega) (by omega)
  refine va_sld hx hb hX hbl hbA hS (i := w1_4) (vp_in_iff.mpr ⟨by omega, by omega⟩) dL_law_793 ?_
  refine lv_topi (fun x1_4 ex1_4 => ?_)
  obtain ⟨r0, z2, y2, t8, t9, G2⟩ := t_rests l D k a ra ia v rr ii hq z y hk x1_1 x1_2 x1_3 x1_4
  refine hc_Vi (As := [.int x1_1, .int x1_2, .int x1_3, .int x1_4]) (rest := []) (n := 4) (wr := moW k v y) hx hb hml hown hts hG hA hP hD hS hl.1 (List.range 149) (List.range' 149 38) (t8 _) (ci := 6) (q0 := 0) rfl rfl gL_law_X8_rests rfl ⟨rfl, rfl, Nat.le_of_ble_eq_true rfl, Nat.le_of_ble_eq_true rfl⟩ (by decide +kernel) (rng_l _ _ _ (CWlen k a ra ia rr ii z)) (rng_r _ _ _ _ (CWlen k a ra ia rr ii z) (MWlen k v y)) nd1 ⟨rfl, rfl, Nat.le_of_ble_eq_true rfl, Nat.le_of_ble_eq_true rfl, Nat.le_of_ble_eq_true rfl⟩ dL_law_794 (fun r1 u1 H locs e1 hP hD hS => ?_)
  obtain ⟨hP, hD⟩ := cv (w' := moW k v y ++ CWs k a ra ia rr ii z2) hP hD rfl
  refine lv_pop hx hb dL_law_797 rfl ?_
  refine lv_aload_n hx hb dL_law_798 rfl (lv_at hl 1 rfl) ?_
  refine lv_aload_n hx hb dL_law_799 rfl (lv_at hl 3 rfl) ?_
  refine lv_iload_n hx hb dL_law_800 rfl (lv_at hl 0 rfl) ?_
  refine lv_iconst (v := 1) hx hb dL_law_801 (by decide) ?_
  refine lv_iadd hx hb dL_law_802 ?_
  refine lv_topi (fun w2_1 ew2_1 => ?_)
  have tw2_1 : w2_1.toInt = i.toInt + 1 := ai_add rfl (by decide) ew2_1 (by omega) (by omega)
  refine va_sld hx hb hX hbl hbA hS (i := w2_1) (vp_in_iff.mpr ⟨by omega, by omega⟩) dL_law_803 ?_
  refine lv_topi (fun x2_1 ex2_1 => ?_)
  refine lv_aload_n hx hb dL_law_804 rfl (lv_at hl 3 rfl) ?_
  refine lv_iload_n hx hb dL_law_805 rfl (lv_at hl 0 rfl) ?_
  refine lv_iconst (v := 2) hx hb dL_law_806 (by decide) ?_
  refine lv_iadd hx hb dL_law_807 ?_
  refine lv_topi (fun w2_2 ew2_2 => ?_)
  have tw2_2 : w2_2.toInt = i.toInt + 2 := ai_add rfl (by decide) ew2_2 (by omega) (by omega)
  refine va_sld hx hb hX hbl hbA hS (i := w2_2) (vp_in_iff.mpr ⟨by omega, by omega⟩) dL_law_808 ?_
  refine lv_topi (fun x2_2 ex2_2 => ?_)
  refine lv_aload_n hx hb dL_law_809 rfl (lv_at hl 3 rfl) ?_
  refine lv_iload_n hx hb dL_law_810 rfl (lv_at hl 0 rfl) ?_
  refine lv_iconst (v := 3) hx hb dL_law_811 (by decide) ?_
  refine lv_iadd hx hb dL_law_812 ?_
  refine lv_topi (fun w2_3 ew2_3 => ?_)
  have tw2_3 : w2_3.toInt = i.toInt + 3 := ai_add rfl (by decide) ew2_3 (by omega) (by omega)
  refine va_sld hx hb hX hbl hbA hS (i := w2_3) (vp_in_iff.mpr ⟨by omega, by omega⟩) dL_law_813 ?_
  refine lv_topi (fun x2_3 ex2_3 => ?_)
  refine lv_aload_n hx hb dL_law_814 rfl (lv_at hl 3 rfl) ?_
  refine lv_iload_n hx hb dL_law_815 rfl (lv_at hl 0 rfl) ?_
  refine lv_iconst (v := 4) hx hb dL_law_816 (by decide) ?_
  refine lv_iadd hx hb dL_law_817 ?_
  refine lv_topi (fun w2_4 ew2_4 => ?_)
  have tw2_4 : w2_4.toInt = i.toInt + 4 := ai_add rfl (by decide) ew2_4 (by omega) (by omega)
  refine va_sld hx hb hX hbl hbA hS (i := w2_4) (vp_in_iff.mpr ⟨by omega, by omega⟩) dL_law_818 ?_
  refine lv_topi (fun x2_4 ex2_4 => ?_)
  have ex1 : x2_1 = x1_1 := by rw [ex2_1, ew2_1, ex1_1, ew1_1]
  rw [← ex1] at t9
  have ex2 : x2_2 = x1_2 := by rw [ex2_2, ew2_2, ex1_2, ew1_2]
  rw [← ex2] at t9
  have ex3 : x2_3 = x1_3 := by rw [ex2_3, ew2_3, ex1_3, ew1_3]
  rw [← ex3] at t9
  have ex4 : x2_4 = x1_4 := by rw [ex2_4, ew2_4, ex1_4, ew1_4]
  rw [← ex4] at t9
  refine hc_Vi (As := [.int x2_1, .int x2_2, .int x2_3, .int x2_4]) (rest := []) (n := 4) (wr := CWs k a ra ia rr ii z2) hx hb hml hown hts hG hA hP hD hS hl.1 (List.range 38) (List.range' 38 149) (t9 _) (ci := 7) (q0 := 0) rfl rfl gL_law_X9_rests rfl ⟨rfl, rfl, Nat.le_of_ble_eq_true rfl, Nat.le_of_ble_eq_true rfl⟩ (by decide +kernel) (rng_l _ _ _ (MWlen k v y)) (rng_r _ _ _ _ (MWlen k v y) (CWlen k a ra ia rr ii z2)) nd2 ⟨rfl, rfl, Nat.le_of_ble_eq_true rfl, Nat.le_of_ble_eq_true rfl, Nat.le_of_ble_eq_true rfl⟩ dL_law_819 (fun r2 u2 H locs e2 hP hD hS => ?_)
  obtain ⟨hP, hD⟩ := cv (w' := CWs k a ra ia rr ii z2 ++ moW k v y2) hP hD rfl
  refine lv_pop hx hb dL_law_822 rfl ?_
  refine lv_goto (tgt := 1126) hx hb dL_law_823 (by decide) ?_
  exact KK z2 y2 G2 H locs ls hP hD hS hl
set_option maxHeartbeats 4000000 in
set_option maxRecDepth 100000 in
theorem law_case_24 {p : Program} {e : Env} {s : State} {m : MethodId} {below : List Frame} {meth : Method} {c : Code} (l : Launch) {b L : Nat} {xs : Nat → Int32} (hL : L ≤ 3072) (C0 : lw_At p s m meth c b L xs) {D : va_G} {k : Nat → ClassId} (hG : GK D k s) {ad tv ad2 tv2 : Nat → Nat} (hE : EX ad tv (A0 s) s) (hE2 : EY ad2 tv2 (A0 s) s) {a ra ia v : Nat → Nat} {rr ii : Nat → Option Nat} (hq : RQ ra ia rr ii) {i : Int32} (hi0 : 0 ≤ i.toInt) (hi1 : i.toInt + 6 ≤ (L : Int)) {z : CSt} {y : OB} (hk : GLs z y) {H : Heap} {locs : List Loc} {ls : Array Slot} (hP : va_P D vwCl (CWs k a ra ia rr ii z ++ moW k v y) H) (hD : va_D (A0 s) (CWs k a ra ia rr ii z ++ moW k v y)) (hS : va_S (A0 s) s.heap H locs) (hl : lv_has ls 4 [(3, .int i), (2, .ref (v 0)), (1, .ref (a 0)), (0, .ref b)]) (KK : ∀ (z : CSt) (y : OB), GLs z y → ∀ (H : Heap) (locs : List Loc) (ls : Array Slot), va_P D vwCl (CWs k a ra ia rr ii z ++ moW k v y) H → va_D (A0 s) (CWs k a ra ia rr ii z ++ moW k v y) → va_S (A0 s) s.heap H locs → lv_has ls 4 [(3, .int i), (2, .ref (v 0)), (1, .ref (a 0)), (0, .ref b)] → W p l e room_1 s m #[Value.ref b] below meth c H locs 187 14115 (lw_Z below #[Value.ref b] s) (F0 m 1126 ls [])) : W p l e room_1 s m #[Value.ref b] below meth c H locs 187 14115 (lw_Z below #[Value.ref b] s) (F0 m 826 ls []) := by
  obtain ⟨hx, hb, hr, hml, hown, hts, hX, hbl, hlocks, hgv⟩ := id C0
  have hown : s.vm.findClass RL = some m.cls := hown
  have hA : ∀ q : Nat, s.heap.size ≤ q → A0 s q := fun _ h => h
  have hbA : ¬ A0 s b := Nat.not_le.mpr hbl
  refine lv_aload_n hx hb dL_law_826 rfl (lv_at hl 2 rfl) ?_
  refine lv_aload_n hx hb dL_law_827 rfl (lv_at hl 3 rfl) ?_
  refine lv_iload_n hx hb dL_law_828 rfl (lv_at hl 0 rfl) ?_
  refine lv_iconst (v := 1) hx hb dL_law_829 (by decide) ?_
  refine lv_iadd hx hb dL_law_830 ?_
  refine lv_topi (fun w1_1 ew1_1 => ?_)
  have tw1_1 : w1_1.toInt = i.toInt + 1 := ai_add rfl (by decide) ew1_1 (by omega) (by omega)
  refine va_sld hx hb hX hbl hbA hS (i := w1_1) (vp_in_iff.mpr ⟨by omega, by omega⟩) dL_law_831 ?_
  refine lv_topi (fun x1_1 ex1_1 => ?_)
  obtain ⟨r0, z2, y2, t8, t9, G2⟩ := t_ring l D k a ra ia v rr ii hq z y hk x1_1
  refine hc_Vi (As := [.int x1_1]) (rest := []) (n := 1) (wr := moW k v y) hx hb hml hown hts hG hA hP hD hS hl.1 (List.range 149) (List.range' 149 38) (t8 _) (ci := 6) (q0 := 0) rfl rfl gL_law_X8_ring rfl ⟨rfl, rfl, Nat.le_of_ble_eq_true rfl, Nat.le_of_ble_eq_true rfl⟩ (by decide +kernel) (rng_l _ _ _ (CWlen k a ra ia rr ii z)) (rng_r _ _ _ _ (CWlen k a ra ia rr ii z) (MWlen k v y)) nd1 ⟨rfl, rfl, Nat.le_of_ble_eq_true rfl, Nat.le_of_ble_eq_true rfl, Nat.le_of_ble_eq_true rfl⟩ dL_law_832 (fun r1 u1 H locs e1 hP hD hS => ?_)
  obtain ⟨hP, hD⟩ := cv (w' := moW k v y ++ CWs k a ra ia rr ii z2) hP hD rfl
  refine lv_pop hx hb dL_law_835 rfl ?_
  refine lv_aload_n hx hb dL_law_836 rfl (lv_at hl 1 rfl) ?_
  refine lv_aload_n hx hb dL_law_837 rfl (lv_at hl 3 rfl) ?_
  refine lv_iload_n hx hb dL_law_838 rfl (lv_at hl 0 rfl) ?_
  refine lv_iconst (v := 1) hx hb dL_law_839 (by decide) ?_
  refine lv_iadd hx hb dL_law_840 ?_
  refine lv_topi (fun w2_1 ew2_1 => ?_)
  have tw2_1 : w2_1.toInt = i.toInt + 1 := ai_add rfl (by decide) ew2_1 (by omega) (by omega)
  refine va_sld hx hb hX hbl hbA hS (i := w2_1) (vp_in_iff.mpr ⟨by omega, by omega⟩) dL_law_841 ?_
  refine lv_topi (fun x2_1 ex2_1 => ?_)
  have ex1 : x2_1 = x1_1 := by rw [ex2_1, ew2_1, ex1_1, ew1_1]
  rw [← ex1] at t9
  refine hc_Vi (As := [.int x2_1]) (rest := []) (n := 1) (wr := CWs k a ra ia rr ii z2) hx hb hml hown hts hG hA hP hD hS hl.1 (List.range 38) (List.range' 38 149) (t9 _) (ci := 7) (q0 := 0) rfl rfl gL_law_X9_ring rfl ⟨rfl, rfl, Nat.le_of_ble_eq_true rfl, Nat.le_of_ble_eq_true rfl⟩ (by decide +kernel) (rng_l _ _ _ (MWlen k v y)) (rng_r _ _ _ _ (MWlen k v y) (CWlen k a ra ia rr ii z2)) nd2 ⟨rfl, rfl, Nat.le_of_ble_eq_true rfl, Nat.le_of_ble_eq_true rfl, Nat.le_of_ble_eq_true rfl⟩ dL_law_842 (fun r2 u2 H locs e2 hP hD hS => ?_)
  obtain ⟨hP, hD⟩ := cv (w' := CWs k a ra ia rr ii z2 ++ moW k v y2) hP hD rfl
  refine lv_pop hx hb dL_law_845 rfl ?_
  refine lv_goto (tgt := 1126) hx hb dL_law_846 (by decide) ?_
  exact KK z2 y2 G2 H locs ls hP hD hS hl
set_option maxHeartbeats 4000000 in
set_option maxRecDepth 100000 in
theorem law_case_25 {p : Program} {e : Env} {s : State} {m : MethodId} {below : List Frame} {meth : Method} {c : Code} (l : Launch) {b L : Nat} {xs : Nat → Int32} (hL : L ≤ 3072) (C0 : lw_At p s m meth c b L xs) {D : va_G} {k : Nat → ClassId} (hG : GK D k s) {ad tv ad2 tv2 : Nat → Nat} (hE : EX ad tv (A0 s) s) (hE2 : EY ad2 tv2 (A0 s) s) {a ra ia v : Nat → Nat} {rr ii : Nat → Option Nat} (hq : RQ ra ia rr ii) {i : Int32} (hi0 : 0 ≤ i.toInt) (hi1 : i.toInt + 6 ≤ (L : Int)) {z : CSt} {y : OB} (hk : GLs z y) {H : Heap} {locs : List Loc} {ls : Array Slot} (hP : va_P D vwCl (CWs k a ra ia rr ii z ++ moW k v y) H) (hD : va_D (A0 s) (CWs k a ra ia rr ii z ++ moW k v y)) (hS : va_S (A0 s) s.heap H locs) (hl : lv_has ls 4 [(3, .int i), (2, .ref (v 0)), (1, .ref (a 0)), (0, .ref b)]) (KK : ∀ (z : CSt) (y : OB), GLs z y → ∀ (H : Heap) (locs : List Loc) (ls : Array Slot), va_P D vwCl (CWs k a ra ia rr ii z ++ moW k v y) H → va_D (A0 s) (CWs k a ra ia rr ii z ++ moW k v y) → va_S (A0 s) s.heap H locs → lv_has ls 4 [(3, .int i), (2, .ref (v 0)), (1, .ref (a 0)), (0, .ref b)] → W p l e room_1 s m #[Value.ref b] below meth c H locs 187 14115 (lw_Z below #[Value.ref b] s) (F0 m 1126 ls [])) : W p l e room_1 s m #[Value.ref b] below meth c H locs 187 14115 (lw_Z below #[Value.ref b] s) (F0 m 849 ls []) := by
  obtain ⟨hx, hb, hr, hml, hown, hts, hX, hbl, hlocks, hgv⟩ := id C0
  have hown : s.vm.findClass RL = some m.cls := hown
  have hA : ∀ q : Nat, s.heap.size ≤ q → A0 s q := fun _ h => h
  have hbA : ¬ A0 s b := Nat.not_le.mpr hbl
  refine lv_aload_n hx hb dL_law_849 rfl (lv_at hl 2 rfl) ?_
  refine lv_aload_n hx hb dL_law_850 rfl (lv_at hl 3 rfl) ?_
  refine lv_iload_n hx hb dL_law_851 rfl (lv_at hl 0 rfl) ?_
  refine lv_iconst (v := 1) hx hb dL_law_852 (by decide) ?_
  refine lv_iadd hx hb dL_law_853 ?_
  refine lv_topi (fun w1_1 ew1_1 => ?_)
  have tw1_1 : w1_1.toInt = i.toInt + 1 := ai_add rfl (by decide) ew1_1 (by omega) (by omega)
  refine va_sld hx hb hX hbl hbA hS (i := w1_1) (vp_in_iff.mpr ⟨by omega, by omega⟩) dL_law_854 ?_
  refine lv_topi (fun x1_1 ex1_1 => ?_)
  refine lv_aload_n hx hb dL_law_855 rfl (lv_at hl 3 rfl) ?_
  refine lv_iload_n hx hb dL_law_856 rfl (lv_at hl 0 rfl) ?_
  refine lv_iconst (v := 2) hx hb dL_law_857 (by decide) ?_
  refine lv_iadd hx hb dL_law_858 ?_
  refine lv_topi (fun w1_2 ew1_2 => ?_)
  have tw1_2 : w1_2.toInt = i.toInt + 2 := ai_add rfl (by decide) ew1_2 (by omega) (by omega)
  refine va_sld hx hb hX hbl hbA hS (i := w1_2) (vp_in_iff.mpr ⟨by omega, by omega⟩) dL_law_859 ?_
  refine lv_topi (fun x1_2 ex1_2 => ?_)
  obtain ⟨r0, z2, y2, t8, t9, G2⟩ := t_pence l D k a ra ia v rr ii hq z y hk x1_1 x1_2
  refine hc_Vi (As := [.int x1_1, .int x1_2]) (rest := []) (n := 2) (wr := moW k v y) hx hb hml hown hts hG hA hP hD hS hl.1 (List.range 149) (List.range' 149 38) (t8 _) (ci := 6) (q0 := 0) rfl rfl gL_law_X8_pence rfl ⟨rfl, rfl, Nat.le_of_ble_eq_true rfl, Nat.le_of_ble_eq_true rfl⟩ (by decide +kernel) (rng_l _ _ _ (CWlen k a ra ia rr ii z)) (rng_r _ _ _ _ (CWlen k a ra ia rr ii z) (MWlen k v y)) nd1 ⟨rfl, rfl, Nat.le_of_ble_eq_true rfl, Nat.le_of_ble_eq_true rfl, Nat.le_of_ble_eq_true rfl⟩ dL_law_860 (fun r1 u1 H locs e1 hP hD hS => ?_)
  obtain ⟨hP, hD⟩ := cv (w' := moW k v y ++ CWs k a ra ia rr ii z2) hP hD rfl
  refine lv_pop hx hb dL_law_863 rfl ?_
  refine lv_aload_n hx hb dL_law_864 rfl (lv_at hl 1 rfl) ?_
  refine lv_aload_n hx hb dL_law_865 rfl (lv_at hl 3 rfl) ?_
  refine lv_iload_n hx hb dL_law_866 rfl (lv_at hl 0 rfl) ?_
  refine lv_iconst (v := 1) hx hb dL_law_867 (by decide) ?_
  refine lv_iadd hx hb dL_law_868 ?_
  refine lv_topi (fun w2_1 ew2_1 => ?_)
  have tw2_1 : w2_1.toInt = i.toInt + 1 := ai_add rfl (by decide) ew2_1 (by omega) (by omega)
  refine va_sld hx hb hX hbl hbA hS (i := w2_1) (vp_in_iff.mpr ⟨by omega, by omega⟩) dL_law_869 ?_
  refine lv_topi (fun x2_1 ex2_1 => ?_)
  refine lv_aload_n hx hb dL_law_870 rfl (lv_at hl 3 rfl) ?_
  refine lv_iload_n hx hb dL_law_871 rfl (lv_at hl 0 rfl) ?_
  refine lv_iconst (v := 2) hx hb dL_law_872 (by decide) ?_
  refine lv_iadd hx hb dL_law_873 ?_
  refine lv_topi (fun w2_2 ew2_2 => ?_)
  have tw2_2 : w2_2.toInt = i.toInt + 2 := ai_add rfl (by decide) ew2_2 (by omega) (by omega)
  refine va_sld hx hb hX hbl hbA hS (i := w2_2) (vp_in_iff.mpr ⟨by omega, by omega⟩) dL_law_874 ?_
  refine lv_topi (fun x2_2 ex2_2 => ?_)
  have ex1 : x2_1 = x1_1 := by rw [ex2_1, ew2_1, ex1_1, ew1_1]
  rw [← ex1] at t9
  have ex2 : x2_2 = x1_2 := by rw [ex2_2, ew2_2, ex1_2, ew1_2]
  rw [← ex2] at t9
  refine hc_Vi (As := [.int x2_1, .int x2_2]) (rest := []) (n := 2) (wr := CWs k a ra ia rr ii z2) hx hb hml hown hts hG hA hP hD hS hl.1 (List.range 38) (List.range' 38 149) (t9 _) (ci := 7) (q0 := 0) rfl rfl gL_law_X9_pence rfl ⟨rfl, rfl, Nat.le_of_ble_eq_true rfl, Nat.le_of_ble_eq_true rfl⟩ (by decide +kernel) (rng_l _ _ _ (MWlen k v y)) (rng_r _ _ _ _ (MWlen k v y) (CWlen k a ra ia rr ii z2)) nd2 ⟨rfl, rfl, Nat.le_of_ble_eq_true rfl, Nat.le_of_ble_eq_true rfl, Nat.le_of_ble_eq_true rfl⟩ dL_law_875 (fun r2 u2 H locs e2 hP hD hS => ?_)
  obtain ⟨hP, hD⟩ := cv (w' := CWs k a ra ia rr ii z2 ++ moW k v y2) hP hD rfl
  refine lv_pop hx hb dL_law_878 rfl ?_
  refine lv_goto (tgt := 1126) hx hb dL_law_879 (by decide) ?_
  exact KK z2 y2 G2 H locs ls hP hD hS hl
set_option maxHeartbeats 4000000 in
set_option maxRecDepth 100000 in
theorem law_case_26 {p : Program} {e : Env} {s : State} {m : MethodId} {below : List Frame} {meth : Method} {c : Code} (l : Launch) {b L : Nat} {xs : Nat → Int32} (hL : L ≤ 3072) (C0 : lw_At p s m meth c b L xs) {D : va_G} {k : Nat → ClassId} (hG : GK D k s) {ad tv ad2 tv2 : Nat → Nat} (hE : EX ad tv (A0 s) s) (hE2 : EY ad2 tv2 (A0 s) s) {a ra ia v : Nat → Nat} {rr ii : Nat → Option Nat} (hq : RQ ra ia rr ii) {i : Int32} (hi0 : 0 ≤ i.toInt) (hi1 : i.toInt + 6 ≤ (L : Int)) {z : CSt} {y : OB} (hk : GLs z y) {H : Heap} {locs : List Loc} {ls : Array Slot} (hP : va_P D vwCl (CWs k a ra ia rr ii z ++ moW k v y) H) (hD : va_D (A0 s) (CWs k a ra ia rr ii z ++ moW k v y)) (hS : va_S (A0 s) s.heap H locs) (hl : lv_has ls 4 [(3, .int i), (2, .ref (v 0)), (1, .ref (a 0)), (0, .ref b)]) (KK : ∀ (z : CSt) (y : OB), GLs z y → ∀ (H : Heap) (locs : List Loc) (ls : Array Slot), va_P D vwCl (CWs k a ra ia rr ii z ++ moW k v y) H → va_D (A0 s) (CWs k a ra ia rr ii z ++ moW k v y) → va_S (A0 s) s.heap H locs → lv_has ls 4 [(3, .int i), (2, .ref (v 0)), (1, .ref (a 0)), (0, .ref b)] → W p l e room_1 s m #[Value.ref b] below meth c H locs 187 14115 (lw_Z below #[Value.ref b] s) (F0 m 1126 ls [])) : W p l e room_1 s m #[Value.ref b] below meth c H locs 187 14115 (lw_Z below #[Value.ref b] s) (F0 m 882 ls []) := by
  obtain ⟨hx, hb, hr, hml, hown, hts, hX, hbl, hlocks, hgv⟩ := id C0
  have hown : s.vm.findClass RL = some m.cls := hown
  have hA : ∀ q : Nat, s.heap.size ≤ q → A0 s q := fun _ h => h
  have hbA : ¬ A0 s b := Nat.not_le.mpr hbl
  refine lv_aload_n hx hb dL_law_882 rfl (lv_at hl 2 rfl) ?_
  refine lv_aload_n hx hb dL_law_883 rfl (lv_at hl 3 rfl) ?_
  refine lv_iload_n hx hb dL_law_884 rfl (lv_at hl 0 rfl) ?_
  refine lv_iconst (v := 1) hx hb dL_law_885 (by decide) ?_
  refine lv_iadd hx hb dL_law_886 ?_
  refine lv_topi (fun w1_1 ew1_1 => ?_)
  have tw1_1 : w1_1.toInt = i.toInt + 1 := ai_add rfl (by decide) ew1_1 (by omega) (by omega)
  refine va_sld hx hb hX hbl hbA hS (i := w1_1) (vp_in_iff.mpr ⟨by omega, by omega⟩) dL_law_887 ?_
  refine lv_topi (fun x1_1 ex1_1 => ?_)
  refine lv_aload_n hx hb dL_law_888 rfl (lv_at hl 3 rfl) ?_
  refine lv_iload_n hx hb dL_law_889 rfl (lv_at hl 0 rfl) ?_
  refine lv_iconst (v := 2) hx hb dL_law_890 (by decide) ?_
  refine lv_iadd hx hb dL_law_891 ?_
  refine lv_topi (fun w1_2 ew1_2 => ?_)
  have tw1_2 : w1_2.toInt = i.toInt + 2 := ai_add rfl (by decide) ew1_2 (by omega) (by omega)
  refine va_sld hx hb hX hbl hbA hS (i := w1_2) (vp_in_iff.mpr ⟨by omega, by omega⟩) dL_law_892 ?_
  refine lv_topi (fun x1_2 ex1_2 => ?_)
  refine lv_aload_n hx hb dL_law_893 rfl (lv_at hl 3 rfl) ?_
  refine lv_iload_n hx hb dL_law_894 rfl (lv_at hl 0 rfl) ?_
  refine lv_iconst (v := 3) hx hb dL_law_895 (by decide) ?_
  refine lv_iadd hx hb dL_law_896 ?_
  refine lv_topi (fun w1_3 ew1_3 => ?_)
  have tw1_3 : w1_3.toInt = i.toInt + 3 := ai_add rfl (by decide) ew1_3 (by omega) (by omega)
  refine va_sld hx hb hX hbl hbA hS (i := w1_3) (vp_in_iff.mpr ⟨by omega, by omega⟩) dL_law_897 ?_
  refine lv_topi (fun x1_3 ex1_3 => ?_)
  obtain ⟨r0, z2, y2, t8, t9, G2⟩ := t_note l D k a ra ia v rr ii hq z y hk x1_1 x1_2 x1_3
  refine hc_Vi (As := [.int x1_1, .int x1_2, .int x1_3]) (rest := []) (n := 3) (wr := moW k v y) hx hb hml hown hts hG hA hP hD hS hl.1 (List.range 149) (List.range' 149 38) (t8 _) (ci := 6) (q0 := 0) rfl rfl gL_law_X8_note rfl ⟨rfl, rfl, Nat.le_of_ble_eq_true rfl, Nat.le_of_ble_eq_true rfl⟩ (by decide +kernel) (rng_l _ _ _ (CWlen k a ra ia rr ii z)) (rng_r _ _ _ _ (CWlen k a ra ia rr ii z) (MWlen k v y)) nd1 ⟨rfl, rfl, Nat.le_of_ble_eq_true rfl, Nat.le_of_ble_eq_true rfl, Nat.le_of_ble_eq_true rfl⟩ dL_law_898 (fun r1 u1 H locs e1 hP hD hS => ?_)
  obtain ⟨hP, hD⟩ := cv (w' := moW k v y ++ CWs k a ra ia rr ii z2) hP hD rfl
  refine lv_pop hx hb dL_law_901 rfl ?_
  refine lv_aload_n hx hb dL_law_902 rfl (lv_at hl 1 rfl) ?_
  refine lv_aload_n hx hb dL_law_903 rfl (lv_at hl 3 rfl) ?_
  refine lv_iload_n hx hb dL_law_904 rfl (lv_at hl 0 rfl) ?_
  refine lv_iconst (v := 1) hx hb dL_law_905 (by decide) ?_
  refine lv_iadd hx hb dL_law_906 ?_
  refine lv_topi (fun w2_1 ew2_1 => ?_)
  have tw2_1 : w2_1.toInt = i.toInt + 1 := ai_add rfl (by decide) ew2_1 (by omega) (by omega)
  refine va_sld hx hb hX hbl hbA hS (i := w2_1) (vp_in_iff.mpr ⟨by omega, by omega⟩) dL_law_907 ?_
  refine lv_topi (fun x2_1 ex2_1 => ?_)
  refine lv_aload_n hx hb dL_law_908 rfl (lv_at hl 3 rfl) ?_
  refine lv_iload_n hx hb dL_law_909 rfl (lv_at hl 0 rfl) ?_
  refine lv_iconst (v := 2) hx hb dL_law_910 (by decide) ?_
  refine lv_iadd hx hb dL_law_911 ?_
  refine lv_topi (fun w2_2 ew2_2 => ?_)
  have tw2_2 : w2_2.toInt = i.toInt + 2 := ai_add rfl (by decide) ew2_2 (by omega) (by omega)
  refine va_sld hx hb hX hbl hbA hS (i := w2_2) (vp_in_iff.mpr ⟨by omega, by omega⟩) dL_law_912 ?_
  refine lv_topi (fun x2_2 ex2_2 => ?_)
  refine lv_aload_n hx hb dL_law_913 rfl (lv_at hl 3 rfl) ?_
  refine lv_iload_n hx hb dL_law_914 rfl (lv_at hl 0 rfl) ?_
  refine lv_iconst (v := 3) hx hb dL_law_915 (by decide) ?_
  refine lv_iadd hx hb dL_law_916 ?_
  refine lv_topi (fun w2_3 ew2_3 => ?_)
  have tw2_3 : w2_3.toInt = i.toInt + 3 := ai_add rfl (by decide) ew2_3 (by omega) (by omega)
  refine va_sld hx hb hX hbl hbA hS (i := w2_3) (vp_in_iff.mpr ⟨by omega, by omega⟩) dL_law_917 ?_
  refine lv_topi (fun x2_3 ex2_3 => ?_)
  have ex1 : x2_1 = x1_1 := by rw [ex2_1, ew2_1, ex1_1, ew1_1]
  rw [← ex1] at t9
  have ex2 : x2_2 = x1_2 := by rw [ex2_2, ew2_2, ex1_2, ew1_2]
  rw [← ex2] at t9
  have ex3 : x2_3 = x1_3 := by rw [ex2_3, ew2_3, ex1_3, ew1_3]
  rw [← ex3] at t9
  refine hc_Vi (As := [.int x2_1, .int x2_2, .int x2_3]) (rest := []) (n := 3) (wr := CWs k a ra ia rr ii z2) hx hb hml hown hts hG hA hP hD hS hl.1 (List.range 38) (List.range' 38 149) (t9 _) (ci := 7) (q0 := 0) rfl rfl gL_law_X9_note rfl ⟨rfl, rfl, Nat.le_of_ble_eq_true rfl, Nat.le_of_ble_eq_true rfl⟩ (by decide +kernel) (rng_l _ _ _ (MWlen k v y)) (rng_r _ _ _ _ (MWlen k v y) (CWlen k a ra ia rr ii z2)) nd2 ⟨rfl, rfl, Nat.le_of_ble_eq_true rfl, Nat.le_of_ble_eq_true rfl, Nat.le_of_ble_eq_true rfl⟩ dL_law_918 (fun r2 u2 H locs e2 hP hD hS => ?_)
  obtain ⟨hP, hD⟩ := cv (w' := CWs k a ra ia rr ii z2 ++ moW k v y2) hP hD rfl
  refine lv_pop hx hb dL_law_921 rfl ?_
  refine lv_goto (tgt := 1126) hx hb dL_law_922 (by decide) ?_
  exact KK z2 y2 G2 H locs ls hP hD hS hl
set_option maxHeartbeats 4000000 in
set_option maxRecDepth 100000 in
theorem law_case_27 {p : Program} {e : Env} {s : State} {m : MethodId} {below : List Frame} {meth : Method} {c : Code} (l : Launch) {b L : Nat} {xs : Nat → Int32} (hL : L ≤ 3072) (C0 : lw_At p s m meth c b L xs) {D : va_G} {k : Nat → ClassId} (hG : GK D k s) {ad tv ad2 tv2 : Nat → Nat} (hE : EX ad tv (A0 s) s) (hE2 : EY ad2 tv2 (A0 s) s) {a ra ia v : Nat → Nat} {rr ii : Nat → Option Nat} (hq : RQ ra ia rr ii) {i : Int32} (hi0 : 0 ≤ i.toInt) (hi1 : i.toInt + 6 ≤ (L : Int)) {z : CSt} {y : OB} (hk : GLs z y) {H : Heap} {locs : List Loc} {ls : Array Slot} (hP : va_P D vwCl (CWs k a ra ia rr ii z ++ moW k v y) H) (hD : va_D (A0 s) (CWs k a ra ia rr ii z ++ moW k v y)) (hS : va_S (A0 s) s.heap H locs) (hl : lv_has ls 4 [(3, .int i), (2, .ref (v 0)), (1, .ref (a 0)), (0, .ref b)]) (KK : ∀ (z : CSt) (y : OB), GLs z y → ∀ (H : Heap) (locs : List Loc) (ls : Array Slot), va_P D vwCl (CWs k a ra ia rr ii z ++ moW k v y) H → va_D (A0 s) (CWs k a ra ia rr ii z ++ moW k v y) → va_S (A0 s) s.heap H locs → lv_has ls 4 [(3, .int i), (2, .ref (v 0)), (1, .ref (a 0)), (0, .ref b)] → W p l e room_1 s m #[Value.ref b] below meth c H locs 187 14115 (lw_Z below #[Value.ref b] s) (F0 m 1126 ls [])) : W p l e room_1 s m #[Value.ref b] below meth c H locs 187 14115 (lw_Z below #[Value.ref b] s) (F0 m 925 ls []) := by
  obtain ⟨hx, hb, hr, hml, hown, hts, hX, hbl, hlocks, hgv⟩ := id C0
  have hown : s.vm.findClass RL = some m.cls := hown
  have hA : ∀ q : Nat, s.heap.size ≤ q → A0 s q := fun _ h => h
  have hbA : ¬ A0 s b := Nat.not_le.mpr hbl
  refine lv_aload_n hx hb dL_law_925 rfl (lv_at hl 2 rfl) ?_
  refine lv_aload_n hx hb dL_law_926 rfl (lv_at hl 3 rfl) ?_
  refine lv_iload_n hx hb dL_law_927 rfl (lv_at hl 0 rfl) ?_
  refine lv_iconst (v := 1) hx hb dL_law_928 (by decide) ?_
  refine lv_iadd hx hb dL_law_929 ?_
  refine lv_topi (fun w1_1 ew1_1 => ?_)
  have tw1_1 : w1_1.toInt = i.toInt + 1 := ai_add rfl (by decide) ew1_1 (by omega) (by omega)
  refine va_sld hx hb hX hbl hbA hS (i := w1_1) (vp_in_iff.mpr ⟨by omega, by omega⟩) dL_law_930 ?_
  refine lv_topi (fun x1_1 ex1_1 => ?_)
  obtain ⟨r0, z2, y2, t8, t9, G2⟩ := t_ruled l D k a ra ia v rr ii hq z y hk x1_1
  refine hc_Vi (As := [.int x1_1]) (rest := []) (n := 1) (wr := moW k v y) hx hb hml hown hts hG hA hP hD hS hl.1 (List.range 149) (List.range' 149 38) (t8 _) (ci := 6) (q0 := 0) rfl rfl gL_law_X8_ruled rfl ⟨rfl, rfl, Nat.le_of_ble_eq_true rfl, Nat.le_of_ble_eq_true rfl⟩ (by decide +kernel) (rng_l _ _ _ (CWlen k a ra ia rr ii z)) (rng_r _ _ _ _ (CWlen k a ra ia rr ii z) (MWlen k v y)) nd1 ⟨rfl, rfl, Nat.le_of_ble_eq_true rfl, Nat.le_of_ble_eq_true rfl, Nat.le_of_ble_eq_true rfl⟩ dL_law_931 (fun r1 u1 H locs e1 hP hD hS => ?_)
  obtain ⟨hP, hD⟩ := cv (w' := moW k v y ++ CWs k a ra ia rr ii z2) hP hD rfl
  refine lv_pop hx hb dL_law_934 rfl ?_
  refine lv_aload_n hx hb dL_law_935 rfl (lv_at hl 1 rfl) ?_
  refine lv_aload_n hx hb dL_law_936 rfl (lv_at hl 3 rfl) ?_
  refine lv_iload_n hx hb dL_law_937 rfl (lv_at hl 0 rfl) ?_
  refine lv_iconst (v := 1) hx hb dL_law_938 (by decide) ?_
  refine lv_iadd hx hb dL_law_939 ?_
  refine lv_topi (fun w2_1 ew2_1 => ?_)
  have tw2_1 : w2_1.toInt = i.toInt + 1 := ai_add rfl (by decide) ew2_1 (by omega) (by omega)
  refine va_sld hx hb hX hbl hbA hS (i := w2_1) (vp_in_iff.mpr ⟨by omega, by omega⟩) dL_law_940 ?_
  refine lv_topi (fun x2_1 ex2_1 => ?_)
  have ex1 : x2_1 = x1_1 := by rw [ex2_1, ew2_1, ex1_1, ew1_1]
  rw [← ex1] at t9
  refine hc_Vi (As := [.int x2_1]) (rest := []) (n := 1) (wr := CWs k a ra ia rr ii z2) hx hb hml hown hts hG hA hP hD hS hl.1 (List.range 38) (List.range' 38 149) (t9 _) (ci := 7) (q0 := 0) rfl rfl gL_law_X9_ruled rfl ⟨rfl, rfl, Nat.le_of_ble_eq_true rfl, Nat.le_of_ble_eq_true rfl⟩ (by decide +kernel) (rng_l _ _ _ (MWlen k v y)) (rng_r _ _ _ _ (MWlen k v y) (CWlen k a ra ia rr ii z2)) nd2 ⟨rfl, rfl, Nat.le_of_ble_eq_true rfl, Nat.le_of_ble_eq_true rfl, Nat.le_of_ble_eq_true rfl⟩ dL_law_941 (fun r2 u2 H locs e2 hP hD hS => ?_)
  obtain ⟨hP, hD⟩ := cv (w' := CWs k a ra ia rr ii z2 ++ moW k v y2) hP hD rfl
  refine lv_pop hx hb dL_law_944 rfl ?_
  refine lv_goto (tgt := 1126) hx hb dL_law_945 (by decide) ?_
  exact KK z2 y2 G2 H locs ls hP hD hS hl
set_option maxHeartbeats 4000000 in
set_option maxRecDepth 100000 in
theorem law_case_28 {p : Program} {e : Env} {s : State} {m : MethodId} {below : List Frame} {meth : Method} {c : Code} (l : Launch) {b L : Nat} {xs : Nat → Int32} (hL : L ≤ 3072) (C0 : lw_At p s m meth c b L xs) {D : va_G} {k : Nat → ClassId} (hG : GK D k s) {ad tv ad2 tv2 : Nat → Nat} (hE : EX ad tv (A0 s) s) (hE2 : EY ad2 tv2 (A0 s) s) {a ra ia v : Nat → Nat} {rr ii : Nat → Option Nat} (hq : RQ ra ia rr ii) {i : Int32} (hi0 : 0 ≤ i.toInt) (hi1 : i.toInt + 6 ≤ (L : Int)) {z : CSt} {y : OB} (hk : GLs z y) {H : Heap} {locs : List Loc} {ls : Array Slot} (hP : va_P D vwCl (CWs k a ra ia rr ii z ++ moW k v y) H) (hD : va_D (A0 s) (CWs k a ra ia rr ii z ++ moW k v y)) (hS : va_S (A0 s) s.heap H locs) (hl : lv_has ls 4 [(3, .int i), (2, .ref (v 0)), (1, .ref (a 0)), (0, .ref b)]) (KK : ∀ (z : CSt) (y : OB), GLs z y → ∀ (H : Heap) (locs : List Loc) (ls : Array Slot), va_P D vwCl (CWs k a ra ia rr ii z ++ moW k v y) H → va_D (A0 s) (CWs k a ra ia rr ii z ++ moW k v y) → va_S (A0 s) s.heap H locs → lv_has ls 4 [(3, .int i), (2, .ref (v 0)), (1, .ref (a 0)), (0, .ref b)] → W p l e room_1 s m #[Value.ref b] below meth c H locs 187 14115 (lw_Z below #[Value.ref b] s) (F0 m 1126 ls [])) : W p l e room_1 s m #[Value.ref b] below meth c H locs 187 14115 (lw_Z below #[Value.ref b] s) (F0 m 948 ls []) := by
  obtain ⟨hx, hb, hr, hml, hown, hts, hX, hbl, hlocks, hgv⟩ := id C0
  have hown : s.vm.findClass RL = some m.cls := hown
  have hA : ∀ q : Nat, s.heap.size ≤ q → A0 s q := fun _ h => h
  have hbA : ¬ A0 s b := Nat.not_le.mpr hbl
  refine lv_aload_n hx hb dL_law_948 rfl (lv_at hl 2 rfl) ?_
  refine lv_aload_n hx hb dL_law_949 rfl (lv_at hl 3 rfl) ?_
  refine lv_iload_n hx hb dL_law_950 rfl (lv_at hl 0 rfl) ?_
  refine lv_iconst (v := 1) hx hb dL_law_951 (by decide) ?_
  refine lv_iadd hx hb dL_law_952 ?_
  refine lv_topi (fun w1_1 ew1_1 => ?_)
  have tw1_1 : w1_1.toInt = i.toInt + 1 := ai_add rfl (by decide) ew1_1 (by omega) (by omega)
  refine va_sld hx hb hX hbl hbA hS (i := w1_1) (vp_in_iff.mpr ⟨by omega, by omega⟩) dL_law_953 ?_
  refine lv_topi (fun x1_1 ex1_1 => ?_)
  refine lv_aload_n hx hb dL_law_954 rfl (lv_at hl 3 rfl) ?_
  refine lv_iload_n hx hb dL_law_955 rfl (lv_at hl 0 rfl) ?_
  refine lv_iconst (v := 2) hx hb dL_law_956 (by decide) ?_
  refine lv_iadd hx hb dL_law_957 ?_
  refine lv_topi (fun w1_2 ew1_2 => ?_)
  have tw1_2 : w1_2.toInt = i.toInt + 2 := ai_add rfl (by decide) ew1_2 (by omega) (by omega)
  refine va_sld hx hb hX hbl hbA hS (i := w1_2) (vp_in_iff.mpr ⟨by omega, by omega⟩) dL_law_958 ?_
  refine lv_topi (fun x1_2 ex1_2 => ?_)
  obtain ⟨r0, z2, y2, t8, t9, G2⟩ := t_look l D k a ra ia v rr ii hq z y hk x1_1 x1_2
  refine hc_Vi (As := [.int x1_1, .int x1_2]) (rest := []) (n := 2) (wr := moW k v y) hx hb hml hown hts hG hA hP hD hS hl.1 (List.range 149) (List.range' 149 38) (t8 _) (ci := 6) (q0 := 0) rfl rfl gL_law_X8_look rfl ⟨rfl, rfl, Nat.le_of_ble_eq_true rfl, Nat.le_of_ble_eq_true rfl⟩ (by decide +kernel) (rng_l _ _ _ (CWlen k a ra ia rr ii z)) (rng_r _ _ _ _ (CWlen k a ra ia rr ii z) (MWlen k v y)) nd1 ⟨rfl, rfl, Nat.le_of_ble_eq_true rfl, Nat.le_of_ble_eq_true rfl, Nat.le_of_ble_eq_true rfl⟩ dL_law_959 (fun r1 u1 H locs e1 hP hD hS => ?_)
  obtain ⟨hP, hD⟩ := cv (w' := moW k v y ++ CWs k a ra ia rr ii z2) hP hD rfl
  refine lv_pop hx hb dL_law_962 rfl ?_
  refine lv_aload_n hx hb dL_law_963 rfl (lv_at hl 1 rfl) ?_
  refine lv_aload_n hx hb dL_law_964 rfl (lv_at hl 3 rfl) ?_
  refine lv_iload_n hx hb dL_law_965 rfl (lv_at hl 0 rfl) ?_
  refine lv_iconst (v := 1) hx hb dL_law_966 (by decide) ?_
  refine lv_iadd hx hb dL_law_967 ?_
  refine lv_topi (fun w2_1 ew2_1 => ?_)
  have tw2_1 : w2_1.toInt = i.toInt + 1 := ai_add rfl (by decide) ew2_1 (by omega) (by omega)
  refine va_sld hx hb hX hbl hbA hS (i := w2_1) (vp_in_iff.mpr ⟨by omega, by omega⟩) dL_law_968 ?_
  refine lv_topi (fun x2_1 ex2_1 => ?_)
  refine lv_aload_n hx hb dL_law_969 rfl (lv_at hl 3 rfl) ?_
  refine lv_iload_n hx hb dL_law_970 rfl (lv_at hl 0 rfl) ?_
  refine lv_iconst (v := 2) hx hb dL_law_971 (by decide) ?_
  refine lv_iadd hx hb dL_law_972 ?_
  refine lv_topi (fun w2_2 ew2_2 => ?_)
  have tw2_2 : w2_2.toInt = i.toInt + 2 := ai_add rfl (by decide) ew2_2 (by omega) (by omega)
  refine va_sld hx hb hX hbl hbA hS (i := w2_2) (vp_in_iff.mpr ⟨by omega, by omega⟩) dL_law_973 ?_
  refine lv_topi (fun x2_2 ex2_2 => ?_)
  have ex1 : x2_1 = x1_1 := by rw [ex2_1, ew2_1, ex1_1, ew1_1]
  rw [← ex1] at t9
  have ex2 : x2_2 = x1_2 := by rw [ex2_2, ew2_2, ex1_2, ew1_2]
  rw [← ex2] at t9
  refine hc_Vi (As := [.int x2_1, .int x2_2]) (rest := []) (n := 2) (wr := CWs k a ra ia rr ii z2) hx hb hml hown hts hG hA hP hD hS hl.1 (List.range 38) (List.range' 38 149) (t9 _) (ci := 7) (q0 := 0) rfl rfl gL_law_X9_look rfl ⟨rfl, rfl, Nat.le_of_ble_eq_true rfl, Nat.le_of_ble_eq_true rfl⟩ (by decide +kernel) (rng_l _ _ _ (MWlen k v y)) (rng_r _ _ _ _ (MWlen k v y) (CWlen k a ra ia rr ii z2)) nd2 ⟨rfl, rfl, Nat.le_of_ble_eq_true rfl, Nat.le_of_ble_eq_true rfl, Nat.le_of_ble_eq_true rfl⟩ dL_law_974 (fun r2 u2 H locs e2 hP hD hS => ?_)
  obtain ⟨hP, hD⟩ := cv (w' := CWs k a ra ia rr ii z2 ++ moW k v y2) hP hD rfl
  refine lv_pop hx hb dL_law_977 rfl ?_
  refine lv_goto (tgt := 1126) hx hb dL_law_978 (by decide) ?_
  exact KK z2 y2 G2 H locs ls hP hD hS hl
set_option maxHeartbeats 4000000 in
set_option maxRecDepth 100000 in
theorem law_case_29 {p : Program} {e : Env} {s : State} {m : MethodId} {below : List Frame} {meth : Method} {c : Code} (l : Launch) {b L : Nat} {xs : Nat → Int32} (hL : L ≤ 3072) (C0 : lw_At p s m meth c b L xs) {D : va_G} {k : Nat → ClassId} (hG : GK D k s) {ad tv ad2 tv2 : Nat → Nat} (hE : EX ad tv (A0 s) s) (hE2 : EY ad2 tv2 (A0 s) s) {a ra ia v : Nat → Nat} {rr ii : Nat → Option Nat} (hq : RQ ra ia rr ii) {i : Int32} (hi0 : 0 ≤ i.toInt) (hi1 : i.toInt + 6 ≤ (L : Int)) {z : CSt} {y : OB} (hk : GLs z y) {H : Heap} {locs : List Loc} {ls : Array Slot} (hP : va_P D vwCl (CWs k a ra ia rr ii z ++ moW k v y) H) (hD : va_D (A0 s) (CWs k a ra ia rr ii z ++ moW k v y)) (hS : va_S (A0 s) s.heap H locs) (hl : lv_has ls 4 [(3, .int i), (2, .ref (v 0)), (1, .ref (a 0)), (0, .ref b)]) (KK : ∀ (z : CSt) (y : OB), GLs z y → ∀ (H : Heap) (locs : List Loc) (ls : Array Slot), va_P D vwCl (CWs k a ra ia rr ii z ++ moW k v y) H → va_D (A0 s) (CWs k a ra ia rr ii z ++ moW k v y) → va_S (A0 s) s.heap H locs → lv_has ls 4 [(3, .int i), (2, .ref (v 0)), (1, .ref (a 0)), (0, .ref b)] → W p l e room_1 s m #[Value.ref b] below meth c H locs 187 14115 (lw_Z below #[Value.ref b] s) (F0 m 1126 ls [])) : W p l e room_1 s m #[Value.ref b] below meth c H locs 187 14115 (lw_Z below #[Value.ref b] s) (F0 m 981 ls []) := by
  obtain ⟨hx, hb, hr, hml, hown, hts, hX, hbl, hlocks, hgv⟩ := id C0
  have hown : s.vm.findClass RL = some m.cls := hown
  have hA : ∀ q : Nat, s.heap.size ≤ q → A0 s q := fun _ h => h
  have hbA : ¬ A0 s b := Nat.not_le.mpr hbl
  refine lv_aload_n hx hb dL_law_981 rfl (lv_at hl 2 rfl) ?_
  refine lv_aload_n hx hb dL_law_982 rfl (lv_at hl 3 rfl) ?_
  refine lv_iload_n hx hb dL_law_983 rfl (lv_at hl 0 rfl) ?_
  refine lv_iconst (v := 1) hx hb dL_law_984 (by decide) ?_
  refine lv_iadd hx hb dL_law_985 ?_
  refine lv_topi (fun w1_1 ew1_1 => ?_)
  have tw1_1 : w1_1.toInt = i.toInt + 1 := ai_add rfl (by decide) ew1_1 (by omega) (by omega)
  refine va_sld hx hb hX hbl hbA hS (i := w1_1) (vp_in_iff.mpr ⟨by omega, by omega⟩) dL_law_986 ?_
  refine lv_topi (fun x1_1 ex1_1 => ?_)
  obtain ⟨r0, z2, y2, t8, t9, G2⟩ := t_seed l D k a ra ia v rr ii hq z y hk x1_1
  refine hc_Vi (As := [.int x1_1]) (rest := []) (n := 1) (wr := moW k v y) hx hb hml hown hts hG hA hP hD hS hl.1 (List.range 149) (List.range' 149 38) (t8 _) (ci := 6) (q0 := 0) rfl rfl gL_law_X8_seed rfl ⟨rfl, rfl, Nat.le_of_ble_eq_true rfl, Nat.le_of_ble_eq_true rfl⟩ (by decide +kernel) (rng_l _ _ _ (CWlen k a ra ia rr ii z)) (rng_r _ _ _ _ (CWlen k a ra ia rr ii z) (MWlen k v y)) nd1 ⟨rfl, rfl, Nat.le_of_ble_eq_true rfl, Nat.le_of_ble_eq_true rfl, Nat.le_of_ble_eq_true rfl⟩ dL_law_987 (fun r1 u1 H locs e1 hP hD hS => ?_)
  obtain ⟨hP, hD⟩ := cv (w' := moW k v y ++ CWs k a ra ia rr ii z2) hP hD rfl
  refine lv_aload_n hx hb dL_law_990 rfl (lv_at hl 1 rfl) ?_
  refine lv_aload_n hx hb dL_law_991 rfl (lv_at hl 3 rfl) ?_
  refine lv_iload_n hx hb dL_law_992 rfl (lv_at hl 0 rfl) ?_
  refine lv_iconst (v := 1) hx hb dL_law_993 (by decide) ?_
  refine lv_iadd hx hb dL_law_994 ?_
  refine lv_topi (fun w2_1 ew2_1 => ?_)
  have tw2_1 : w2_1.toInt = i.toInt + 1 := ai_add rfl (by decide) ew2_1 (by omega) (by omega)
  refine va_sld hx hb hX hbl hbA hS (i := w2_1) (vp_in_iff.mpr ⟨by omega, by omega⟩) dL_law_995 ?_
  refine lv_topi (fun x2_1 ex2_1 => ?_)
  have ex1 : x2_1 = x1_1 := by rw [ex2_1, ew2_1, ex1_1, ew1_1]
  rw [← ex1] at t9
  refine hc_Vi (As := [.int x2_1]) (rest := [.int r1]) (n := 1) (wr := CWs k a ra ia rr ii z2) hx hb hml hown hts hG hA hP hD hS hl.1 (List.range 38) (List.range' 38 149) (t9 _) (ci := 7) (q0 := 0) rfl rfl gL_law_X9_seed rfl ⟨rfl, rfl, Nat.le_of_ble_eq_true rfl, Nat.le_of_ble_eq_true rfl⟩ (by decide +kernel) (rng_l _ _ _ (MWlen k v y)) (rng_r _ _ _ _ (MWlen k v y) (CWlen k a ra ia rr ii z2)) nd2 ⟨rfl, rfl, Nat.le_of_ble_eq_true rfl, Nat.le_of_ble_eq_true rfl, Nat.le_of_ble_eq_true rfl⟩ dL_law_996 (fun r2 u2 H locs e2 hP hD hS => ?_)
  obtain ⟨hP, hD⟩ := cv (w' := CWs k a ra ia rr ii z2 ++ moW k v y2) hP hD rfl
  have hr12 : r1 = r2 := e1.trans e2.symm
  refine lv_icmp_eq (tgt := 1126) hx hb dL_law_999 (by decide) (fun _ => ?_) (fun h => absurd hr12 h)
  exact KK z2 y2 G2 H locs ls hP hD hS hl
set_option maxHeartbeats 4000000 in
set_option maxRecDepth 100000 in
theorem law_case_30 {p : Program} {e : Env} {s : State} {m : MethodId} {below : List Frame} {meth : Method} {c : Code} (l : Launch) {b L : Nat} {xs : Nat → Int32} (hL : L ≤ 3072) (C0 : lw_At p s m meth c b L xs) {D : va_G} {k : Nat → ClassId} (hG : GK D k s) {ad tv ad2 tv2 : Nat → Nat} (hE : EX ad tv (A0 s) s) (hE2 : EY ad2 tv2 (A0 s) s) {a ra ia v : Nat → Nat} {rr ii : Nat → Option Nat} (hq : RQ ra ia rr ii) {i : Int32} (hi0 : 0 ≤ i.toInt) (hi1 : i.toInt + 6 ≤ (L : Int)) {z : CSt} {y : OB} (hk : GLs z y) {H : Heap} {locs : List Loc} {ls : Array Slot} (hP : va_P D vwCl (CWs k a ra ia rr ii z ++ moW k v y) H) (hD : va_D (A0 s) (CWs k a ra ia rr ii z ++ moW k v y)) (hS : va_S (A0 s) s.heap H locs) (hl : lv_has ls 4 [(3, .int i), (2, .ref (v 0)), (1, .ref (a 0)), (0, .ref b)]) (KK : ∀ (z : CSt) (y : OB), GLs z y → ∀ (H : Heap) (locs : List Loc) (ls : Array Slot), va_P D vwCl (CWs k a ra ia rr ii z ++ moW k v y) H → va_D (A0 s) (CWs k a ra ia rr ii z ++ moW k v y) → va_S (A0 s) s.heap H locs → lv_has ls 4 [(3, .int i), (2, .ref (v 0)), (1, .ref (a 0)), (0, .ref b)] → W p l e room_1 s m #[Value.ref b] below meth c H locs 187 14115 (lw_Z below #[Value.ref b] s) (F0 m 1126 ls [])) : W p l e room_1 s m #[Value.ref b] below meth c H locs 187 14115 (lw_Z below #[Value.ref b] s) (F0 m 1004 ls []) := by
  obtain ⟨hx, hb, hr, hml, hown, hts, hX, hbl, hlocks, hgv⟩ := id C0
  have hown : s.vm.findClass RL = some m.cls := hown
  have hA : ∀ q : Nat, s.heap.size ≤ q → A0 s q := fun _ h => h
  have hbA : ¬ A0 s b := Nat.not_le.mpr hbl
  refine lv_aload_n hx hb dL_law_1004 rfl (lv_at hl 2 rfl) ?_
  refine lv_aload_n hx hb dL_law_1005 rfl (lv_at hl 3 rfl) ?_
  refine lv_iload_n hx hb dL_law_1006 rfl (lv_at hl 0 rfl) ?_
  refine lv_iconst (v := 1) hx hb dL_law_1007 (by decide) ?_
  refine lv_iadd hx hb dL_law_1008 ?_
  refine lv_topi (fun w1_1 ew1_1 => ?_)
  have tw1_1 : w1_1.toInt = i.toInt + 1 := ai_add rfl (by decide) ew1_1 (by omega) (by omega)
  refine va_sld hx hb hX hbl hbA hS (i := w1_1) (vp_in_iff.mpr ⟨by omega, by omega⟩) dL_law_1009 ?_
  refine lv_topi (fun x1_1 ex1_1 => ?_)
  refine lv_aload_n hx hb dL_law_1010 rfl (lv_at hl 3 rfl) ?_
  refine lv_iload_n hx hb dL_law_1011 rfl (lv_at hl 0 rfl) ?_
  refine lv_iconst (v := 2) hx hb dL_law_1012 (by decide) ?_
  refine lv_iadd hx hb dL_law_1013 ?_
  refine lv_topi (fun w1_2 ew1_2 => ?_)
  have tw1_2 : w1_2.toInt = i.toInt + 2 := ai_add rfl (by decide) ew1_2 (by omega) (by omega)
  refine va_sld hx hb hX hbl hbA hS (i := w1_2) (vp_in_iff.mpr ⟨by omega, by omega⟩) dL_law_1014 ?_
  refine lv_topi (fun x1_2 ex1_2 => ?_)
  refine lv_aload_n hx hb dL_law_1015 rfl (lv_at hl 3 rfl) ?_
  refine lv_iload_n hx hb dL_law_1016 rfl (lv_at hl 0 rfl) ?_
  refine lv_iconst (v := 3) hx hb dL_law_1017 (by decide) ?_
  refine lv_iadd hx hb dL_law_1018 ?_
  refine lv_topi (fun w1_3 ew1_3 => ?_)
  have tw1_3 : w1_3.toInt = i.toInt + 3 := ai_add rfl (by decide) ew1_3 (by omega) (by omega)
  refine va_sld hx hb hX hbl hbA hS (i := w1_3) (vp_in_iff.mpr ⟨by omega, by omega⟩) dL_law_1019 ?_
  refine lv_topi (fun x1_3 ex1_3 => ?_)
  refine lv_aload_n hx hb dL_law_1020 rfl (lv_at hl 3 rfl) ?_
  refine lv_iload_n hx hb dL_law_1021 rfl (lv_at hl 0 rfl) ?_
  refine lv_iconst (v := 4) hx hb dL_law_1022 (by decide) ?_
  refine lv_iadd hx hb dL_law_1023 ?_
  refine lv_topi (fun w1_4 ew1_4 => ?_)
  have tw1_4 : w1_4.toInt = i.toInt + 4 := ai_add rfl (by decide) ew1_4 (by omega) (by omega)
  refine va_sld hx hb hX hbl hbA hS (i := w1_4) (vp_in_iff.mpr ⟨by omega, by omega⟩) dL_law_1024 ?_
  refine lv_topi (fun x1_4 ex1_4 => ?_)
  obtain ⟨r0, z2, y2, t8, t9, G2⟩ := t_toasts l D k a ra ia v rr ii hq z y hk x1_1 x1_2 x1_3 x1_4
  refine hc_Vi (As := [.int x1_1, .int x1_2, .int x1_3, .int x1_4]) (rest := []) (n := 4) (wr := moW k v y) hx hb hml hown hts hG hA hP hD hS hl.1 (List.range 149) (List.range' 149 38) (t8 _) (ci := 6) (q0 := 0) rfl rfl gL_law_X8_toasts rfl ⟨rfl, rfl, Nat.le_of_ble_eq_true rfl, Nat.le_of_ble_eq_true rfl⟩ (by decide +kernel) (rng_l _ _ _ (CWlen k a ra ia rr ii z)) (rng_r _ _ _ _ (CWlen k a ra ia rr ii z) (MWlen k v y)) nd1 ⟨rfl, rfl, Nat.le_of_ble_eq_true rfl, Nat.le_of_ble_eq_true rfl, Nat.le_of_ble_eq_true rfl⟩ dL_law_1025 (fun r1 u1 H locs e1 hP hD hS => ?_)
  obtain ⟨hP, hD⟩ := cv (w' := moW k v y ++ CWs k a ra ia rr ii z2) hP hD rfl
  refine lv_pop hx hb dL_law_1028 rfl ?_
  refine lv_aload_n hx hb dL_law_1029 rfl (lv_at hl 1 rfl) ?_
  refine lv_aload_n hx hb dL_law_1030 rfl (lv_at hl 3 rfl) ?_
  refine lv_iload_n hx hb dL_law_1031 rfl (lv_at hl 0 rfl) ?_
  refine lv_iconst (v := 1) hx hb dL_law_1032 (by decide) ?_
  refine lv_iadd hx hb dL_law_1033 ?_
  refine lv_topi (fun w2_1 ew2_1 => ?_)
  have tw2_1 : w2_1.toInt = i.toInt + 1 := ai_add rfl (by decide) ew2_1 (by omega) (by omega)
  refine va_sld hx hb hX hbl hbA hS (i := w2_1) (vp_in_iff.mpr ⟨by omega, by omega⟩) dL_law_1034 ?_
  refine lv_topi (fun x2_1 ex2_1 => ?_)
  refine lv_aload_n hx hb dL_law_1035 rfl (lv_at hl 3 rfl) ?_
  refine lv_iload_n hx hb dL_law_1036 rfl (lv_at hl 0 rfl) ?_
  refine lv_iconst (v := 2) hx hb dL_law_1037 (by decide) ?_
  refine lv_iadd hx hb dL_law_1038 ?_
  refine lv_topi (fun w2_2 ew2_2 => ?_)
  have tw2_2 : w2_2.toInt = i.toInt + 2 := ai_add rfl (by decide) ew2_2 (by omega) (by omega)
  refine va_sld hx hb hX hbl hbA hS (i := w2_2) (vp_in_iff.mpr ⟨by omega, by omega⟩) dL_law_1039 ?_
  refine lv_topi (fun x2_2 ex2_2 => ?_)
  refine lv_aload_n hx hb dL_law_1040 rfl (lv_at hl 3 rfl) ?_
  refine lv_iload_n hx hb dL_law_1041 rfl (lv_at hl 0 rfl) ?_
  refine lv_iconst (v := 3) hx hb dL_law_1042 (by decide) ?_
  refine lv_iadd hx hb dL_law_1043 ?_
  refine lv_topi (fun w2_3 ew2_3 => ?_)
  have tw2_3 : w2_3.toInt = i.toInt + 3 := ai_add rfl (by decide) ew2_3 (by omega) (by omega)
  refine va_sld hx hb hX hbl hbA hS (i := w2_3) (vp_in_iff.mpr ⟨by omega, by omega⟩) dL_law_1044 ?_
  refine lv_topi (fun x2_3 ex2_3 => ?_)
  refine lv_aload_n hx hb dL_law_1045 rfl (lv_at hl 3 rfl) ?_
  refine lv_iload_n hx hb dL_law_1046 rfl (lv_at hl 0 rfl) ?_
  refine lv_iconst (v := 4) hx hb dL_law_1047 (by decide) ?_
  refine lv_iadd hx hb dL_law_1048 ?_
  refine lv_topi (fun w2_4 ew2_4 => ?_)
  have tw2_4 : w2_4.toInt = i.toInt + 4 := ai_add rfl (by decide) ew2_4 (by omega) (by omega)
  refine va_sld hx hb hX hbl hbA hS (i := w2_4) (vp_in_iff.mpr ⟨by omega, by omega⟩) dL_law_1049 ?_
  refine lv_topi (fun x2_4 ex2_4 => ?_)
  have ex1 : x2_1 = x1_1 := by rw [ex2_1, ew2_1, ex1_1, ew1_1]
  rw [← ex1] at t9
  have ex2 : x2_2 = x1_2 := by rw [ex2_2, ew2_2, ex1_2, ew1_2]
  rw [← ex2] at t9
  have ex3 : x2_3 = x1_3 := by rw [ex2_3, ew2_3, ex1_3, ew1_3]
  rw [← ex3] at t9
  have ex4 : x2_4 = x1_4 := by rw [ex2_4, ew2_4, ex1_4, ew1_4]
  rw [← ex4] at t9
  refine hc_Vi (As := [.int x2_1, .int x2_2, .int x2_3, .int x2_4]) (rest := []) (n := 4) (wr := CWs k a ra ia rr ii z2) hx hb hml hown hts hG hA hP hD hS hl.1 (List.range 38) (List.range' 38 149) (t9 _) (ci := 7) (q0 := 0) rfl rfl gL_law_X9_toasts rfl ⟨rfl, rfl, Nat.le_of_ble_eq_true rfl, Nat.le_of_ble_eq_true rfl⟩ (by decide +kernel) (rng_l _ _ _ (MWlen k v y)) (rng_r _ _ _ _ (MWlen k v y) (CWlen k a ra ia rr ii z2)) nd2 ⟨rfl, rfl, Nat.le_of_ble_eq_true rfl, Nat.le_of_ble_eq_true rfl, Nat.le_of_ble_eq_true rfl⟩ dL_law_1050 (fun r2 u2 H locs e2 hP hD hS => ?_)
  obtain ⟨hP, hD⟩ := cv (w' := CWs k a ra ia rr ii z2 ++ moW k v y2) hP hD rfl
  refine lv_pop hx hb dL_law_1053 rfl ?_
  refine lv_goto (tgt := 1126) hx hb dL_law_1054 (by decide) ?_
  exact KK z2 y2 G2 H locs ls hP hD hS hl
set_option maxHeartbeats 4000000 in
set_option maxRecDepth 100000 in
theorem law_case_31 {p : Program} {e : Env} {s : State} {m : MethodId} {below : List Frame} {meth : Method} {c : Code} (l : Launch) {b L : Nat} {xs : Nat → Int32} (hL : L ≤ 3072) (C0 : lw_At p s m meth c b L xs) {D : va_G} {k : Nat → ClassId} (hG : GK D k s) {ad tv ad2 tv2 : Nat → Nat} (hE : EX ad tv (A0 s) s) (hE2 : EY ad2 tv2 (A0 s) s) {a ra ia v : Nat → Nat} {rr ii : Nat → Option Nat} (hq : RQ ra ia rr ii) {i : Int32} (hi0 : 0 ≤ i.toInt) (hi1 : i.toInt + 6 ≤ (L : Int)) {z : CSt} {y : OB} (hk : GLs z y) {H : Heap} {locs : List Loc} {ls : Array Slot} (hP : va_P D vwCl (CWs k a ra ia rr ii z ++ moW k v y) H) (hD : va_D (A0 s) (CWs k a ra ia rr ii z ++ moW k v y)) (hS : va_S (A0 s) s.heap H locs) (hl : lv_has ls 4 [(3, .int i), (2, .ref (v 0)), (1, .ref (a 0)), (0, .ref b)]) (KK : ∀ (z : CSt) (y : OB), GLs z y → ∀ (H : Heap) (locs : List Loc) (ls : Array Slot), va_P D vwCl (CWs k a ra ia rr ii z ++ moW k v y) H → va_D (A0 s) (CWs k a ra ia rr ii z ++ moW k v y) → va_S (A0 s) s.heap H locs → lv_has ls 4 [(3, .int i), (2, .ref (v 0)), (1, .ref (a 0)), (0, .ref b)] → W p l e room_1 s m #[Value.ref b] below meth c H locs 187 14115 (lw_Z below #[Value.ref b] s) (F0 m 1126 ls [])) : W p l e room_1 s m #[Value.ref b] below meth c H locs 187 14115 (lw_Z below #[Value.ref b] s) (F0 m 1057 ls []) := by
  obtain ⟨hx, hb, hr, hml, hown, hts, hX, hbl, hlocks, hgv⟩ := id C0
  have hown : s.vm.findClass RL = some m.cls := hown
  have hA : ∀ q : Nat, s.heap.size ≤ q → A0 s q := fun _ h => h
  have hbA : ¬ A0 s b := Nat.not_le.mpr hbl
  refine lv_aload_n hx hb dL_law_1057 rfl (lv_at hl 2 rfl) ?_
  refine lv_aload_n hx hb dL_law_1058 rfl (lv_at hl 3 rfl) ?_
  refine lv_iload_n hx hb dL_law_1059 rfl (lv_at hl 0 rfl) ?_
  refine lv_iconst (v := 1) hx hb dL_law_1060 (by decide) ?_
  refine lv_iadd hx hb dL_law_1061 ?_
  refine lv_topi (fun w1_1 ew1_1 => ?_)
  have tw1_1 : w1_1.toInt = i.toInt + 1 := ai_add rfl (by decide) ew1_1 (by omega) (by omega)
  refine va_sld hx hb hX hbl hbA hS (i := w1_1) (vp_in_iff.mpr ⟨by omega, by omega⟩) dL_law_1062 ?_
  refine lv_topi (fun x1_1 ex1_1 => ?_)
  obtain ⟨r0, z2, y2, t8, t9, G2⟩ := t_count l D k a ra ia v rr ii hq z y hk x1_1
  refine hc_Vi (As := [.int x1_1]) (rest := []) (n := 1) (wr := moW k v y) hx hb hml hown hts hG hA hP hD hS hl.1 (List.range 149) (List.range' 149 38) (t8 _) (ci := 6) (q0 := 0) rfl rfl gL_law_X8_count rfl ⟨rfl, rfl, Nat.le_of_ble_eq_true rfl, Nat.le_of_ble_eq_true rfl⟩ (by decide +kernel) (rng_l _ _ _ (CWlen k a ra ia rr ii z)) (rng_r _ _ _ _ (CWlen k a ra ia rr ii z) (MWlen k v y)) nd1 ⟨rfl, rfl, Nat.le_of_ble_eq_true rfl, Nat.le_of_ble_eq_true rfl, Nat.le_of_ble_eq_true rfl⟩ dL_law_1063 (fun r1 u1 H locs e1 hP hD hS => ?_)
  obtain ⟨hP, hD⟩ := cv (w' := moW k v y ++ CWs k a ra ia rr ii z2) hP hD rfl
  refine lv_pop hx hb dL_law_1066 rfl ?_
  refine lv_aload_n hx hb dL_law_1067 rfl (lv_at hl 1 rfl) ?_
  refine lv_aload_n hx hb dL_law_1068 rfl (lv_at hl 3 rfl) ?_
  refine lv_iload_n hx hb dL_law_1069 rfl (lv_at hl 0 rfl) ?_
  refine lv_iconst (v := 1) hx hb dL_law_1070 (by decide) ?_
  refine lv_iadd hx hb dL_law_1071 ?_
  refine lv_topi (fun w2_1 ew2_1 => ?_)
  have tw2_1 : w2_1.toInt = i.toInt + 1 := ai_add rfl (by decide) ew2_1 (by omega) (by omega)
  refine va_sld hx hb hX hbl hbA hS (i := w2_1) (vp_in_iff.mpr ⟨by omega, by omega⟩) dL_law_1072 ?_
  refine lv_topi (fun x2_1 ex2_1 => ?_)
  have ex1 : x2_1 = x1_1 := by rw [ex2_1, ew2_1, ex1_1, ew1_1]
  rw [← ex1] at t9
  refine hc_Vi (As := [.int x2_1]) (rest := []) (n := 1) (wr := CWs k a ra ia rr ii z2) hx hb hml hown hts hG hA hP hD hS hl.1 (List.range 38) (List.range' 38 149) (t9 _) (ci := 7) (q0 := 0) rfl rfl gL_law_X9_count rfl ⟨rfl, rfl, Nat.le_of_ble_eq_true rfl, Nat.le_of_ble_eq_true rfl⟩ (by decide +kernel) (rng_l _ _ _ (MWlen k v y)) (rng_r _ _ _ _ (MWlen k v y) (CWlen k a ra ia rr ii z2)) nd2 ⟨rfl, rfl, Nat.le_of_ble_eq_true rfl, Nat.le_of_ble_eq_true rfl, Nat.le_of_ble_eq_true rfl⟩ dL_law_1073 (fun r2 u2 H locs e2 hP hD hS => ?_)
  obtain ⟨hP, hD⟩ := cv (w' := CWs k a ra ia rr ii z2 ++ moW k v y2) hP hD rfl
  refine lv_pop hx hb dL_law_1076 rfl ?_
  refine lv_goto (tgt := 1126) hx hb dL_law_1077 (by decide) ?_
  exact KK z2 y2 G2 H locs ls hP hD hS hl
set_option maxHeartbeats 4000000 in
set_option maxRecDepth 100000 in
theorem law_case_32 {p : Program} {e : Env} {s : State} {m : MethodId} {below : List Frame} {meth : Method} {c : Code} (l : Launch) {b L : Nat} {xs : Nat → Int32} (hL : L ≤ 3072) (C0 : lw_At p s m meth c b L xs) {D : va_G} {k : Nat → ClassId} (hG : GK D k s) {ad tv ad2 tv2 : Nat → Nat} (hE : EX ad tv (A0 s) s) (hE2 : EY ad2 tv2 (A0 s) s) {a ra ia v : Nat → Nat} {rr ii : Nat → Option Nat} (hq : RQ ra ia rr ii) {i : Int32} (hi0 : 0 ≤ i.toInt) (hi1 : i.toInt + 6 ≤ (L : Int)) {z : CSt} {y : OB} (hk : GLs z y) {H : Heap} {locs : List Loc} {ls : Array Slot} (hP : va_P D vwCl (CWs k a ra ia rr ii z ++ moW k v y) H) (hD : va_D (A0 s) (CWs k a ra ia rr ii z ++ moW k v y)) (hS : va_S (A0 s) s.heap H locs) (hl : lv_has ls 4 [(3, .int i), (2, .ref (v 0)), (1, .ref (a 0)), (0, .ref b)]) (KK : ∀ (z : CSt) (y : OB), GLs z y → ∀ (H : Heap) (locs : List Loc) (ls : Array Slot), va_P D vwCl (CWs k a ra ia rr ii z ++ moW k v y) H → va_D (A0 s) (CWs k a ra ia rr ii z ++ moW k v y) → va_S (A0 s) s.heap H locs → lv_has ls 4 [(3, .int i), (2, .ref (v 0)), (1, .ref (a 0)), (0, .ref b)] → W p l e room_1 s m #[Value.ref b] below meth c H locs 187 14115 (lw_Z below #[Value.ref b] s) (F0 m 1126 ls [])) : W p l e room_1 s m #[Value.ref b] below meth c H locs 187 14115 (lw_Z below #[Value.ref b] s) (F0 m 1080 ls []) := by
  obtain ⟨hx, hb, hr, hml, hown, hts, hX, hbl, hlocks, hgv⟩ := id C0
  have hown : s.vm.findClass RL = some m.cls := hown
  have hA : ∀ q : Nat, s.heap.size ≤ q → A0 s q := fun _ h => h
  have hbA : ¬ A0 s b := Nat.not_le.mpr hbl
  refine lv_aload_n hx hb dL_law_1080 rfl (lv_at hl 2 rfl) ?_
  refine lv_aload_n hx hb dL_law_1081 rfl (lv_at hl 3 rfl) ?_
  refine lv_iload_n hx hb dL_law_1082 rfl (lv_at hl 0 rfl) ?_
  refine lv_iconst (v := 1) hx hb dL_law_1083 (by decide) ?_
  refine lv_iadd hx hb dL_law_1084 ?_
  refine lv_topi (fun w1_1 ew1_1 => ?_)
  have tw1_1 : w1_1.toInt = i.toInt + 1 := ai_add rfl (by decide) ew1_1 (by omega) (by omega)
  refine va_sld hx hb hX hbl hbA hS (i := w1_1) (vp_in_iff.mpr ⟨by omega, by omega⟩) dL_law_1085 ?_
  refine lv_topi (fun x1_1 ex1_1 => ?_)
  obtain ⟨r0, z2, y2, t8, t9, G2⟩ := t_image l D k a ra ia v rr ii hq z y hk x1_1
  refine hc_Vi (As := [.int x1_1]) (rest := []) (n := 1) (wr := moW k v y) hx hb hml hown hts hG hA hP hD hS hl.1 (List.range 149) (List.range' 149 38) (t8 _) (ci := 6) (q0 := 0) rfl rfl gL_law_X8_image rfl ⟨rfl, rfl, Nat.le_of_ble_eq_true rfl, Nat.le_of_ble_eq_true rfl⟩ (by decide +kernel) (rng_l _ _ _ (CWlen k a ra ia rr ii z)) (rng_r _ _ _ _ (CWlen k a ra ia rr ii z) (MWlen k v y)) nd1 ⟨rfl, rfl, Nat.le_of_ble_eq_true rfl, Nat.le_of_ble_eq_true rfl, Nat.le_of_ble_eq_true rfl⟩ dL_law_1086 (fun r1 u1 H locs e1 hP hD hS => ?_)
  obtain ⟨hP, hD⟩ := cv (w' := moW k v y ++ CWs k a ra ia rr ii z2) hP hD rfl
  refine lv_pop hx hb dL_law_1089 rfl ?_
  refine lv_aload_n hx hb dL_law_1090 rfl (lv_at hl 1 rfl) ?_
  refine lv_aload_n hx hb dL_law_1091 rfl (lv_at hl 3 rfl) ?_
  refine lv_iload_n hx hb dL_law_1092 rfl (lv_at hl 0 rfl) ?_
  refine lv_iconst (v := 1) hx hb dL_law_1093 (by decide) ?_
  refine lv_iadd hx hb dL_law_1094 ?_
  refine lv_topi (fun w2_1 ew2_1 => ?_)
  have tw2_1 : w2_1.toInt = i.toInt + 1 := ai_add rfl (by decide) ew2_1 (by omega) (by omega)
  refine va_sld hx hb hX hbl hbA hS (i := w2_1) (vp_in_iff.mpr ⟨by omega, by omega⟩) dL_law_1095 ?_
  refine lv_topi (fun x2_1 ex2_1 => ?_)
  have ex1 : x2_1 = x1_1 := by rw [ex2_1, ew2_1, ex1_1, ew1_1]
  rw [← ex1] at t9
  refine hc_Vi (As := [.int x2_1]) (rest := []) (n := 1) (wr := CWs k a ra ia rr ii z2) hx hb hml hown hts hG hA hP hD hS hl.1 (List.range 38) (List.range' 38 149) (t9 _) (ci := 7) (q0 := 0) rfl rfl gL_law_X9_image rfl ⟨rfl, rfl, Nat.le_of_ble_eq_true rfl, Nat.le_of_ble_eq_true rfl⟩ (by decide +kernel) (rng_l _ _ _ (MWlen k v y)) (rng_r _ _ _ _ (MWlen k v y) (CWlen k a ra ia rr ii z2)) nd2 ⟨rfl, rfl, Nat.le_of_ble_eq_true rfl, Nat.le_of_ble_eq_true rfl, Nat.le_of_ble_eq_true rfl⟩ dL_law_1096 (fun r2 u2 H locs e2 hP hD hS => ?_)
  obtain ⟨hP, hD⟩ := cv (w' := CWs k a ra ia rr ii z2 ++ moW k v y2) hP hD rfl
  refine lv_pop hx hb dL_law_1099 rfl ?_
  refine lv_goto (tgt := 1126) hx hb dL_law_1100 (by decide) ?_
  exact KK z2 y2 G2 H locs ls hP hD hS hl
set_option maxHeartbeats 4000000 in
set_option maxRecDepth 100000 in
theorem law_case_33 {p : Program} {e : Env} {s : State} {m : MethodId} {below : List Frame} {meth : Method} {c : Code} (l : Launch) {b L : Nat} {xs : Nat → Int32} (hL : L ≤ 3072) (C0 : lw_At p s m meth c b L xs) {D : va_G} {k : Nat → ClassId} (hG : GK D k s) {ad tv ad2 tv2 : Nat → Nat} (hE : EX ad tv (A0 s) s) (hE2 : EY ad2 tv2 (A0 s) s) {a ra ia v : Nat → Nat} {rr ii : Nat → Option Nat} (hq : RQ ra ia rr ii) {i : Int32} (hi0 : 0 ≤ i.toInt) (hi1 : i.toInt + 6 ≤ (L : Int)) {z : CSt} {y : OB} (hk : GLs z y) {H : Heap} {locs : List Loc} {ls : Array Slot} (hP : va_P D vwCl (CWs k a ra ia rr ii z ++ moW k v y) H) (hD : va_D (A0 s) (CWs k a ra ia rr ii z ++ moW k v y)) (hS : va_S (A0 s) s.heap H locs) (hl : lv_has ls 4 [(3, .int i), (2, .ref (v 0)), (1, .ref (a 0)), (0, .ref b)]) (KK : ∀ (z : CSt) (y : OB), GLs z y → ∀ (H : Heap) (locs : List Loc) (ls : Array Slot), va_P D vwCl (CWs k a ra ia rr ii z ++ moW k v y) H → va_D (A0 s) (CWs k a ra ia rr ii z ++ moW k v y) → va_S (A0 s) s.heap H locs → lv_has ls 4 [(3, .int i), (2, .ref (v 0)), (1, .ref (a 0)), (0, .ref b)] → W p l e room_1 s m #[Value.ref b] below meth c H locs 187 14115 (lw_Z below #[Value.ref b] s) (F0 m 1126 ls [])) : W p l e room_1 s m #[Value.ref b] below meth c H locs 187 14115 (lw_Z below #[Value.ref b] s) (F0 m 1103 ls []) := by
  obtain ⟨hx, hb, hr, hml, hown, hts, hX, hbl, hlocks, hgv⟩ := id C0
  have hown : s.vm.findClass RL = some m.cls := hown
  have hA : ∀ q : Nat, s.heap.size ≤ q → A0 s q := fun _ h => h
  have hbA : ¬ A0 s b := Nat.not_le.mpr hbl
  refine lv_aload_n hx hb dL_law_1103 rfl (lv_at hl 2 rfl) ?_
  refine lv_aload_n hx hb dL_law_1104 rfl (lv_at hl 3 rfl) ?_
  refine lv_iload_n hx hb dL_law_1105 rfl (lv_at hl 0 rfl) ?_
  refine lv_iconst (v := 1) hx hb dL_law_1106 (by decide) ?_
  refine lv_iadd hx hb dL_law_1107 ?_
  refine lv_topi (fun w1_1 ew1_1 => ?_)
  have tw1_1 : w1_1.toInt = i.toInt + 1 := ai_add rfl (by decide) ew1_1 (by omega) (by omega)
  refine va_sld hx hb hX hbl hbA hS (i := w1_1) (vp_in_iff.mpr ⟨by omega, by omega⟩) dL_law_1108 ?_
  refine lv_topi (fun x1_1 ex1_1 => ?_)
  obtain ⟨r0, z2, y2, t8, t9, G2⟩ := t_back l D k a ra ia v rr ii hq z y hk x1_1
  refine hc_Vi (As := [.int x1_1]) (rest := []) (n := 1) (wr := moW k v y) hx hb hml hown hts hG hA hP hD hS hl.1 (List.range 149) (List.range' 149 38) (t8 _) (ci := 6) (q0 := 0) rfl rfl gL_law_X8_back rfl ⟨rfl, rfl, Nat.le_of_ble_eq_true rfl, Nat.le_of_ble_eq_true rfl⟩ (by decide +kernel) (rng_l _ _ _ (CWlen k a ra ia rr ii z)) (rng_r _ _ _ _ (CWlen k a ra ia rr ii z) (MWlen k v y)) nd1 ⟨rfl, rfl, Nat.le_of_ble_eq_true rfl, Nat.le_of_ble_eq_true rfl, Nat.le_of_ble_eq_true rfl⟩ dL_law_1109 (fun r1 u1 H locs e1 hP hD hS => ?_)
  obtain ⟨hP, hD⟩ := cv (w' := moW k v y ++ CWs k a ra ia rr ii z2) hP hD rfl
  refine lv_pop hx hb dL_law_1112 rfl ?_
  refine lv_aload_n hx hb dL_law_1113 rfl (lv_at hl 1 rfl) ?_
  refine lv_aload_n hx hb dL_law_1114 rfl (lv_at hl 3 rfl) ?_
  refine lv_iload_n hx hb dL_law_1115 rfl (lv_at hl 0 rfl) ?_
  refine lv_iconst (v := 1) hx hb dL_law_1116 (by decide) ?_
  refine lv_iadd hx hb dL_law_1117 ?_
  refine lv_topi (fun w2_1 ew2_1 => ?_)
  have tw2_1 : w2_1.toInt = i.toInt + 1 := ai_add rfl (by decide) ew2_1 (by omega) (by omega)
  refine va_sld hx hb hX hbl hbA hS (i := w2_1) (vp_in_iff.mpr ⟨by omega, by omega⟩) dL_law_1118 ?_
  refine lv_topi (fun x2_1 ex2_1 => ?_)
  have ex1 : x2_1 = x1_1 := by rw [ex2_1, ew2_1, ex1_1, ew1_1]
  rw [← ex1] at t9
  refine hc_Vi (As := [.int x2_1]) (rest := []) (n := 1) (wr := CWs k a ra ia rr ii z2) hx hb hml hown hts hG hA hP hD hS hl.1 (List.range 38) (List.range' 38 149) (t9 _) (ci := 7) (q0 := 0) rfl rfl gL_law_X9_back rfl ⟨rfl, rfl, Nat.le_of_ble_eq_true rfl, Nat.le_of_ble_eq_true rfl⟩ (by decide +kernel) (rng_l _ _ _ (MWlen k v y)) (rng_r _ _ _ _ (MWlen k v y) (CWlen k a ra ia rr ii z2)) nd2 ⟨rfl, rfl, Nat.le_of_ble_eq_true rfl, Nat.le_of_ble_eq_true rfl, Nat.le_of_ble_eq_true rfl⟩ dL_law_1119 (fun r2 u2 H locs e2 hP hD hS => ?_)
  obtain ⟨hP, hD⟩ := cv (w' := CWs k a ra ia rr ii z2 ++ moW k v y2) hP hD rfl
  refine lv_pop hx hb dL_law_1122 rfl ?_
  refine lv_goto (tgt := 1126) hx hb dL_law_1123 (by decide) ?_
  exact KK z2 y2 G2 H locs ls hP hD hS hl
end
section
/-! the law from its entry, and the claim -/
theorem dL_law_0 : decode cL_law 0 = .ok (.new 7, 3) := of_u2 ok_new 0 7 (od_ca (j := 0) lch_0 (by decide +kernel))
theorem dL_law_3 : decode cL_law 3 = .ok (.dup, 1) := of_0 ok_dup (od_ch (j := 3) lch_0 (by decide +kernel))
theorem dL_law_4 : decode cL_law 4 = .ok (.invokespecial 9, 3) := of_u2 ok_invokespecial 0 9 (od_ca (j := 4) lch_0 (by decide +kernel))
theorem dL_law_7 : decode cL_law 7 = .ok (.astore_n 1, 1) := of_0 ok_astore_n_1 (od_ch (j := 7) lch_0 (by decide +kernel))
theorem dL_law_8 : decode cL_law 8 = .ok (.new 10, 3) := of_u2 ok_new 0 10 (od_ca (j := 8) lch_0 (by decide +kernel))
theorem dL_law_11 : decode cL_law 11 = .ok (.dup, 1) := of_0 ok_dup (od_ch (j := 11) lch_0 (by decide +kernel))
theorem dL_law_12 : decode cL_law 12 = .ok (.invokespecial 12, 3) := of_u2 ok_invokespecial 0 12 (od_ca (j := 12) lch_0 (by decide +kernel))
theorem dL_law_15 : decode cL_law 15 = .ok (.astore_n 2, 1) := of_0 ok_astore_n_2 (od_ch (j := 15) lch_0 (by decide +kernel))
theorem dL_law_16 : decode cL_law 16 = .ok (.iconst 0, 1) := of_0 ok_iconst_0 (od_ch (j := 16) lch_0 (by decide +kernel))
theorem dL_law_17 : decode cL_law 17 = .ok (.istore_n 3, 1) := of_0 ok_istore_n_3 (od_ch (j := 17) lch_0 (by decide +kernel))
theorem dL_law_18 : decode cL_law 18 = .ok (.iload_n 3, 1) := of_0 ok_iload_n_3 (od_ch (j := 18) lch_0 (by decide +kernel))
theorem dL_law_19 : decode cL_law 19 = .ok (.aload_n 0, 1) := of_0 ok_aload_n_0 (od_ch (j := 19) lch_0 (by decide +kernel))
theorem dL_law_20 : decode cL_law 20 = .ok (.arraylength, 1) := of_0 ok_arraylength (od_ch (j := 20) lch_0 (by decide +kernel))
theorem dL_law_21 : decode cL_law 21 = .ok (.bipush 6, 2) := of_s1 ok_bipush 6 (od_ca (j := 21) lch_0 (by decide +kernel))
theorem dL_law_23 : decode cL_law 23 = .ok (.isub, 1) := of_0 ok_isub (od_ch (j := 23) lch_0 (by decide +kernel))
theorem dL_law_24 : decode cL_law 24 = .ok (.if_icmp .gt 1108, 3) := of_s2 ok_if_icmp_gt 4 84 (od_ca (j := 24) lch_0 (by decide +kernel))
theorem dL_law_27 : decode cL_law 27 = .ok (.aload_n 0, 1) := of_0 ok_aload_n_0 (od_ch (j := 27) lch_0 (by decide +kernel))
theorem dL_law_28 : decode cL_law 28 = .ok (.iload_n 3, 1) := of_0 ok_iload_n_3 (od_ch (j := 28) lch_0 (by decide +kernel))
theorem dL_law_29 : decode cL_law 29 = .ok (.iaload, 1) := of_0 ok_iaload (od_ch (j := 29) lch_0 (by decide +kernel))
theorem dL_law_30 : decode cL_law 30 = .ok (.bipush 63, 2) := of_s1 ok_bipush 63 (od_ca (j := 30) lch_0 (by decide +kernel))
theorem dL_law_32 : decode cL_law 32 = .ok (.iand, 1) := of_0 ok_iand (od_ch (j := 32) lch_0 (by decide +kernel))
theorem dL_law_33 : decode cL_law 33 = .ok (.tableswitch 1093 0 33 #[151, 214, 237, 250, 263, 286, 309, 342, 375, 388, 411, 434, 457, 490, 503, 546, 569, 592, 615, 638, 661, 684, 717, 740, 793, 816, 849, 892, 915, 948, 971, 1024, 1047, 1070], 151) := by decide +kernel
theorem dL_law_1126 : decode cL_law 1126 = .ok (.iinc 3 6, 3) := of_ii ok_iinc 6 (od_ca (j := 38) lch_17 (by decide +kernel))
theorem dL_law_1129 : decode cL_law 1129 = .ok (.goto (-1111), 3) := of_s2 ok_goto 251 169 (od_ca (j := 41) lch_17 (by decide +kernel))
theorem dL_law_1132 : decode cL_law 1132 = .ok (.iconst 1, 1) := of_0 ok_iconst_1 (od_ch (j := 44) lch_17 (by decide +kernel))
theorem dL_law_1133 : decode cL_law 1133 = .ok (.ireturn, 1) := of_0 ok_ireturn (od_ch (j := 45) lch_17 (by decide +kernel))
theorem sp_d34 (x : Int32) : (x.toInt < 0 ∨ 33 < x.toInt) ∨ x = 0 ∨ x = 1 ∨ x = 2 ∨ x = 3 ∨ x = 4 ∨ x = 5 ∨ x = 6 ∨ x = 7 ∨ x = 8 ∨ x = 9 ∨ x = 10 ∨ x = 11 ∨ x = 12 ∨ x = 13 ∨ x = 14 ∨ x = 15 ∨ x = 16 ∨ x = 17 ∨ x = 18 ∨ x = 19 ∨ x = 20 ∨ x = 21 ∨ x = 22 ∨ x = 23 ∨ x = 24 ∨ x = 25 ∨ x = 26 ∨ x = 27 ∨ x = 28 ∨ x = 29 ∨ x = 30 ∨ x = 31 ∨ x = 32 ∨ x = 33 := by
  simp only [sp_eq, show (0 : Int32).toInt = 0 from by decide, show (1 : Int32).toInt = 1 from by decide, show (2 : Int32).toInt = 2 from by decide, show (3 : Int32).toInt = 3 from by decide, show (4 : Int32).toInt = 4 from by decide, show (5 : Int32).toInt = 5 from by decide, show (6 : Int32).toInt = 6 from by decide, show (7 : Int32).toInt = 7 from by decide, show (8 : Int32).toInt = 8 from by decide, show (9 : Int32).toInt = 9 from by decide, show (10 : Int32).toInt = 10 from by decide, show (11 : Int32).toInt = 11 from by decide, show (12 : Int32).toInt = 12 from by decide, show (13 : Int32).toInt = 13 from by decide, show (14 : Int32).toInt = 14 from by decide, show (15 : Int32).toInt = 15 from by decide, show (16 : Int32).toInt = 16 from by decide, show (17 : Int32).toInt = 17 from by decide, show (18 : Int32).toInt = 18 from by decide, show (19 : Int32).toInt = 19 from by decide, show (20 : Int32).toInt = 20 from by decide, show (21 : Int32).toInt = 21 from by decide, show (22 : Int32).toInt = 22 from by decide, show (23 : Int32).toInt = 23 from by decide, show (24 : Int32).toInt = 24 from by decide, show (25 : Int32).toInt = 25 from by decide, show (26 : Int32).toInt = 26 from by decide, show (27 : Int32).toInt = 27 from by decide, show (28 : Int32).toInt = 28 from by decide, show (29 : Int32).toInt = 29 from by decide, show (30 : Int32).toInt = 30 from by decide, show (31 : Int32).toInt = 31 from by decide, show (32 : Int32).toInt = 32 from by decide, show (33 : Int32).toInt = 33 from by decide]
  omega
set_option maxHeartbeats 4000000 in
set_option maxRecDepth 100000 in
theorem law_loop {p : Program} {e : Env} {s : State} {m : MethodId} {below : List Frame} {meth : Method} {c : Code} (l : Launch) {b L : Nat} {xs : Nat → Int32} (hL : L ≤ 3072) (C0 : lw_At p s m meth c b L xs) {D : va_G} {k : Nat → ClassId} (hG : GK D k s) {ad tv ad2 tv2 : Nat → Nat} (hE : EX ad tv (A0 s) s) (hE2 : EY ad2 tv2 (A0 s) s) {a ra ia v : Nat → Nat} {rr ii : Nat → Option Nat} (hq : RQ ra ia rr ii) : ∀ (fu : Nat) (i : Int32) (z : CSt) (y : OB), 0 ≤ i.toInt → i.toInt ≤ 4000 → (L : Int) - i.toInt < (fu : Int) → GLs z y → ∀ (H : Heap) (locs : List Loc) (ls : Array Slot), va_P D vwCl (CWs k a ra ia rr ii z ++ moW k v y) H → va_D (A0 s) (CWs k a ra ia rr ii z ++ moW k v y) → va_S (A0 s) s.heap H locs → lv_has ls 4 [(3, .int i), (2, .ref (v 0)), (1, .ref (a 0)), (0, .ref b)] → W p l e room_1 s m #[Value.ref b] below meth c H locs 187 14115 (lw_Z below #[Value.ref b] s) (F0 m 18 ls []) := by
  obtain ⟨hx, hb, hr, hml, hown, hts, hX, hbl, hlocks, hgv⟩ := id C0
  have hbA : ¬ A0 s b := Nat.not_le.mpr hbl
  intro fu
  have fin : ∀ (i : Int32) (z : CSt) (y : OB), (L : Int) - 6 < i.toInt → 0 ≤ i.toInt → i.toInt ≤ 4000 → ∀ (H : Heap) (locs : List Loc) (ls : Array Slot), va_S (A0 s) s.heap H locs → lv_has ls 4 [(3, .int i), (2, .ref (v 0)), (1, .ref (a 0)), (0, .ref b)] → W p l e room_1 s m #[Value.ref b] below meth c H locs 187 14115 (lw_Z below #[Value.ref b] s) (F0 m 18 ls []) := by
    intro i z y hi hi0 hi4 H locs ls hS hl
    refine lv_iload_n hx hb dL_law_18 rfl (lv_at hl 0 rfl) ?_
    refine lv_aload_n hx hb dL_law_19 rfl (lv_at hl 3 rfl) ?_
    refine va_slen hx hb hX hbl hbA hS dL_law_20 ?_
    refine lv_bipush (v := 6) hx hb dL_law_21 (by decide) ?_
    refine lv_isub hx hb dL_law_23 ?_
    refine lv_topi (fun w ew => ?_)
    have tw : w.toInt = (L : Int) - 6 := ai_sub (nI_toInt (by omega)) (by decide) ew (by omega) (by omega)
    refine lv_icmp_gt (tgt := 1132) hx hb dL_law_24 (by decide) (fun _ => ?_) (fun h => absurd (cd_gt_t (a := i.toInt) (b := w.toInt) rfl rfl (by omega)) h)
    refine lv_iconst (v := 1) hx hb dL_law_1132 (by decide) ?_
    refine va_forget (fun q hq => hS.2.2 q hq) ?_
    refine W.widen (k := 600000) (n := 7302250) (Nat.le_of_ble_eq_true rfl) (Nat.le_of_ble_eq_true rfl) ?_
    exact lw_ret hx hb hr hlocks dL_law_1133
  induction fu with
  | zero =>
    intro i z y h0 h4 hf hk H locs ls hP hD hS hl
    exact fin i z y (by omega) h0 h4 H locs ls hS hl
  | succ fu ih =>
    intro i z y h0 h4 hf hk H locs ls hP hD hS hl
    rcases (show (L : Int) - 6 < i.toInt ∨ i.toInt ≤ (L : Int) - 6 from by omega) with hlt | hge
    · exact fin i z y hlt h0 h4 H locs ls hS hl
    have KK : ∀ (z : CSt) (y : OB), GLs z y → ∀ (H : Heap) (locs : List Loc) (ls : Array Slot), va_P D vwCl (CWs k a ra ia rr ii z ++ moW k v y) H → va_D (A0 s) (CWs k a ra ia rr ii z ++ moW k v y) → va_S (A0 s) s.heap H locs → lv_has ls 4 [(3, .int i), (2, .ref (v 0)), (1, .ref (a 0)), (0, .ref b)] → W p l e room_1 s m #[Value.ref b] below meth c H locs 187 14115 (lw_Z below #[Value.ref b] s) (F0 m 1126 ls []) := by
      intro z y hk H locs ls hP hD hS hl
      obtain ⟨i2, ei2⟩ : ∃ q : Int32, q = i + 6 := ⟨_, rfl⟩
      have ti2 : i2.toInt = i.toInt + 6 := ai_add rfl (by decide) ei2 (by omega) (by omega)
      refine lv_iinc (v := i2) (lv' := [(3, .int i2), (2, .ref (v 0)), (1, .ref (a 0)), (0, .ref b)]) hx hb dL_law_1126 hl (k := 0) rfl (by rw [ei2]; rfl) (by decide) rfl (fun ls hl => ?_)
      refine lv_goto (tgt := 18) hx hb dL_law_1129 (by decide) ?_
      exact ih i2 z y (by omega) (by omega) (by omega) hk H locs ls hP hD hS hl
    refine lv_iload_n hx hb dL_law_18 rfl (lv_at hl 0 rfl) ?_
    refine lv_aload_n hx hb dL_law_19 rfl (lv_at hl 3 rfl) ?_
    refine va_slen hx hb hX hbl hbA hS dL_law_20 ?_
    refine lv_bipush (v := 6) hx hb dL_law_21 (by decide) ?_
    refine lv_isub hx hb dL_law_23 ?_
    refine lv_topi (fun w ew => ?_)
    have tw : w.toInt = (L : Int) - 6 := ai_sub (nI_toInt (by omega)) (by decide) ew (by omega) (by omega)
    refine lv_icmp_gt (tgt := 1132) hx hb dL_law_24 (by decide) (fun h => absurd h (cd_gt_f (a := i.toInt) (b := w.toInt) rfl rfl (by omega))) (fun _ => ?_)
    refine lv_aload_n hx hb dL_law_27 rfl (lv_at hl 3 rfl) ?_
    refine lv_iload_n hx hb dL_law_28 rfl (lv_at hl 0 rfl) ?_
    refine va_sld hx hb hX hbl hbA hS (i := i) (vp_in_iff.mpr ⟨by omega, by omega⟩) dL_law_29 ?_
    refine lv_bipush (v := 63) hx hb dL_law_30 (by decide) ?_
    refine lv_iand hx hb dL_law_32 ?_
    refine lv_topi (fun q eq => ?_)
    rcases sp_d34 q with hO | rfl | rfl | rfl | rfl | rfl | rfl | rfl | rfl | rfl | rfl | rfl | rfl | rfl | rfl | rfl | rfl | rfl | rfl | rfl | rfl | rfl | rfl | rfl | rfl | rfl | rfl | rfl | rfl | rfl | rfl | rfl | rfl | rfl | rfl
    · refine lv_tableOut (tgt := 1126) hx hb dL_law_33 hO (by decide) ?_
      exact KK z y hk H locs ls hP hD hS hl
    · refine lv_tableIn (tgt := 184) hx hb dL_law_33 (by decide) (by decide) (by rfl) (by decide) ?_
      exact law_case_0 l hL C0 hG hE hE2 hq h0 (by omega) hk hP hD hS hl KK
    · refine lv_tableIn (tgt := 247) hx hb dL_law_33 (by decide) (by decide) (by rfl) (by decide) ?_
      exact law_case_1 l hL C0 hG hE hE2 hq h0 (by omega) hk hP hD hS hl KK
    · refine lv_tableIn (tgt := 270) hx hb dL_law_33 (by decide) (by decide) (by rfl) (by decide) ?_
      exact law_case_2 l hL C0 hG hE hE2 hq h0 (by omega) hk hP hD hS hl KK
    · refine lv_tableIn (tgt := 283) hx hb dL_law_33 (by decide) (by decide) (by rfl) (by decide) ?_
      exact law_case_3 l hL C0 hG hE hE2 hq h0 (by omega) hk hP hD hS hl KK
    · refine lv_tableIn (tgt := 296) hx hb dL_law_33 (by decide) (by decide) (by rfl) (by decide) ?_
      exact law_case_4 l hL C0 hG hE hE2 hq h0 (by omega) hk hP hD hS hl KK
    · refine lv_tableIn (tgt := 319) hx hb dL_law_33 (by decide) (by decide) (by rfl) (by decide) ?_
      exact law_case_5 l hL C0 hG hE hE2 hq h0 (by omega) hk hP hD hS hl KK
    · refine lv_tableIn (tgt := 342) hx hb dL_law_33 (by decide) (by decide) (by rfl) (by decide) ?_
      exact law_case_6 l hL C0 hG hE hE2 hq h0 (by omega) hk hP hD hS hl KK
    · refine lv_tableIn (tgt := 375) hx hb dL_law_33 (by decide) (by decide) (by rfl) (by decide) ?_
      exact law_case_7 l hL C0 hG hE hE2 hq h0 (by omega) hk hP hD hS hl KK
    · refine lv_tableIn (tgt := 408) hx hb dL_law_33 (by decide) (by decide) (by rfl) (by decide) ?_
      exact law_case_8 l hL C0 hG hE hE2 hq h0 (by omega) hk hP hD hS hl KK
    · refine lv_tableIn (tgt := 421) hx hb dL_law_33 (by decide) (by decide) (by rfl) (by decide) ?_
      exact law_case_9 l hL C0 hG hE hE2 hq h0 (by omega) hk hP hD hS hl KK
    · refine lv_tableIn (tgt := 444) hx hb dL_law_33 (by decide) (by decide) (by rfl) (by decide) ?_
      exact law_case_10 l hL C0 hG hE hE2 hq h0 (by omega) hk hP hD hS hl KK
    · refine lv_tableIn (tgt := 467) hx hb dL_law_33 (by decide) (by decide) (by rfl) (by decide) ?_
      exact law_case_11 l hL C0 hG hE hE2 hq h0 (by omega) hk hP hD hS hl KK
    · refine lv_tableIn (tgt := 490) hx hb dL_law_33 (by decide) (by decide) (by rfl) (by decide) ?_
      exact law_case_12 l hL C0 hG hE hE2 hq h0 (by omega) hk hP hD hS hl KK
    · refine lv_tableIn (tgt := 523) hx hb dL_law_33 (by decide) (by decide) (by rfl) (by decide) ?_
      exact law_case_13 l hL C0 hG hE hE2 hq h0 (by omega) hk hP hD hS hl KK
    · refine lv_tableIn (tgt := 536) hx hb dL_law_33 (by decide) (by decide) (by rfl) (by decide) ?_
      exact law_case_14 l hL C0 hG hE hE2 hq h0 (by omega) hk hP hD hS hl KK
    · refine lv_tableIn (tgt := 579) hx hb dL_law_33 (by decide) (by decide) (by rfl) (by decide) ?_
      exact law_case_15 l hL C0 hG hE hE2 hq h0 (by omega) hk hP hD hS hl KK
    · refine lv_tableIn (tgt := 602) hx hb dL_law_33 (by decide) (by decide) (by rfl) (by decide) ?_
      exact law_case_16 l hL C0 hG hE hE2 hq h0 (by omega) hk hP hD hS hl KK
    · refine lv_tableIn (tgt := 625) hx hb dL_law_33 (by decide) (by decide) (by rfl) (by decide) ?_
      exact law_case_17 l hL C0 hG hE hE2 hq h0 (by omega) hk hP hD hS hl KK
    · refine lv_tableIn (tgt := 648) hx hb dL_law_33 (by decide) (by decide) (by rfl) (by decide) ?_
      exact law_case_18 l hL C0 hG hE hE2 hq h0 (by omega) hk hP hD hS hl KK
    · refine lv_tableIn (tgt := 671) hx hb dL_law_33 (by decide) (by decide) (by rfl) (by decide) ?_
      exact law_case_19 l hL C0 hG hE hE2 hq h0 (by omega) hk hP hD hS hl KK
    · refine lv_tableIn (tgt := 694) hx hb dL_law_33 (by decide) (by decide) (by rfl) (by decide) ?_
      exact law_case_20 l hL C0 hG hE hE2 hq h0 (by omega) hk hP hD hS hl KK
    · refine lv_tableIn (tgt := 717) hx hb dL_law_33 (by decide) (by decide) (by rfl) (by decide) ?_
      exact law_case_21 l hL C0 hG hE hE2 hq h0 (by omega) hk hP hD hS hl KK
    · refine lv_tableIn (tgt := 750) hx hb dL_law_33 (by decide) (by decide) (by rfl) (by decide) ?_
      exact law_case_22 l hL C0 hG hE hE2 hq h0 (by omega) hk hP hD hS hl KK
    · refine lv_tableIn (tgt := 773) hx hb dL_law_33 (by decide) (by decide) (by rfl) (by decide) ?_
      exact law_case_23 l hL C0 hG hE hE2 hq h0 (by omega) hk hP hD hS hl KK
    · refine lv_tableIn (tgt := 826) hx hb dL_law_33 (by decide) (by decide) (by rfl) (by decide) ?_
      exact law_case_24 l hL C0 hG hE hE2 hq h0 (by omega) hk hP hD hS hl KK
    · refine lv_tableIn (tgt := 849) hx hb dL_law_33 (by decide) (by decide) (by rfl) (by decide) ?_
      exact law_case_25 l hL C0 hG hE hE2 hq h0 (by omega) hk hP hD hS hl KK
    · refine lv_tableIn (tgt := 882) hx hb dL_law_33 (by decide) (by decide) (by rfl) (by decide) ?_
      exact law_case_26 l hL C0 hG hE hE2 hq h0 (by omega) hk hP hD hS hl KK
    · refine lv_tableIn (tgt := 925) hx hb dL_law_33 (by decide) (by decide) (by rfl) (by decide) ?_
      exact law_case_27 l hL C0 hG hE hE2 hq h0 (by omega) hk hP hD hS hl KK
    · refine lv_tableIn (tgt := 948) hx hb dL_law_33 (by decide) (by decide) (by rfl) (by decide) ?_
      exact law_case_28 l hL C0 hG hE hE2 hq h0 (by omega) hk hP hD hS hl KK
    · refine lv_tableIn (tgt := 981) hx hb dL_law_33 (by decide) (by decide) (by rfl) (by decide) ?_
      exact law_case_29 l hL C0 hG hE hE2 hq h0 (by omega) hk hP hD hS hl KK
    · refine lv_tableIn (tgt := 1004) hx hb dL_law_33 (by decide) (by decide) (by rfl) (by decide) ?_
      exact law_case_30 l hL C0 hG hE hE2 hq h0 (by omega) hk hP hD hS hl KK
    · refine lv_tableIn (tgt := 1057) hx hb dL_law_33 (by decide) (by decide) (by rfl) (by decide) ?_
      exact law_case_31 l hL C0 hG hE hE2 hq h0 (by omega) hk hP hD hS hl KK
    · refine lv_tableIn (tgt := 1080) hx hb dL_law_33 (by decide) (by decide) (by rfl) (by decide) ?_
      exact law_case_32 l hL C0 hG hE hE2 hq h0 (by omega) hk hP hD hS hl KK
    · refine lv_tableIn (tgt := 1103) hx hb dL_law_33 (by decide) (by decide) (by rfl) (by decide) ?_
      exact law_case_33 l hL C0 hG hE hE2 hq h0 (by omega) hk hP hD hS hl KK
set_option maxHeartbeats 4000000 in
set_option maxRecDepth 100000 in
theorem whole_start {p : Program} {e : Env} {s : State} {m : MethodId} {below : List Frame} {meth : Method} {c : Code} (l : Launch) {b L : Nat} {xs : Nat → Int32} (hL : L ≤ 3072) (C0 : lw_At p s m meth c b L xs) : W p l e room_1 s m #[Value.ref b] below meth c s.heap [] 0 0 (lw_Z below #[Value.ref b] s) (entryFrame m ([Value.ref b] : List Value).toArray 4) := by
  obtain ⟨hx, hb, hr, hml, hown, hts, hX, hbl, hlocks, hgv⟩ := id C0
  have hown : s.vm.findClass RL = some m.cls := hown
  have hA : ∀ q : Nat, s.heap.size ≤ q → (fun q : Nat => s.heap.size ≤ q) q := fun _ h => h
  have hbA : ¬ (fun q : Nat => s.heap.size ≤ q) b := Nat.not_le.mpr hbl
  obtain ⟨D, k, hG⟩ := law_GK hts
  obtain ⟨ad, tv, hE⟩ := law_tX hts hgv
  obtain ⟨ad2, tv2, hE2⟩ := law_tY hts hgv
  have hS : va_S (fun q : Nat => s.heap.size ≤ q) s.heap s.heap [] := va_S.rf
  have hP : va_P D vwCl [] s.heap := fun k q h => by simp at h
  have hD : va_D (fun q : Nat => s.heap.size ≤ q) [] := ⟨fun i j p q h => by simp at h, fun k q h => by simp at h⟩
  have hl := lv_entry ([.ref b]) (n := 4) (Nat.le_of_ble_eq_true rfl)
  rw [lg_entry_eq]
  generalize (lg_sl ([.ref b]) ++ List.replicate (4 - (lg_sl ([.ref b])).length) Slot.unset).toArray = ls at hl ⊢
  have hl : lv_has ls 4 [(0, .ref b)] := hl
  refine va_new (ci := 6) (fs := [.null, .null, .int 0, .null, .null, .null, .null, .null, .null, .null, .null, .null]) (C := RX8) (T := TX8) (N := 12) hx hb hts inX8 tyX8 tyX8_ok hown (hts (.classLink RL 7 RX8) (List.mem_of_getElem? (i := 105) (by decide +kernel))) (hts (.instantiable RX8 12) (List.mem_of_getElem? (i := 106) (by decide +kernel))) (hts (.initialized RX8) (List.mem_of_getElem? (i := 87) (by decide +kernel))) hG.1 hP hD hS hA rfl (fun j hj => match j, hj with | 0, _ => rfl | 1, _ => rfl | 2, _ => rfl | 3, _ => rfl | 4, _ => rfl | 5, _ => rfl | 6, _ => rfl | 7, _ => rfl | 8, _ => rfl | 9, _ => rfl | 10, _ => rfl | 11, _ => rfl | n + 12, h => absurd h (by omega)) (Nat.le_of_ble_eq_true rfl) (Nat.le_of_ble_eq_true rfl) dL_law_0 (fun qx H hP hD hS => ?_)
  have hP : va_P D vwCl (([(qx, .inr (6, [.null, .null, .int 0, .null, .null, .null, .null, .null, .null, .null, .null, .null]))] : va_W)) H := hP
  have hD : va_D (fun q : Nat => s.heap.size ≤ q) (([(qx, .inr (6, [.null, .null, .int 0, .null, .null, .null, .null, .null, .null, .null, .null, .null]))] : va_W)) := hD
  refine lv_dup hx hb dL_law_3 rfl ?_
  refine hc_I (As := []) (rest := [.ref qx]) (n := 0) (wr := []) hx hb hml hown hts hG hA hP hD hS hl.1 [0] [] (k_X8_init l D k _ qx) ggL_law_X8_init rfl ⟨rfl, rfl, Nat.le_of_ble_eq_true rfl, Nat.le_of_ble_eq_true rfl⟩ (hts (.initialized RX8) (List.mem_of_getElem? (i := 87) (by decide +kernel))) (hts (.methodLink RL 9 yX8_init) (List.mem_of_getElem? (i := 107) (by decide +kernel))) (hts (.instanceMethod yX8_init) (List.mem_of_getElem? (i := 108) (by decide +kernel))) rfl (by decide +kernel) rfl rfl ⟨by decide +kernel, by decide +kernel, by decide +kernel⟩ ⟨rfl, rfl, Nat.le_of_ble_eq_true rfl, Nat.le_of_ble_eq_true rfl, Nat.le_of_ble_eq_true rfl⟩ dL_law_4 (fun u H locs hw hP hD hS => ?_)
  obtain ⟨a, ra, ia, rr, ii⟩ := u
  obtain ⟨ha, hq⟩ := hw
  have ha : a 0 = qx := ha
  have hq : RQ ra ia rr ii := hq
  have hP9 : va_P D vwCl (CWs k a ra ia rr ii s0) H := hP
  have hD9 : va_D (fun q : Nat => s.heap.size ≤ q) (CWs k a ra ia rr ii s0) := hD
  subst ha
  have hP := hP9
  have hD := hD9
  refine lv_astore_n (lv' := [(1, .ref (a 0)), (0, .ref b)]) hx hb dL_law_7 rfl hl (by decide) rfl (fun ls hl => ?_)
  refine va_new (ci := 7) (fs := [.int 0, .null, .null, .null, .null, .null, .null, .null, .null, .null, .null, .null, .null, .null, .null, .null, .null, .null, .int 0, .int 0, .int 0, .int 0, .int 0, .int 0, .int 0, .int 0, .int 0, .int 0, .null, .null, .null, .null, .null, .null, .null, .null, .null, .null, .null, .null, .null, .int 0, .int 0, .int 0, .null, .null, .null, .null, .null, .null, .null, .int 0, .int 0]) (C := RX9) (T := TX9) (N := 53) hx hb hts inX9 tyX9 tyX9_ok hown (hts (.classLink RL 10 RX9) (List.mem_of_getElem? (i := 947) (by decide +kernel))) (hts (.instantiable RX9 53) (List.mem_of_getElem? (i := 948) (by decide +kernel))) (hts (.initialized RX9) (List.mem_of_getElem? (i := 94) (by decide +kernel))) hG.1 hP hD hS hA rfl (fun j hj => match j, hj with | 0, _ => rfl | 1, _ => rfl | 2, _ => rfl | 3, _ => rfl | 4, _ => rfl | 5, _ => rfl | 6, _ => rfl | 7, _ => rfl | 8, _ => rfl | 9, _ => rfl | 10, _ => rfl | 11, _ => rfl | 12, _ => rfl | 13, _ => rfl | 14, _ => rfl | 15, _ => rfl | 16, _ => rfl | 17, _ => rfl | 18, _ => rfl | 19, _ => rfl | 20, _ => rfl | 21, _ => rfl | 22, _ => rfl | 23, _ => rfl | 24, _ => rfl | 25, _ => rfl | 26, _ => rfl | 27, _ => rfl | 28, _ => rfl | 29, _ => rfl | 30, _ => rfl | 31, _ => rfl | 32, _ => rfl | 33, _ => rfl | 34, _ => rfl | 35, _ => rfl | 36, _ => rfl | 37, _ => rfl | 38, _ => rfl | 39, _ => rfl | 40, _ => rfl | 41, _ => rfl | 42, _ => rfl | 43, _ => rfl | 44, _ => rfl | 45, _ => rfl | 46, _ => rfl | 47, _ => rfl | 48, _ => rfl | 49, _ => rfl | 50, _ => rfl | 51, _ => rfl | 52, _ => rfl | n + 53, h => absurd h (by omega)) (Nat.le_of_ble_eq_true rfl) (Nat.le_of_ble_eq_true rfl) dL_law_8 (fun qm H hP hD hS => ?_)
  have hP : va_P D vwCl (CWs k a ra ia rr ii s0 ++ (([(qm, .inr (7, [.int 0, .null, .null, .null, .null, .null, .null, .null, .null, .null, .null, .null, .null, .null, .null, .null, .null, .null, .int 0, .int 0, .int 0, .int 0, .int 0, .int 0, .int 0, .int 0, .int 0, .int 0, .null, .null, .null, .null, .null, .null, .null, .null, .null, .null, .null, .null, .null, .int 0, .int 0, .int 0, .null, .null, .null, .null, .null, .null, .null, .int 0, .int 0]))] : va_W))) H := hP
  have hD : va_D (fun q : Nat => s.heap.size ≤ q) (CWs k a ra ia rr ii s0 ++ (([(qm, .inr (7, [.int 0, .null, .null, .null, .null, .null, .null, .null, .null, .null, .null, .null, .null, .null, .null, .null, .null, .null, .int 0, .int 0, .int 0, .int 0, .int 0, .int 0, .int 0, .int 0, .int 0, .int 0, .null, .null, .null, .null, .null, .null, .null, .null, .null, .null, .null, .null, .null, .int 0, .int 0, .int 0, .null, .null, .null, .null, .null, .null, .null, .int 0, .int 0]))] : va_W))) := hD
  refine lv_dup hx hb dL_law_11 rfl ?_
  refine hc_I (As := []) (rest := [.ref qm]) (n := 0) (wr := CWs k a ra ia rr ii s0) hx hb hml hown hts hG hA hP hD hS hl.1 _ _ (k_X9_init l D k _ qm) ggL_law_X9_init rfl ⟨rfl, rfl, Nat.le_of_ble_eq_true rfl, Nat.le_of_ble_eq_true rfl⟩ (hts (.initialized RX9) (List.mem_of_getElem? (i := 94) (by decide +kernel))) (hts (.methodLink RL 12 yX9_init) (List.mem_of_getElem? (i := 949) (by decide +kernel))) (hts (.instanceMethod yX9_init) (List.mem_of_getElem? (i := 950) (by decide +kernel))) rfl (by decide +kernel) (q_r _ _) (q_l _ _) (q_nd2 _ _) ⟨rfl, rfl, Nat.le_of_ble_eq_true rfl, Nat.le_of_ble_eq_true rfl, Nat.le_of_ble_eq_true rfl⟩ dL_law_12 (fun v H locs hw hP hD hS => ?_)
  have hv : v 0 = qm := hw
  have hP8 : va_P D vwCl (CWs k a ra ia rr ii s0 ++ moW k v mo0) H := hP
  have hD8 : va_D (fun q : Nat => s.heap.size ≤ q) (CWs k a ra ia rr ii s0 ++ moW k v mo0) := hD
  subst hv
  have hP := hP8
  have hD := hD8
  refine lv_astore_n (lv' := [(2, .ref (v 0)), (1, .ref (a 0)), (0, .ref b)]) hx hb dL_law_15 rfl hl (by decide) rfl (fun ls hl => ?_)
  refine lv_iconst (v := 0) hx hb dL_law_16 (by decide) ?_
  refine lv_istore_n (lv' := [(3, .int 0), (2, .ref (v 0)), (1, .ref (a 0)), (0, .ref b)]) hx hb dL_law_17 rfl hl (by decide) rfl (fun ls hl => ?_)
  refine W.widen (k := 187) (n := 14115) (Nat.le_of_ble_eq_true rfl) (Nat.le_of_ble_eq_true rfl) ?_
  exact law_loop l hL C0 hG hE hE2 hq 5000 0 s0 mo0 (by decide) (by decide) (by rw [sp0]; omega) GLs0 H locs ls hP hD hS hl
end
