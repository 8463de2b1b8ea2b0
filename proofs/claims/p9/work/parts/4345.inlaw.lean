/-! the law's words among the tables', by their places -/
theorem mem_rk {big : List Cond} {Rs : List (List Cond)} (hb : subq big Rs) {ws : List Cond} (ps : List (Nat × Nat)) (hp : ps.map (fun i => (Rs[i.1]?).bind (fun l => l[i.2]?)) = ws.map some) : ∀ w ∈ ws, w ∈ big := by
  intro w hw
  have h2 : some w ∈ ws.map some := List.mem_map.mpr ⟨w, hw, rfl⟩
  rw [← hp] at h2
  obtain ⟨i, -, hi⟩ := List.mem_map.mp h2
  obtain ⟨l, hl, hi⟩ := Option.bind_eq_some_iff.mp hi
  exact subq_m hb l (List.mem_of_getElem? hl) w (List.mem_of_getElem? hi)
theorem tq_tbl : subq lw_tbl [k2_sels lw_privs, tables_1_1, tables_1_2, tables_1_3, tables_1_4, tables_1_5, tables_1_6, tables_1_7] := ⟨fun w h => (show w ∈ lw_tbl from List.mem_append_left _ h), ⟨fun w h => (show w ∈ lw_tbl from List.mem_append_right _ (show w ∈ tables_1 from List.mem_append_left _ h)), ⟨fun w h => (show w ∈ lw_tbl from List.mem_append_right _ (show w ∈ tables_1 from List.mem_append_right _ (List.mem_append_left _ h))), ⟨fun w h => (show w ∈ lw_tbl from List.mem_append_right _ (show w ∈ tables_1 from List.mem_append_right _ (List.mem_append_right _ (List.mem_append_left _ h)))), ⟨fun w h => (show w ∈ lw_tbl from List.mem_append_right _ (show w ∈ tables_1 from List.mem_append_right _ (List.mem_append_right _ (List.mem_append_right _ (List.mem_append_left _ h))))), ⟨fun w h => (show w ∈ lw_tbl from List.mem_append_right _ (show w ∈ tables_1 from List.mem_append_right _ (List.mem_append_right _ (List.mem_append_right _ (List.mem_append_right _ (List.mem_append_left _ h)))))), ⟨fun w h => (show w ∈ lw_tbl from List.mem_append_right _ (show w ∈ tables_1 from List.mem_append_right _ (List.mem_append_right _ (List.mem_append_right _ (List.mem_append_right _ (List.mem_append_right _ (List.mem_append_left _ h))))))), ⟨fun w h => (show w ∈ lw_tbl from List.mem_append_right _ (show w ∈ tables_1 from List.mem_append_right _ (List.mem_append_right _ (List.mem_append_right _ (List.mem_append_right _ (List.mem_append_right _ (List.mem_append_right _ (h)))))))), trivial⟩⟩⟩⟩⟩⟩⟩⟩
set_option maxRecDepth 20000 in
theorem in_wsL_law_r1 : ∀ w ∈ wsL_law_r1, w ∈ lw_tbl := mem_rk tq_tbl ([(1, 19), (1, 20), (1, 1), (4, 141), (4, 142), (1, 8), (1, 21), (1, 22), (1, 23), (1, 24), (1, 25), (1, 26), (1, 27), (1, 28), (1, 2), (2, 16), (1, 62), (2, 17), (2, 18), (1, 64), (1, 65), (1, 3), (2, 19), (2, 20)] : List (Nat × Nat)) rfl
set_option maxRecDepth 20000 in
theorem in_wsL_law_r2 : ∀ w ∈ wsL_law_r2, w ∈ lw_tbl := mem_rk tq_tbl ([(2, 14), (2, 21), (1, 220), (1, 71), (1, 4), (2, 22), (2, 23), (1, 61), (2, 24), (2, 25), (2, 26), (2, 27), (1, 222), (1, 7), (1, 30), (1, 31), (1, 32), (1, 60), (1, 33), (1, 34), (1, 36), (1, 37), (1, 38), (1, 39)] : List (Nat × Nat)) rfl
set_option maxRecDepth 20000 in
theorem in_wsL_law_r3 : ∀ w ∈ wsL_law_r3, w ∈ lw_tbl := mem_rk tq_tbl ([(1, 40), (1, 41), (1, 67), (1, 68), (1, 69), (1, 70), (1, 198), (1, 155), (1, 156), (1, 5), (1, 200), (1, 178), (1, 179), (1, 6), (1, 202), (1, 204), (1, 206), (1, 73), (1, 74), (1, 75), (1, 76), (1, 79), (1, 82), (1, 85)] : List (Nat × Nat)) rfl
set_option maxRecDepth 20000 in
theorem in_wsL_law_r4 : ∀ w ∈ wsL_law_r4, w ∈ lw_tbl := mem_rk tq_tbl ([(1, 88), (1, 90), (1, 93), (1, 96), (1, 99), (1, 102), (1, 105), (1, 108), (1, 111), (1, 114), (1, 115), (1, 116), (1, 118), (1, 158), (1, 159), (1, 160), (1, 161), (1, 162), (1, 163), (1, 164), (1, 165), (1, 181), (1, 182), (1, 183)] : List (Nat × Nat)) rfl
set_option maxRecDepth 20000 in
theorem in_wsL_law_r5 : ∀ w ∈ wsL_law_r5, w ∈ lw_tbl := mem_rk tq_tbl ([(1, 184), (1, 185), (1, 186), (1, 187), (1, 224), (1, 225), (1, 226), (1, 227), (1, 228), (1, 229), (1, 230), (2, 15), (1, 231), (1, 232), (1, 234), (1, 235), (4, 143), (4, 144), (4, 145), (4, 146), (4, 147), (4, 148), (4, 149), (4, 150)] : List (Nat × Nat)) rfl
set_option maxRecDepth 20000 in
theorem in_wsL_law_r6 : ∀ w ∈ wsL_law_r6, w ∈ lw_tbl := mem_rk tq_tbl ([(4, 151), (4, 152), (4, 153), (4, 154), (4, 155), (4, 156), (4, 157), (4, 158), (4, 159), (4, 160), (4, 161), (4, 162), (4, 163), (4, 173), (4, 174), (4, 175), (4, 176), (4, 177), (4, 178), (4, 179), (4, 180), (4, 181), (4, 182), (4, 183)] : List (Nat × Nat)) rfl
set_option maxRecDepth 20000 in
theorem in_wsL_law_r7 : ∀ w ∈ wsL_law_r7, w ∈ lw_tbl := mem_rk tq_tbl ([(4, 184), (4, 185), (4, 186), (4, 190), (4, 191), (4, 192), (4, 193), (4, 194), (4, 195), (4, 196), (2, 53), (2, 54), (2, 55), (2, 56), (1, 35), (2, 57), (2, 58), (2, 59), (2, 60), (5, 66), (5, 67), (5, 68), (5, 69), (4, 164)] : List (Nat × Nat)) rfl
set_option maxRecDepth 20000 in
theorem in_wsL_law_r8 : ∀ w ∈ wsL_law_r8, w ∈ lw_tbl := mem_rk tq_tbl ([(5, 70), (5, 72), (0, 19), (5, 73), (2, 61), (2, 62), (2, 63), (2, 64), (5, 74), (5, 75), (5, 76), (5, 77), (2, 65), (2, 66), (2, 67), (2, 68), (1, 42), (1, 199), (1, 201), (1, 203), (1, 86), (2, 69), (2, 70), (1, 9)] : List (Nat × Nat)) rfl
set_option maxRecDepth 20000 in
theorem in_wsL_law_r9 : ∀ w ∈ wsL_law_r9, w ∈ lw_tbl := mem_rk tq_tbl ([(2, 71), (2, 72), (2, 73), (2, 74), (2, 75), (2, 176), (2, 177), (1, 14), (2, 178), (2, 76), (2, 78), (0, 0), (2, 79), (2, 80), (2, 82), (0, 1), (2, 83), (2, 84), (2, 85), (2, 86), (2, 87), (2, 89), (0, 2), (2, 90)] : List (Nat × Nat)) rfl
set_option maxRecDepth 20000 in
theorem in_wsL_law_r10 : ∀ w ∈ wsL_law_r10, w ∈ lw_tbl := mem_rk tq_tbl ([(2, 91), (2, 92), (2, 93), (2, 113), (2, 115), (0, 3), (2, 116), (2, 117), (2, 118), (2, 119), (1, 10), (2, 120), (7, 51), (2, 121), (2, 122), (2, 123), (2, 124), (2, 125), (7, 52), (2, 127), (2, 128), (2, 129), (2, 130), (2, 131)] : List (Nat × Nat)) rfl
set_option maxRecDepth 20000 in
theorem in_wsL_law_r11 : ∀ w ∈ wsL_law_r11, w ∈ lw_tbl := mem_rk tq_tbl ([(2, 132), (2, 133), (2, 134), (2, 135), (2, 136), (1, 11), (2, 137), (2, 138), (2, 139), (2, 140), (2, 141), (2, 143), (2, 144), (1, 12), (2, 145), (2, 146), (2, 147), (1, 13), (2, 148), (2, 149), (2, 150), (2, 151), (2, 152), (2, 153)] : List (Nat × Nat)) rfl
set_option maxRecDepth 20000 in
theorem in_wsL_law_r12 : ∀ w ∈ wsL_law_r12, w ∈ lw_tbl := mem_rk tq_tbl ([(2, 154), (2, 155), (2, 156), (2, 157), (2, 158), (2, 159), (2, 161), (2, 163), (2, 165), (2, 167), (0, 4), (2, 168), (2, 169), (2, 170), (2, 171), (2, 172), (2, 174), (0, 5), (2, 175), (2, 179), (2, 180), (2, 181), (2, 182), (2, 183)] : List (Nat × Nat)) rfl
set_option maxRecDepth 20000 in
theorem in_wsL_law_r13 : ∀ w ∈ wsL_law_r13, w ∈ lw_tbl := mem_rk tq_tbl ([(2, 184), (2, 185), (1, 77), (1, 80), (1, 83), (2, 186), (2, 187), (2, 188), (2, 189), (2, 190), (2, 191), (2, 192), (2, 193), (2, 194), (2, 195), (2, 196), (2, 197), (2, 198), (2, 199), (2, 200), (1, 89), (2, 201), (2, 202), (2, 203)] : List (Nat × Nat)) rfl
set_option maxRecDepth 20000 in
theorem in_wsL_law_r14 : ∀ w ∈ wsL_law_r14, w ∈ lw_tbl := mem_rk tq_tbl ([(2, 204), (2, 205), (2, 206), (2, 207), (2, 208), (2, 209), (2, 210), (2, 211), (2, 212), (2, 213), (2, 214), (1, 91), (1, 94), (2, 215), (2, 216), (2, 217), (1, 87), (1, 97), (1, 100), (2, 218), (2, 219), (2, 220), (2, 221), (2, 222)] : List (Nat × Nat)) rfl
set_option maxRecDepth 20000 in
theorem in_wsL_law_r15 : ∀ w ∈ wsL_law_r15, w ∈ lw_tbl := mem_rk tq_tbl ([(2, 223), (2, 224), (2, 225), (2, 226), (2, 227), (2, 229), (2, 228), (1, 15), (2, 230), (2, 231), (2, 232), (2, 233), (2, 234), (2, 235), (1, 16), (2, 236), (2, 237), (2, 238), (2, 239), (3, 0), (3, 1), (3, 2), (3, 3), (3, 4)] : List (Nat × Nat)) rfl
set_option maxRecDepth 20000 in
theorem in_wsL_law_r16 : ∀ w ∈ wsL_law_r16, w ∈ lw_tbl := mem_rk tq_tbl ([(3, 5), (3, 6), (3, 7), (3, 8), (3, 9), (3, 10), (3, 11), (3, 12), (3, 13), (3, 14), (3, 15), (3, 16), (5, 78), (5, 79), (5, 80), (5, 81), (4, 166), (4, 187), (5, 82), (5, 84), (0, 20), (5, 85), (5, 86), (5, 88)] : List (Nat × Nat)) rfl
set_option maxRecDepth 20000 in
theorem in_wsL_law_r17 : ∀ w ∈ wsL_law_r17, w ∈ lw_tbl := mem_rk tq_tbl ([(0, 21), (5, 89), (4, 165), (4, 169), (4, 170), (4, 171), (5, 90), (5, 92), (0, 22), (5, 93), (5, 94), (5, 96), (0, 23), (5, 97), (5, 98), (5, 100), (0, 24), (5, 101), (5, 102), (5, 103), (5, 104), (5, 109), (5, 111), (0, 25)] : List (Nat × Nat)) rfl
set_option maxRecDepth 20000 in
theorem in_wsL_law_r18 : ∀ w ∈ wsL_law_r18, w ∈ lw_tbl := mem_rk tq_tbl ([(5, 112), (5, 113), (5, 114), (5, 115), (5, 117), (0, 26), (5, 118), (5, 119), (5, 121), (0, 27), (5, 122), (5, 123), (5, 125), (0, 28), (5, 126), (5, 127), (5, 129), (0, 29), (5, 130), (5, 131), (5, 132), (5, 134), (0, 30), (5, 135)] : List (Nat × Nat)) rfl
set_option maxRecDepth 20000 in
theorem in_wsL_law_r19 : ∀ w ∈ wsL_law_r19, w ∈ lw_tbl := mem_rk tq_tbl ([(5, 136), (5, 138), (0, 31), (5, 139), (5, 140), (5, 141), (5, 142), (5, 143), (5, 144), (5, 145), (5, 147), (0, 32), (5, 148), (5, 149), (5, 151), (0, 33), (5, 152), (5, 153), (5, 154), (5, 155), (5, 156), (5, 158), (0, 34), (5, 159)] : List (Nat × Nat)) rfl
set_option maxRecDepth 20000 in
theorem in_wsL_law_r20 : ∀ w ∈ wsL_law_r20, w ∈ lw_tbl := mem_rk tq_tbl ([(3, 17), (3, 18), (3, 19), (3, 20), (3, 21), (3, 22), (1, 17), (3, 23), (1, 233), (3, 24), (3, 25), (3, 26), (3, 27), (3, 28), (3, 29), (3, 30), (3, 31), (3, 32), (3, 33), (3, 34), (3, 35), (3, 36), (3, 37), (3, 38)] : List (Nat × Nat)) rfl
set_option maxRecDepth 20000 in
theorem in_wsL_law_r21 : ∀ w ∈ wsL_law_r21, w ∈ lw_tbl := mem_rk tq_tbl ([(3, 39), (3, 40), (1, 236), (3, 41), (3, 42), (3, 43), (3, 44), (3, 45), (3, 46), (3, 47), (3, 48), (3, 49), (3, 50), (3, 51), (3, 52), (3, 53), (3, 54), (3, 55), (3, 56), (3, 57), (3, 58), (3, 59), (3, 60), (3, 61)] : List (Nat × Nat)) rfl
set_option maxRecDepth 20000 in
theorem in_wsL_law_r22 : ∀ w ∈ wsL_law_r22, w ∈ lw_tbl := mem_rk tq_tbl ([(3, 62), (5, 160), (5, 161), (5, 162), (5, 163), (4, 168), (4, 167), (5, 164), (5, 166), (0, 35), (5, 167), (5, 169), (5, 171), (0, 36), (5, 172), (5, 173), (5, 175), (0, 37), (5, 176), (5, 177), (5, 179), (0, 38), (5, 180), (5, 181)] : List (Nat × Nat)) rfl
set_option maxRecDepth 20000 in
theorem in_wsL_law_r23 : ∀ w ∈ wsL_law_r23, w ∈ lw_tbl := mem_rk tq_tbl ([(5, 183), (0, 39), (5, 184), (5, 185), (5, 187), (0, 40), (5, 188), (5, 189), (5, 190), (5, 191), (5, 202), (5, 204), (0, 41), (5, 205), (5, 206), (5, 208), (0, 42), (5, 209), (4, 172), (5, 210), (5, 212), (0, 43), (5, 213), (5, 215)] : List (Nat × Nat)) rfl
set_option maxRecDepth 20000 in
theorem in_wsL_law_r24 : ∀ w ∈ wsL_law_r24, w ∈ lw_tbl := mem_rk tq_tbl ([(5, 217), (0, 44), (5, 218), (5, 219), (5, 221), (0, 45), (5, 222), (5, 223), (5, 225), (0, 46), (5, 226), (5, 227), (5, 229), (0, 47), (5, 230), (3, 63), (3, 64), (3, 65), (3, 66), (1, 205), (5, 233), (5, 234), (5, 235), (5, 236)] : List (Nat × Nat)) rfl
set_option maxRecDepth 20000 in
theorem in_wsL_law_r25 : ∀ w ∈ wsL_law_r25, w ∈ lw_tbl := mem_rk tq_tbl ([(5, 237), (3, 67), (3, 68), (3, 69), (3, 70), (1, 104), (3, 71), (3, 72), (3, 73), (3, 74), (5, 238), (5, 239), (6, 0), (6, 1), (6, 2), (6, 4), (0, 48), (6, 5), (3, 75), (3, 76), (3, 77), (3, 78), (1, 92), (1, 95)] : List (Nat × Nat)) rfl
set_option maxRecDepth 20000 in
theorem in_wsL_law_r26 : ∀ w ∈ wsL_law_r26, w ∈ lw_tbl := mem_rk tq_tbl ([(3, 79), (3, 80), (3, 81), (3, 82), (3, 83), (3, 84), (3, 85), (3, 86), (3, 87), (6, 6), (6, 7), (6, 8), (6, 9), (6, 14), (6, 10), (6, 12), (0, 49), (6, 13), (6, 15), (6, 17), (0, 50), (6, 18), (6, 19), (6, 21)] : List (Nat × Nat)) rfl
set_option maxRecDepth 20000 in
theorem in_wsL_law_r27 : ∀ w ∈ wsL_law_r27, w ∈ lw_tbl := mem_rk tq_tbl ([(0, 51), (6, 22), (6, 23), (6, 25), (0, 52), (6, 26), (6, 27), (6, 29), (0, 53), (6, 30), (6, 31), (6, 32), (6, 33), (6, 34), (6, 36), (0, 54), (6, 37), (6, 38), (6, 40), (0, 55), (6, 41), (3, 88), (3, 89), (3, 90)] : List (Nat × Nat)) rfl
set_option maxRecDepth 20000 in
theorem in_wsL_law_r28 : ∀ w ∈ wsL_law_r28, w ∈ lw_tbl := mem_rk tq_tbl ([(3, 91), (1, 98), (1, 101), (3, 92), (3, 93), (3, 94), (3, 95), (3, 96), (3, 97), (3, 98), (3, 99), (3, 100), (6, 42), (6, 43), (6, 44), (6, 45), (6, 50), (6, 46), (6, 48), (0, 56), (6, 49), (3, 101), (3, 102), (3, 103)] : List (Nat × Nat)) rfl
set_option maxRecDepth 20000 in
theorem in_wsL_law_r29 : ∀ w ∈ wsL_law_r29, w ∈ lw_tbl := mem_rk tq_tbl ([(3, 104), (1, 78), (1, 113), (3, 105), (3, 106), (3, 107), (3, 108), (1, 106), (1, 109), (1, 112), (1, 103), (3, 109), (3, 110), (3, 111), (3, 112), (3, 114), (0, 6), (3, 115), (3, 116), (3, 118), (0, 7), (3, 119), (3, 120), (3, 121)] : List (Nat × Nat)) rfl
set_option maxRecDepth 20000 in
theorem in_wsL_law_r30 : ∀ w ∈ wsL_law_r30, w ∈ lw_tbl := mem_rk tq_tbl ([(3, 122), (3, 123), (3, 124), (3, 125), (3, 126), (3, 127), (3, 128), (3, 129), (3, 130), (3, 131), (3, 132), (3, 133), (3, 134), (3, 135), (3, 136), (3, 138), (0, 8), (3, 139), (3, 140), (3, 141), (3, 142), (3, 143), (3, 144), (3, 145)] : List (Nat × Nat)) rfl
set_option maxRecDepth 20000 in
theorem in_wsL_law_r31 : ∀ w ∈ wsL_law_r31, w ∈ lw_tbl := mem_rk tq_tbl ([(3, 146), (1, 18), (3, 147), (3, 148), (3, 149), (3, 150), (3, 151), (3, 152), (3, 153), (3, 154), (3, 155), (3, 156), (3, 157), (3, 158), (3, 159), (3, 160), (3, 161), (6, 67), (6, 68), (6, 69), (6, 70), (6, 71), (6, 73), (0, 60)] : List (Nat × Nat)) rfl
set_option maxRecDepth 20000 in
theorem in_wsL_law_r32 : ∀ w ∈ wsL_law_r32, w ∈ lw_tbl := mem_rk tq_tbl ([(6, 74), (6, 75), (6, 77), (0, 61), (6, 78), (6, 55), (6, 57), (0, 57), (6, 58), (4, 188), (4, 189), (6, 59), (6, 61), (0, 58), (6, 62), (6, 63), (6, 65), (0, 59), (6, 66), (6, 79), (6, 81), (0, 62), (6, 82), (6, 83)] : List (Nat × Nat)) rfl
set_option maxRecDepth 20000 in
theorem in_wsL_law_r33 : ∀ w ∈ wsL_law_r33, w ∈ lw_tbl := mem_rk tq_tbl ([(6, 85), (0, 63), (6, 86), (6, 87), (6, 88), (6, 89), (6, 90), (6, 92), (0, 64), (6, 93), (6, 94), (6, 96), (0, 65), (6, 97), (6, 98), (6, 99), (6, 100), (6, 101), (6, 102), (6, 103), (6, 104), (6, 106), (0, 66), (6, 107)] : List (Nat × Nat)) rfl
set_option maxRecDepth 20000 in
theorem in_wsL_law_r34 : ∀ w ∈ wsL_law_r34, w ∈ lw_tbl := mem_rk tq_tbl ([(6, 108), (6, 110), (0, 67), (6, 111), (3, 162), (3, 163), (3, 164), (3, 165), (3, 166), (3, 167), (6, 112), (6, 113), (6, 114), (6, 115), (6, 116), (6, 118), (0, 68), (6, 119), (3, 168), (3, 169), (3, 170), (3, 171), (3, 172), (6, 120)] : List (Nat × Nat)) rfl
set_option maxRecDepth 20000 in
theorem in_wsL_law_r35 : ∀ w ∈ wsL_law_r35, w ∈ lw_tbl := mem_rk tq_tbl ([(6, 121), (6, 122), (6, 123), (3, 173), (3, 174), (3, 175), (3, 176), (1, 110), (3, 177), (6, 124), (6, 125), (6, 126), (6, 127), (3, 178), (3, 179), (3, 180), (3, 181), (6, 128), (6, 129), (6, 130), (6, 131), (6, 132), (3, 182), (3, 183)] : List (Nat × Nat)) rfl
set_option maxRecDepth 20000 in
theorem in_wsL_law_r36 : ∀ w ∈ wsL_law_r36, w ∈ lw_tbl := mem_rk tq_tbl ([(3, 184), (3, 185), (1, 166), (3, 186), (3, 187), (3, 188), (3, 189), (3, 190), (6, 51), (6, 52), (6, 53), (6, 54), (3, 191), (3, 192), (3, 193), (3, 194), (3, 195), (3, 196), (3, 197), (3, 198), (3, 199), (6, 133), (6, 134), (6, 135)] : List (Nat × Nat)) rfl
set_option maxRecDepth 20000 in
theorem in_wsL_law_r37 : ∀ w ∈ wsL_law_r37, w ∈ lw_tbl := mem_rk tq_tbl ([(6, 136), (6, 137), (6, 138), (6, 140), (0, 69), (6, 141), (6, 142), (6, 144), (0, 70), (6, 145), (4, 197), (4, 198), (6, 146), (6, 148), (0, 71), (6, 149), (6, 150), (6, 152), (0, 72), (6, 153), (6, 154), (6, 156), (0, 73), (6, 157)] : List (Nat × Nat)) rfl
set_option maxRecDepth 20000 in
theorem in_wsL_law_r38 : ∀ w ∈ wsL_law_r38, w ∈ lw_tbl := mem_rk tq_tbl ([(3, 200), (3, 201), (3, 202), (3, 203), (6, 158), (6, 159), (6, 160), (6, 161), (3, 212), (3, 213), (3, 214), (3, 215), (3, 216), (3, 218), (0, 10), (3, 219), (6, 162), (6, 163), (6, 164), (6, 165), (6, 166), (6, 168), (0, 74), (6, 169)] : List (Nat × Nat)) rfl
set_option maxRecDepth 20000 in
theorem in_wsL_law_r39 : ∀ w ∈ wsL_law_r39, w ∈ lw_tbl := mem_rk tq_tbl ([(3, 220), (3, 221), (3, 222), (3, 223), (6, 170), (6, 171), (6, 172), (6, 173), (3, 224), (3, 225), (3, 226), (3, 227), (1, 107), (3, 228), (3, 229), (3, 230), (3, 231), (3, 232), (3, 233), (3, 234), (3, 235), (6, 174), (6, 175), (6, 176)] : List (Nat × Nat)) rfl
set_option maxRecDepth 20000 in
theorem in_wsL_law_r40 : ∀ w ∈ wsL_law_r40, w ∈ lw_tbl := mem_rk tq_tbl ([(6, 177), (3, 236), (3, 237), (3, 238), (3, 239), (4, 0), (4, 2), (0, 11), (4, 3), (4, 4), (4, 6), (0, 12), (4, 7), (6, 178), (6, 179), (6, 180), (6, 181), (6, 182), (6, 183), (6, 185), (0, 75), (6, 186), (4, 8), (4, 9)] : List (Nat × Nat)) rfl
set_option maxRecDepth 20000 in
theorem in_wsL_law_r41 : ∀ w ∈ wsL_law_r41, w ∈ lw_tbl := mem_rk tq_tbl ([(4, 10), (4, 11), (4, 12), (6, 187), (6, 188), (6, 189), (6, 190), (4, 13), (4, 14), (4, 15), (4, 16), (4, 17), (6, 191), (6, 192), (6, 193), (6, 194), (4, 46), (4, 47), (4, 48), (4, 49), (1, 81), (4, 50), (4, 52), (0, 14)] : List (Nat × Nat)) rfl
set_option maxRecDepth 20000 in
theorem in_wsL_law_r42 : ∀ w ∈ wsL_law_r42, w ∈ lw_tbl := mem_rk tq_tbl ([(4, 53), (4, 59), (4, 54), (4, 55), (4, 56), (4, 57), (4, 58), (4, 60), (4, 62), (0, 15), (4, 63), (4, 64), (4, 65), (4, 66), (4, 67), (4, 68), (4, 69), (7, 6), (7, 7), (7, 8), (7, 9), (7, 2), (7, 4), (0, 82)] : List (Nat × Nat)) rfl
set_option maxRecDepth 20000 in
theorem in_wsL_law_r43 : ∀ w ∈ wsL_law_r43, w ∈ lw_tbl := mem_rk tq_tbl ([(7, 5), (6, 212), (6, 214), (0, 78), (6, 215), (4, 26), (4, 27), (4, 28), (4, 29), (4, 30), (4, 32), (0, 13), (4, 33), (1, 117), (1, 119), (4, 34), (4, 35), (4, 36), (4, 37), (6, 195), (6, 196), (6, 197), (6, 198), (6, 199)] : List (Nat × Nat)) rfl
set_option maxRecDepth 20000 in
theorem in_wsL_law_r44 : ∀ w ∈ wsL_law_r44, w ∈ lw_tbl := mem_rk tq_tbl ([(6, 200), (6, 202), (0, 76), (6, 203), (6, 204), (6, 206), (0, 77), (6, 207), (3, 204), (3, 205), (3, 206), (3, 207), (3, 208), (3, 210), (0, 9), (3, 211), (6, 208), (6, 209), (6, 210), (6, 211), (6, 216), (6, 218), (0, 79), (6, 219)] : List (Nat × Nat)) rfl
set_option maxRecDepth 20000 in
theorem in_wsL_law_r45 : ∀ w ∈ wsL_law_r45, w ∈ lw_tbl := mem_rk tq_tbl ([(4, 18), (4, 19), (4, 20), (4, 21), (4, 22), (4, 23), (4, 24), (4, 25), (6, 220), (6, 221), (6, 222), (6, 223), (6, 224), (6, 225), (6, 227), (0, 80), (6, 228), (4, 38), (4, 39), (4, 40), (4, 41), (1, 188), (4, 42), (4, 43)] : List (Nat × Nat)) rfl
set_option maxRecDepth 20000 in
theorem in_wsL_law_r46 : ∀ w ∈ wsL_law_r46, w ∈ lw_tbl := mem_rk tq_tbl ([(4, 44), (4, 45), (6, 229), (6, 230), (6, 231), (6, 232), (6, 233), (4, 70), (4, 71), (4, 72), (4, 73), (6, 234), (6, 235), (6, 236), (6, 237), (6, 238), (7, 0), (0, 81), (7, 1), (4, 74), (4, 75), (4, 76), (4, 77), (4, 78)] : List (Nat × Nat)) rfl
set_option maxRecDepth 20000 in
theorem in_wsL_law_r47 : ∀ w ∈ wsL_law_r47, w ∈ lw_tbl := mem_rk tq_tbl ([(4, 80), (0, 16), (4, 81), (4, 82), (4, 83), (4, 85), (0, 17), (4, 86), (4, 87), (7, 10), (7, 11), (7, 12), (7, 13), (7, 14), (7, 16), (0, 83), (7, 17), (4, 88), (4, 89), (4, 90), (4, 91), (1, 207), (7, 18), (7, 19)] : List (Nat × Nat)) rfl
set_option maxRecDepth 20000 in
theorem in_wsL_law_r48 : ∀ w ∈ wsL_law_r48, w ∈ lw_tbl := mem_rk tq_tbl ([(7, 20), (7, 21), (4, 92), (4, 93), (4, 94), (4, 95), (4, 96), (4, 98), (0, 18), (4, 99), (4, 100), (4, 101), (4, 102), (4, 103), (4, 104), (4, 105), (4, 106), (4, 107), (4, 108), (4, 109), (4, 110), (4, 111), (4, 112), (4, 113)] : List (Nat × Nat)) rfl
set_option maxRecDepth 20000 in
theorem in_wsL_law_r49 : ∀ w ∈ wsL_law_r49, w ∈ lw_tbl := mem_rk tq_tbl ([(7, 22), (7, 23), (7, 24), (7, 25), (7, 26), (7, 27), (7, 29), (0, 84), (7, 30), (7, 31), (7, 32), (7, 33), (7, 34), (7, 35), (7, 37), (0, 85), (7, 38), (4, 114), (4, 115), (4, 116), (4, 117), (1, 84), (7, 39), (7, 40)] : List (Nat × Nat)) rfl
set_option maxRecDepth 20000 in
theorem in_wsL_law_r50 : ∀ w ∈ wsL_law_r50, w ∈ lw_tbl := mem_rk tq_tbl ([(7, 41), (7, 42), (4, 118), (4, 119), (4, 120), (4, 121), (4, 122), (4, 123), (4, 124), (4, 125), (4, 126), (4, 127), (4, 128), (4, 129), (4, 130), (4, 131), (4, 132), (4, 133), (4, 134), (4, 135), (4, 136), (7, 43), (7, 44), (7, 45)] : List (Nat × Nat)) rfl
set_option maxRecDepth 20000 in
theorem in_wsL_law_r51 : ∀ w ∈ wsL_law_r51, w ∈ lw_tbl := mem_rk tq_tbl ([(7, 46), (4, 137), (4, 138), (4, 139), (4, 140), (7, 47), (7, 48), (7, 49), (7, 50)] : List (Nat × Nat)) rfl
set_option maxRecDepth 20000 in
theorem inX0 : ∀ w ∈ wsX00, w ∈ lw_tbl := mem_rk tq_tbl ([(1, 167), (1, 169), (1, 171), (1, 173), (1, 175)] : List (Nat × Nat)) rfl
set_option maxRecDepth 20000 in
theorem inX2 : ∀ w ∈ wsX20, w ∈ lw_tbl := mem_rk tq_tbl ([(1, 189), (1, 191), (1, 193), (1, 195)] : List (Nat × Nat)) rfl
set_option maxRecDepth 20000 in
theorem inX3 : ∀ w ∈ wsX30, w ∈ lw_tbl := mem_rk tq_tbl ([(1, 120), (1, 122), (1, 124), (1, 126), (1, 128), (1, 130), (1, 132), (1, 134), (1, 136), (1, 138), (1, 140), (1, 142), (1, 144), (1, 146), (1, 148), (1, 150), (1, 152)] : List (Nat × Nat)) rfl
set_option maxRecDepth 20000 in
theorem inX4 : ∀ w ∈ wsX40, w ∈ lw_tbl := mem_rk tq_tbl ([(1, 237), (1, 239), (2, 1), (2, 3), (2, 5), (2, 7), (2, 9), (2, 11)] : List (Nat × Nat)) rfl
set_option maxRecDepth 20000 in
theorem inX6 : ∀ w ∈ wsX60, w ∈ lw_tbl := mem_rk tq_tbl ([(1, 208), (1, 210), (1, 212), (1, 214), (1, 216)] : List (Nat × Nat)) rfl
set_option maxRecDepth 20000 in
theorem inX7 : ∀ w ∈ wsX70, w ∈ lw_tbl := mem_rk tq_tbl ([(1, 43), (1, 45), (1, 47), (1, 49), (1, 51), (1, 53), (1, 55), (1, 57)] : List (Nat × Nat)) rfl
set_option maxRecDepth 20000 in
theorem inX8 : ∀ w ∈ wsX80, w ∈ lw_tbl := mem_rk tq_tbl ([(2, 28), (2, 30), (2, 32), (2, 34), (2, 36), (2, 38), (2, 40), (2, 42), (2, 44), (2, 46), (2, 48), (2, 50)] : List (Nat × Nat)) rfl
set_option maxRecDepth 20000 in
theorem inX9 : ∀ w ∈ wsX90, w ∈ lw_tbl := mem_rk tq_tbl ([(4, 199), (4, 201), (4, 203), (4, 205), (4, 207), (4, 209), (4, 211), (4, 213), (4, 215), (4, 217), (4, 219), (4, 221), (4, 223), (4, 225), (4, 227), (4, 229), (4, 231), (4, 233), (4, 235), (4, 237), (4, 239), (5, 1), (5, 3), (5, 5), (5, 7), (5, 9), (5, 11), (5, 13), (5, 15), (5, 17), (5, 19), (5, 21), (5, 23), (5, 25), (5, 27), (5, 29), (5, 31), (5, 33), (5, 35), (5, 37), (5, 39), (5, 41), (5, 43), (5, 45), (5, 47), (5, 49), (5, 51), (5, 53), (5, 55), (5, 57), (5, 59), (5, 61), (5, 63)] : List (Nat × Nat)) rfl
