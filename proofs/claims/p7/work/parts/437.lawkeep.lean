/-! the law: what is kept, and its cases -/
theorem rng_l {α : Type} (w1 w2 : List α) (n : Nat) (h : w1.length = n) : (List.range n).map (fun i => (w1 ++ w2)[i]?) = w1.map some := by
  subst h
  apply List.ext_getElem?
  intro i
  by_cases hi : i < w1.length
  · simp [List.getElem?_append_left hi, hi]
  · simp [hi]
theorem rng_r {α : Type} (w1 w2 : List α) (n m : Nat) (h : w1.length = n) (h2 : w2.length = m) : (List.range' n m).map (fun i => (w1 ++ w2)[i]?) = w2.map some := by
  subst h h2
  apply List.ext_getElem?
  intro i
  by_cases hi : i < w2.length
  · simp [hi, List.getElem?_append_right]
  · simp [hi]
theorem nd1 : va_nd (List.range 149) = true ∧ va_nd (List.range' 149 38) = true ∧ ∀ i ∈ List.range' 149 38, i ∉ List.range 149 := ⟨by decide +kernel, by decide +kernel, fun i h q => by have := List.mem_range'_1.mp h; have := List.mem_range.mp q; omega⟩
theorem nd2 : va_nd (List.range 38) = true ∧ va_nd (List.range' 38 149) = true ∧ ∀ i ∈ List.range' 38 149, i ∉ List.range 38 := ⟨by decide +kernel, by decide +kernel, fun i h q => by have := List.mem_range'_1.mp h; have := List.mem_range.mp q; omega⟩
set_option maxRecDepth 100000 in
theorem CWlen (k : Nat → ClassId) (a ra ia : Nat → Nat) (rr ii : Nat → Option Nat) (z : CSt) : (CWs k a ra ia rr ii z).length = 149 := rfl
set_option maxRecDepth 20000 in
theorem MWlen (k : Nat → ClassId) (v : Nat → Nat) (y : OB) : (moW k v y).length = 38 := rfl
noncomputable abbrev A0 (s : State) : Nat → Prop := fun q => s.heap.size ≤ q

set_option maxRecDepth 100000 in
theorem tdL_law_184 : dTb cL_law [(184, .aload_n 1, 1), (185, .aload_n 0, 1), (186, .iload_n 3, 1), (187, .iconst 1, 1), (188, .iadd, 1), (189, .iaload, 1), (190, .aload_n 0, 1), (191, .iload_n 3, 1), (192, .iconst 2, 1), (193, .iadd, 1), (194, .iaload, 1), (195, .aload_n 0, 1), (196, .iload_n 3, 1), (197, .iconst 3, 1), (198, .iadd, 1), (199, .iaload, 1), (200, .aload_n 0, 1), (201, .iload_n 3, 1), (202, .iconst 4, 1), (203, .iadd, 1), (204, .iaload, 1), (205, .aload_n 0, 1), (206, .iload_n 3, 1), (207, .iconst 5, 1), (208, .iadd, 1), (209, .iaload, 1), (210, .invokevirtual 13, 3), (213, .pop, 1), (214, .aload_n 2, 1), (215, .aload_n 0, 1), (216, .iload_n 3, 1), (217, .iconst 1, 1), (218, .iadd, 1), (219, .iaload, 1), (220, .aload_n 0, 1), (221, .iload_n 3, 1), (222, .iconst 2, 1), (223, .iadd, 1), (224, .iaload, 1), (225, .aload_n 0, 1)] = true := by decide +kernel
theorem dL_law_184 : decode cL_law 184 = .ok (.aload_n 1, 1) := dTa tdL_law_184 0 rfl
theorem dL_law_185 : decode cL_law 185 = .ok (.aload_n 0, 1) := dTa tdL_law_184 1 rfl
theorem dL_law_186 : decode cL_law 186 = .ok (.iload_n 3, 1) := dTa tdL_law_184 2 rfl
theorem dL_law_187 : decode cL_law 187 = .ok (.iconst 1, 1) := dTa tdL_law_184 3 rfl
theorem dL_law_188 : decode cL_law 188 = .ok (.iadd, 1) := dTa tdL_law_184 4 rfl
theorem dL_law_189 : decode cL_law 189 = .ok (.iaload, 1) := dTa tdL_law_184 5 rfl
theorem dL_law_190 : decode cL_law 190 = .ok (.aload_n 0, 1) := dTa tdL_law_184 6 rfl
theorem dL_law_191 : decode cL_law 191 = .ok (.iload_n 3, 1) := dTa tdL_law_184 7 rfl
theorem dL_law_192 : decode cL_law 192 = .ok (.iconst 2, 1) := dTa tdL_law_184 8 rfl
theorem dL_law_193 : decode cL_law 193 = .ok (.iadd, 1) := dTa tdL_law_184 9 rfl
theorem dL_law_194 : decode cL_law 194 = .ok (.iaload, 1) := dTa tdL_law_184 10 rfl
theorem dL_law_195 : decode cL_law 195 = .ok (.aload_n 0, 1) := dTa tdL_law_184 11 rfl
theorem dL_law_196 : decode cL_law 196 = .ok (.iload_n 3, 1) := dTa tdL_law_184 12 rfl
theorem dL_law_197 : decode cL_law 197 = .ok (.iconst 3, 1) := dTa tdL_law_184 13 rfl
theorem dL_law_198 : decode cL_law 198 = .ok (.iadd, 1) := dTa tdL_law_184 14 rfl
theorem dL_law_199 : decode cL_law 199 = .ok (.iaload, 1) := dTa tdL_law_184 15 rfl
theorem dL_law_200 : decode cL_law 200 = .ok (.aload_n 0, 1) := dTa tdL_law_184 16 rfl
theorem dL_law_201 : decode cL_law 201 = .ok (.iload_n 3, 1) := dTa tdL_law_184 17 rfl
theorem dL_law_202 : decode cL_law 202 = .ok (.iconst 4, 1) := dTa tdL_law_184 18 rfl
theorem dL_law_203 : decode cL_law 203 = .ok (.iadd, 1) := dTa tdL_law_184 19 rfl
theorem dL_law_204 : decode cL_law 204 = .ok (.iaload, 1) := dTa tdL_law_184 20 rfl
theorem dL_law_205 : decode cL_law 205 = .ok (.aload_n 0, 1) := dTa tdL_law_184 21 rfl
theorem dL_law_206 : decode cL_law 206 = .ok (.iload_n 3, 1) := dTa tdL_law_184 22 rfl
theorem dL_law_207 : decode cL_law 207 = .ok (.iconst 5, 1) := dTa tdL_law_184 23 rfl
theorem dL_law_208 : decode cL_law 208 = .ok (.iadd, 1) := dTa tdL_law_184 24 rfl
theorem dL_law_209 : decode cL_law 209 = .ok (.iaload, 1) := dTa tdL_law_184 25 rfl
theorem dL_law_210 : decode cL_law 210 = .ok (.invokevirtual 13, 3) := dTa tdL_law_184 26 rfl
theorem dL_law_213 : decode cL_law 213 = .ok (.pop, 1) := dTa tdL_law_184 27 rfl
theorem dL_law_214 : decode cL_law 214 = .ok (.aload_n 2, 1) := dTa tdL_law_184 28 rfl
theorem dL_law_215 : decode cL_law 215 = .ok (.aload_n 0, 1) := dTa tdL_law_184 29 rfl
theorem dL_law_216 : decode cL_law 216 = .ok (.iload_n 3, 1) := dTa tdL_law_184 30 rfl
theorem dL_law_217 : decode cL_law 217 = .ok (.iconst 1, 1) := dTa tdL_law_184 31 rfl
theorem dL_law_218 : decode cL_law 218 = .ok (.iadd, 1) := dTa tdL_law_184 32 rfl
theorem dL_law_219 : decode cL_law 219 = .ok (.iaload, 1) := dTa tdL_law_184 33 rfl
theorem dL_law_220 : decode cL_law 220 = .ok (.aload_n 0, 1) := dTa tdL_law_184 34 rfl
theorem dL_law_221 : decode cL_law 221 = .ok (.iload_n 3, 1) := dTa tdL_law_184 35 rfl
theorem dL_law_222 : decode cL_law 222 = .ok (.iconst 2, 1) := dTa tdL_law_184 36 rfl
theorem dL_law_223 : decode cL_law 223 = .ok (.iadd, 1) := dTa tdL_law_184 37 rfl
theorem dL_law_224 : decode cL_law 224 = .ok (.iaload, 1) := dTa tdL_law_184 38 rfl
theorem dL_law_225 : decode cL_law 225 = .ok (.aload_n 0, 1) := dTa tdL_law_184 39 rfl
set_option maxRecDepth 100000 in
theorem tdL_law_226 : dTb cL_law [(226, .iload_n 3, 1), (227, .iconst 3, 1), (228, .iadd, 1), (229, .iaload, 1), (230, .aload_n 0, 1), (231, .iload_n 3, 1), (232, .iconst 4, 1), (233, .iadd, 1), (234, .iaload, 1), (235, .aload_n 0, 1), (236, .iload_n 3, 1), (237, .iconst 5, 1), (238, .iadd, 1), (239, .iaload, 1), (240, .invokevirtual 17, 3), (243, .pop, 1), (244, .goto 882, 3), (247, .aload_n 1, 1), (248, .aload_n 0, 1), (249, .iload_n 3, 1), (250, .iconst 1, 1), (251, .iadd, 1), (252, .iaload, 1), (253, .invokevirtual 18, 3), (256, .pop, 1), (257, .aload_n 2, 1), (258, .aload_n 0, 1), (259, .iload_n 3, 1), (260, .iconst 1, 1), (261, .iadd, 1), (262, .iaload, 1), (263, .invokevirtual 22, 3), (266, .pop, 1), (267, .goto 859, 3), (270, .aload_n 1, 1), (271, .invokevirtual 23, 3), (274, .pop, 1), (275, .aload_n 2, 1), (276, .invokevirtual 27, 3), (279, .pop, 1)] = true := by decide +kernel
theorem dL_law_226 : decode cL_law 226 = .ok (.iload_n 3, 1) := dTa tdL_law_226 0 rfl
theorem dL_law_227 : decode cL_law 227 = .ok (.iconst 3, 1) := dTa tdL_law_226 1 rfl
theorem dL_law_228 : decode cL_law 228 = .ok (.iadd, 1) := dTa tdL_law_226 2 rfl
theorem dL_law_229 : decode cL_law 229 = .ok (.iaload, 1) := dTa tdL_law_226 3 rfl
theorem dL_law_230 : decode cL_law 230 = .ok (.aload_n 0, 1) := dTa tdL_law_226 4 rfl
theorem dL_law_231 : decode cL_law 231 = .ok (.iload_n 3, 1) := dTa tdL_law_226 5 rfl
theorem dL_law_232 : decode cL_law 232 = .ok (.iconst 4, 1) := dTa tdL_law_226 6 rfl
theorem dL_law_233 : decode cL_law 233 = .ok (.iadd, 1) := dTa tdL_law_226 7 rfl
theorem dL_law_234 : decode cL_law 234 = .ok (.iaload, 1) := dTa tdL_law_226 8 rfl
theorem dL_law_235 : decode cL_law 235 = .ok (.aload_n 0, 1) := dTa tdL_law_226 9 rfl
theorem dL_law_236 : decode cL_law 236 = .ok (.iload_n 3, 1) := dTa tdL_law_226 10 rfl
theorem dL_law_237 : decode cL_law 237 = .ok (.iconst 5, 1) := dTa tdL_law_226 11 rfl
theorem dL_law_238 : decode cL_law 238 = .ok (.iadd, 1) := dTa tdL_law_226 12 rfl
theorem dL_law_239 : decode cL_law 239 = .ok (.iaload, 1) := dTa tdL_law_226 13 rfl
theorem dL_law_240 : decode cL_law 240 = .ok (.invokevirtual 17, 3) := dTa tdL_law_226 14 rfl
theorem dL_law_243 : decode cL_law 243 = .ok (.pop, 1) := dTa tdL_law_226 15 rfl
theorem dL_law_244 : decode cL_law 244 = .ok (.goto 882, 3) := dTa tdL_law_226 16 rfl
theorem dL_law_247 : decode cL_law 247 = .ok (.aload_n 1, 1) := dTa tdL_law_226 17 rfl
theorem dL_law_248 : decode cL_law 248 = .ok (.aload_n 0, 1) := dTa tdL_law_226 18 rfl
theorem dL_law_249 : decode cL_law 249 = .ok (.iload_n 3, 1) := dTa tdL_law_226 19 rfl
theorem dL_law_250 : decode cL_law 250 = .ok (.iconst 1, 1) := dTa tdL_law_226 20 rfl
theorem dL_law_251 : decode cL_law 251 = .ok (.iadd, 1) := dTa tdL_law_226 21 rfl
theorem dL_law_252 : decode cL_law 252 = .ok (.iaload, 1) := dTa tdL_law_226 22 rfl
theorem dL_law_253 : decode cL_law 253 = .ok (.invokevirtual 18, 3) := dTa tdL_law_226 23 rfl
theorem dL_law_256 : decode cL_law 256 = .ok (.pop, 1) := dTa tdL_law_226 24 rfl
theorem dL_law_257 : decode cL_law 257 = .ok (.aload_n 2, 1) := dTa tdL_law_226 25 rfl
theorem dL_law_258 : decode cL_law 258 = .ok (.aload_n 0, 1) := dTa tdL_law_226 26 rfl
theorem dL_law_259 : decode cL_law 259 = .ok (.iload_n 3, 1) := dTa tdL_law_226 27 rfl
theorem dL_law_260 : decode cL_law 260 = .ok (.iconst 1, 1) := dTa tdL_law_226 28 rfl
theorem dL_law_261 : decode cL_law 261 = .ok (.iadd, 1) := dTa tdL_law_226 29 rfl
theorem dL_law_262 : decode cL_law 262 = .ok (.iaload, 1) := dTa tdL_law_226 30 rfl
theorem dL_law_263 : decode cL_law 263 = .ok (.invokevirtual 22, 3) := dTa tdL_law_226 31 rfl
theorem dL_law_266 : decode cL_law 266 = .ok (.pop, 1) := dTa tdL_law_226 32 rfl
theorem dL_law_267 : decode cL_law 267 = .ok (.goto 859, 3) := dTa tdL_law_226 33 rfl
theorem dL_law_270 : decode cL_law 270 = .ok (.aload_n 1, 1) := dTa tdL_law_226 34 rfl
theorem dL_law_271 : decode cL_law 271 = .ok (.invokevirtual 23, 3) := dTa tdL_law_226 35 rfl
theorem dL_law_274 : decode cL_law 274 = .ok (.pop, 1) := dTa tdL_law_226 36 rfl
theorem dL_law_275 : decode cL_law 275 = .ok (.aload_n 2, 1) := dTa tdL_law_226 37 rfl
theorem dL_law_276 : decode cL_law 276 = .ok (.invokevirtual 27, 3) := dTa tdL_law_226 38 rfl
theorem dL_law_279 : decode cL_law 279 = .ok (.pop, 1) := dTa tdL_law_226 39 rfl
set_option maxRecDepth 100000 in
theorem tdL_law_280 : dTb cL_law [(280, .goto 846, 3), (283, .aload_n 1, 1), (284, .invokevirtual 28, 3), (287, .pop, 1), (288, .aload_n 2, 1), (289, .invokevirtual 31, 3), (292, .pop, 1), (293, .goto 833, 3), (296, .aload_n 1, 1), (297, .aload_n 0, 1), (298, .iload_n 3, 1), (299, .iconst 1, 1), (300, .iadd, 1), (301, .iaload, 1), (302, .invokevirtual 32, 3), (305, .pop, 1), (306, .aload_n 2, 1), (307, .aload_n 0, 1), (308, .iload_n 3, 1), (309, .iconst 1, 1), (310, .iadd, 1), (311, .iaload, 1), (312, .invokevirtual 35, 3), (315, .pop, 1), (316, .goto 810, 3), (319, .aload_n 1, 1), (320, .aload_n 0, 1), (321, .iload_n 3, 1), (322, .iconst 1, 1), (323, .iadd, 1), (324, .iaload, 1), (325, .invokevirtual 36, 3), (328, .aload_n 2, 1), (329, .aload_n 0, 1), (330, .iload_n 3, 1), (331, .iconst 1, 1), (332, .iadd, 1), (333, .iaload, 1), (334, .invokevirtual 39, 3), (337, .if_icmp .eq 789, 3)] = true := by decide +kernel
theorem dL_law_280 : decode cL_law 280 = .ok (.goto 846, 3) := dTa tdL_law_280 0 rfl
theorem dL_law_283 : decode cL_law 283 = .ok (.aload_n 1, 1) := dTa tdL_law_280 1 rfl
theorem dL_law_284 : decode cL_law 284 = .ok (.invokevirtual 28, 3) := dTa tdL_law_280 2 rfl
theorem dL_law_287 : decode cL_law 287 = .ok (.pop, 1) := dTa tdL_law_280 3 rfl
theorem dL_law_288 : decode cL_law 288 = .ok (.aload_n 2, 1) := dTa tdL_law_280 4 rfl
theorem dL_law_289 : decode cL_law 289 = .ok (.invokevirtual 31, 3) := dTa tdL_law_280 5 rfl
theorem dL_law_292 : decode cL_law 292 = .ok (.pop, 1) := dTa tdL_law_280 6 rfl
theorem dL_law_293 : decode cL_law 293 = .ok (.goto 833, 3) := dTa tdL_law_280 7 rfl
theorem dL_law_296 : decode cL_law 296 = .ok (.aload_n 1, 1) := dTa tdL_law_280 8 rfl
theorem dL_law_297 : decode cL_law 297 = .ok (.aload_n 0, 1) := dTa tdL_law_280 9 rfl
theorem dL_law_298 : decode cL_law 298 = .ok (.iload_n 3, 1) := dTa tdL_law_280 10 rfl
theorem dL_law_299 : decode cL_law 299 = .ok (.iconst 1, 1) := dTa tdL_law_280 11 rfl
theorem dL_law_300 : decode cL_law 300 = .ok (.iadd, 1) := dTa tdL_law_280 12 rfl
theorem dL_law_301 : decode cL_law 301 = .ok (.iaload, 1) := dTa tdL_law_280 13 rfl
theorem dL_law_302 : decode cL_law 302 = .ok (.invokevirtual 32, 3) := dTa tdL_law_280 14 rfl
theorem dL_law_305 : decode cL_law 305 = .ok (.pop, 1) := dTa tdL_law_280 15 rfl
theorem dL_law_306 : decode cL_law 306 = .ok (.aload_n 2, 1) := dTa tdL_law_280 16 rfl
theorem dL_law_307 : decode cL_law 307 = .ok (.aload_n 0, 1) := dTa tdL_law_280 17 rfl
theorem dL_law_308 : decode cL_law 308 = .ok (.iload_n 3, 1) := dTa tdL_law_280 18 rfl
theorem dL_law_309 : decode cL_law 309 = .ok (.iconst 1, 1) := dTa tdL_law_280 19 rfl
theorem dL_law_310 : decode cL_law 310 = .ok (.iadd, 1) := dTa tdL_law_280 20 rfl
theorem dL_law_311 : decode cL_law 311 = .ok (.iaload, 1) := dTa tdL_law_280 21 rfl
theorem dL_law_312 : decode cL_law 312 = .ok (.invokevirtual 35, 3) := dTa tdL_law_280 22 rfl
theorem dL_law_315 : decode cL_law 315 = .ok (.pop, 1) := dTa tdL_law_280 23 rfl
theorem dL_law_316 : decode cL_law 316 = .ok (.goto 810, 3) := dTa tdL_law_280 24 rfl
theorem dL_law_319 : decode cL_law 319 = .ok (.aload_n 1, 1) := dTa tdL_law_280 25 rfl
theorem dL_law_320 : decode cL_law 320 = .ok (.aload_n 0, 1) := dTa tdL_law_280 26 rfl
theorem dL_law_321 : decode cL_law 321 = .ok (.iload_n 3, 1) := dTa tdL_law_280 27 rfl
theorem dL_law_322 : decode cL_law 322 = .ok (.iconst 1, 1) := dTa tdL_law_280 28 rfl
theorem dL_law_323 : decode cL_law 323 = .ok (.iadd, 1) := dTa tdL_law_280 29 rfl
theorem dL_law_324 : decode cL_law 324 = .ok (.iaload, 1) := dTa tdL_law_280 30 rfl
theorem dL_law_325 : decode cL_law 325 = .ok (.invokevirtual 36, 3) := dTa tdL_law_280 31 rfl
theorem dL_law_328 : decode cL_law 328 = .ok (.aload_n 2, 1) := dTa tdL_law_280 32 rfl
theorem dL_law_329 : decode cL_law 329 = .ok (.aload_n 0, 1) := dTa tdL_law_280 33 rfl
theorem dL_law_330 : decode cL_law 330 = .ok (.iload_n 3, 1) := dTa tdL_law_280 34 rfl
theorem dL_law_331 : decode cL_law 331 = .ok (.iconst 1, 1) := dTa tdL_law_280 35 rfl
theorem dL_law_332 : decode cL_law 332 = .ok (.iadd, 1) := dTa tdL_law_280 36 rfl
theorem dL_law_333 : decode cL_law 333 = .ok (.iaload, 1) := dTa tdL_law_280 37 rfl
theorem dL_law_334 : decode cL_law 334 = .ok (.invokevirtual 39, 3) := dTa tdL_law_280 38 rfl
theorem dL_law_337 : decode cL_law 337 = .ok (.if_icmp .eq 789, 3) := dTa tdL_law_280 39 rfl
set_option maxRecDepth 100000 in
theorem tdL_law_342 : dTb cL_law [(342, .aload_n 1, 1), (343, .aload_n 0, 1), (344, .iload_n 3, 1), (345, .iconst 1, 1), (346, .iadd, 1), (347, .iaload, 1), (348, .aload_n 0, 1), (349, .iload_n 3, 1), (350, .iconst 2, 1), (351, .iadd, 1), (352, .iaload, 1), (353, .invokevirtual 40, 3), (356, .pop, 1), (357, .aload_n 2, 1), (358, .aload_n 0, 1), (359, .iload_n 3, 1), (360, .iconst 1, 1), (361, .iadd, 1), (362, .iaload, 1), (363, .aload_n 0, 1), (364, .iload_n 3, 1), (365, .iconst 2, 1), (366, .iadd, 1), (367, .iaload, 1), (368, .invokevirtual 44, 3), (371, .pop, 1), (372, .goto 754, 3), (375, .aload_n 1, 1), (376, .aload_n 0, 1), (377, .iload_n 3, 1), (378, .iconst 1, 1), (379, .iadd, 1), (380, .iaload, 1), (381, .aload_n 0, 1), (382, .iload_n 3, 1), (383, .iconst 2, 1), (384, .iadd, 1), (385, .iaload, 1), (386, .invokevirtual 45, 3), (389, .pop, 1)] = true := by decide +kernel
theorem dL_law_342 : decode cL_law 342 = .ok (.aload_n 1, 1) := dTa tdL_law_342 0 rfl
theorem dL_law_343 : decode cL_law 343 = .ok (.aload_n 0, 1) := dTa tdL_law_342 1 rfl
theorem dL_law_344 : decode cL_law 344 = .ok (.iload_n 3, 1) := dTa tdL_law_342 2 rfl
theorem dL_law_345 : decode cL_law 345 = .ok (.iconst 1, 1) := dTa tdL_law_342 3 rfl
theorem dL_law_346 : decode cL_law 346 = .ok (.iadd, 1) := dTa tdL_law_342 4 rfl
theorem dL_law_347 : decode cL_law 347 = .ok (.iaload, 1) := dTa tdL_law_342 5 rfl
theorem dL_law_348 : decode cL_law 348 = .ok (.aload_n 0, 1) := dTa tdL_law_342 6 rfl
theorem dL_law_349 : decode cL_law 349 = .ok (.iload_n 3, 1) := dTa tdL_law_342 7 rfl
theorem dL_law_350 : decode cL_law 350 = .ok (.iconst 2, 1) := dTa tdL_law_342 8 rfl
theorem dL_law_351 : decode cL_law 351 = .ok (.iadd, 1) := dTa tdL_law_342 9 rfl
theorem dL_law_352 : decode cL_law 352 = .ok (.iaload, 1) := dTa tdL_law_342 10 rfl
theorem dL_law_353 : decode cL_law 353 = .ok (.invokevirtual 40, 3) := dTa tdL_law_342 11 rfl
theorem dL_law_356 : decode cL_law 356 = .ok (.pop, 1) := dTa tdL_law_342 12 rfl
theorem dL_law_357 : decode cL_law 357 = .ok (.aload_n 2, 1) := dTa tdL_law_342 13 rfl
theorem dL_law_358 : decode cL_law 358 = .ok (.aload_n 0, 1) := dTa tdL_law_342 14 rfl
theorem dL_law_359 : decode cL_law 359 = .ok (.iload_n 3, 1) := dTa tdL_law_342 15 rfl
theorem dL_law_360 : decode cL_law 360 = .ok (.iconst 1, 1) := dTa tdL_law_342 16 rfl
theorem dL_law_361 : decode cL_law 361 = .ok (.iadd, 1) := dTa tdL_law_342 17 rfl
theorem dL_law_362 : decode cL_law 362 = .ok (.iaload, 1) := dTa tdL_law_342 18 rfl
theorem dL_law_363 : decode cL_law 363 = .ok (.aload_n 0, 1) := dTa tdL_law_342 19 rfl
theorem dL_law_364 : decode cL_law 364 = .ok (.iload_n 3, 1) := dTa tdL_law_342 20 rfl
theorem dL_law_365 : decode cL_law 365 = .ok (.iconst 2, 1) := dTa tdL_law_342 21 rfl
theorem dL_law_366 : decode cL_law 366 = .ok (.iadd, 1) := dTa tdL_law_342 22 rfl
theorem dL_law_367 : decode cL_law 367 = .ok (.iaload, 1) := dTa tdL_law_342 23 rfl
theorem dL_law_368 : decode cL_law 368 = .ok (.invokevirtual 44, 3) := dTa tdL_law_342 24 rfl
theorem dL_law_371 : decode cL_law 371 = .ok (.pop, 1) := dTa tdL_law_342 25 rfl
theorem dL_law_372 : decode cL_law 372 = .ok (.goto 754, 3) := dTa tdL_law_342 26 rfl
theorem dL_law_375 : decode cL_law 375 = .ok (.aload_n 1, 1) := dTa tdL_law_342 27 rfl
theorem dL_law_376 : decode cL_law 376 = .ok (.aload_n 0, 1) := dTa tdL_law_342 28 rfl
theorem dL_law_377 : decode cL_law 377 = .ok (.iload_n 3, 1) := dTa tdL_law_342 29 rfl
theorem dL_law_378 : decode cL_law 378 = .ok (.iconst 1, 1) := dTa tdL_law_342 30 rfl
theorem dL_law_379 : decode cL_law 379 = .ok (.iadd, 1) := dTa tdL_law_342 31 rfl
theorem dL_law_380 : decode cL_law 380 = .ok (.iaload, 1) := dTa tdL_law_342 32 rfl
theorem dL_law_381 : decode cL_law 381 = .ok (.aload_n 0, 1) := dTa tdL_law_342 33 rfl
theorem dL_law_382 : decode cL_law 382 = .ok (.iload_n 3, 1) := dTa tdL_law_342 34 rfl
theorem dL_law_383 : decode cL_law 383 = .ok (.iconst 2, 1) := dTa tdL_law_342 35 rfl
theorem dL_law_384 : decode cL_law 384 = .ok (.iadd, 1) := dTa tdL_law_342 36 rfl
theorem dL_law_385 : decode cL_law 385 = .ok (.iaload, 1) := dTa tdL_law_342 37 rfl
theorem dL_law_386 : decode cL_law 386 = .ok (.invokevirtual 45, 3) := dTa tdL_law_342 38 rfl
theorem dL_law_389 : decode cL_law 389 = .ok (.pop, 1) := dTa tdL_law_342 39 rfl
set_option maxRecDepth 100000 in
theorem tdL_law_390 : dTb cL_law [(390, .aload_n 2, 1), (391, .aload_n 0, 1), (392, .iload_n 3, 1), (393, .iconst 1, 1), (394, .iadd, 1), (395, .iaload, 1), (396, .aload_n 0, 1), (397, .iload_n 3, 1), (398, .iconst 2, 1), (399, .iadd, 1), (400, .iaload, 1), (401, .invokevirtual 48, 3), (404, .pop, 1), (405, .goto 721, 3), (408, .aload_n 1, 1), (409, .invokevirtual 49, 3), (412, .pop, 1), (413, .aload_n 2, 1), (414, .invokevirtual 52, 3), (417, .pop, 1), (418, .goto 708, 3), (421, .aload_n 1, 1), (422, .aload_n 0, 1), (423, .iload_n 3, 1), (424, .iconst 1, 1), (425, .iadd, 1), (426, .iaload, 1), (427, .invokevirtual 53, 3), (430, .pop, 1), (431, .aload_n 2, 1), (432, .aload_n 0, 1), (433, .iload_n 3, 1), (434, .iconst 1, 1), (435, .iadd, 1), (436, .iaload, 1), (437, .invokevirtual 56, 3), (440, .pop, 1), (441, .goto 685, 3), (444, .aload_n 1, 1), (445, .aload_n 0, 1)] = true := by decide +kernel
theorem dL_law_390 : decode cL_law 390 = .ok (.aload_n 2, 1) := dTa tdL_law_390 0 rfl
theorem dL_law_391 : decode cL_law 391 = .ok (.aload_n 0, 1) := dTa tdL_law_390 1 rfl
theorem dL_law_392 : decode cL_law 392 = .ok (.iload_n 3, 1) := dTa tdL_law_390 2 rfl
theorem dL_law_393 : decode cL_law 393 = .ok (.iconst 1, 1) := dTa tdL_law_390 3 rfl
theorem dL_law_394 : decode cL_law 394 = .ok (.iadd, 1) := dTa tdL_law_390 4 rfl
theorem dL_law_395 : decode cL_law 395 = .ok (.iaload, 1) := dTa tdL_law_390 5 rfl
theorem dL_law_396 : decode cL_law 396 = .ok (.aload_n 0, 1) := dTa tdL_law_390 6 rfl
theorem dL_law_397 : decode cL_law 397 = .ok (.iload_n 3, 1) := dTa tdL_law_390 7 rfl
theorem dL_law_398 : decode cL_law 398 = .ok (.iconst 2, 1) := dTa tdL_law_390 8 rfl
theorem dL_law_399 : decode cL_law 399 = .ok (.iadd, 1) := dTa tdL_law_390 9 rfl
theorem dL_law_400 : decode cL_law 400 = .ok (.iaload, 1) := dTa tdL_law_390 10 rfl
theorem dL_law_401 : decode cL_law 401 = .ok (.invokevirtual 48, 3) := dTa tdL_law_390 11 rfl
theorem dL_law_404 : decode cL_law 404 = .ok (.pop, 1) := dTa tdL_law_390 12 rfl
theorem dL_law_405 : decode cL_law 405 = .ok (.goto 721, 3) := dTa tdL_law_390 13 rfl
theorem dL_law_408 : decode cL_law 408 = .ok (.aload_n 1, 1) := dTa tdL_law_390 14 rfl
theorem dL_law_409 : decode cL_law 409 = .ok (.invokevirtual 49, 3) := dTa tdL_law_390 15 rfl
theorem dL_law_412 : decode cL_law 412 = .ok (.pop, 1) := dTa tdL_law_390 16 rfl
theorem dL_law_413 : decode cL_law 413 = .ok (.aload_n 2, 1) := dTa tdL_law_390 17 rfl
theorem dL_law_414 : decode cL_law 414 = .ok (.invokevirtual 52, 3) := dTa tdL_law_390 18 rfl
theorem dL_law_417 : decode cL_law 417 = .ok (.pop, 1) := dTa tdL_law_390 19 rfl
theorem dL_law_418 : decode cL_law 418 = .ok (.goto 708, 3) := dTa tdL_law_390 20 rfl
theorem dL_law_421 : decode cL_law 421 = .ok (.aload_n 1, 1) := dTa tdL_law_390 21 rfl
theorem dL_law_422 : decode cL_law 422 = .ok (.aload_n 0, 1) := dTa tdL_law_390 22 rfl
theorem dL_law_423 : decode cL_law 423 = .ok (.iload_n 3, 1) := dTa tdL_law_390 23 rfl
theorem dL_law_424 : decode cL_law 424 = .ok (.iconst 1, 1) := dTa tdL_law_390 24 rfl
theorem dL_law_425 : decode cL_law 425 = .ok (.iadd, 1) := dTa tdL_law_390 25 rfl
theorem dL_law_426 : decode cL_law 426 = .ok (.iaload, 1) := dTa tdL_law_390 26 rfl
theorem dL_law_427 : decode cL_law 427 = .ok (.invokevirtual 53, 3) := dTa tdL_law_390 27 rfl
theorem dL_law_430 : decode cL_law 430 = .ok (.pop, 1) := dTa tdL_law_390 28 rfl
theorem dL_law_431 : decode cL_law 431 = .ok (.aload_n 2, 1) := dTa tdL_law_390 29 rfl
theorem dL_law_432 : decode cL_law 432 = .ok (.aload_n 0, 1) := dTa tdL_law_390 30 rfl
theorem dL_law_433 : decode cL_law 433 = .ok (.iload_n 3, 1) := dTa tdL_law_390 31 rfl
theorem dL_law_434 : decode cL_law 434 = .ok (.iconst 1, 1) := dTa tdL_law_390 32 rfl
theorem dL_law_435 : decode cL_law 435 = .ok (.iadd, 1) := dTa tdL_law_390 33 rfl
theorem dL_law_436 : decode cL_law 436 = .ok (.iaload, 1) := dTa tdL_law_390 34 rfl
theorem dL_law_437 : decode cL_law 437 = .ok (.invokevirtual 56, 3) := dTa tdL_law_390 35 rfl
theorem dL_law_440 : decode cL_law 440 = .ok (.pop, 1) := dTa tdL_law_390 36 rfl
theorem dL_law_441 : decode cL_law 441 = .ok (.goto 685, 3) := dTa tdL_law_390 37 rfl
theorem dL_law_444 : decode cL_law 444 = .ok (.aload_n 1, 1) := dTa tdL_law_390 38 rfl
theorem dL_law_445 : decode cL_law 445 = .ok (.aload_n 0, 1) := dTa tdL_law_390 39 rfl
set_option maxRecDepth 100000 in
theorem tdL_law_446 : dTb cL_law [(446, .iload_n 3, 1), (447, .iconst 1, 1), (448, .iadd, 1), (449, .iaload, 1), (450, .invokevirtual 57, 3), (453, .pop, 1), (454, .aload_n 2, 1), (455, .aload_n 0, 1), (456, .iload_n 3, 1), (457, .iconst 1, 1), (458, .iadd, 1), (459, .iaload, 1), (460, .invokevirtual 60, 3), (463, .pop, 1), (464, .goto 662, 3), (467, .aload_n 1, 1), (468, .aload_n 0, 1), (469, .iload_n 3, 1), (470, .iconst 1, 1), (471, .iadd, 1), (472, .iaload, 1), (473, .invokevirtual 61, 3), (476, .pop, 1), (477, .aload_n 2, 1), (478, .aload_n 0, 1), (479, .iload_n 3, 1), (480, .iconst 1, 1), (481, .iadd, 1), (482, .iaload, 1), (483, .invokevirtual 64, 3), (486, .pop, 1), (487, .goto 639, 3), (490, .aload_n 1, 1), (491, .aload_n 0, 1), (492, .iload_n 3, 1), (493, .iconst 1, 1), (494, .iadd, 1), (495, .iaload, 1), (496, .aload_n 0, 1), (497, .iload_n 3, 1)] = true := by decide +kernel
theorem dL_law_446 : decode cL_law 446 = .ok (.iload_n 3, 1) := dTa tdL_law_446 0 rfl
theorem dL_law_447 : decode cL_law 447 = .ok (.iconst 1, 1) := dTa tdL_law_446 1 rfl
theorem dL_law_448 : decode cL_law 448 = .ok (.iadd, 1) := dTa tdL_law_446 2 rfl
theorem dL_law_449 : decode cL_law 449 = .ok (.iaload, 1) := dTa tdL_law_446 3 rfl
theorem dL_law_450 : decode cL_law 450 = .ok (.invokevirtual 57, 3) := dTa tdL_law_446 4 rfl
theorem dL_law_453 : decode cL_law 453 = .ok (.pop, 1) := dTa tdL_law_446 5 rfl
theorem dL_law_454 : decode cL_law 454 = .ok (.aload_n 2, 1) := dTa tdL_law_446 6 rfl
theorem dL_law_455 : decode cL_law 455 = .ok (.aload_n 0, 1) := dTa tdL_law_446 7 rfl
theorem dL_law_456 : decode cL_law 456 = .ok (.iload_n 3, 1) := dTa tdL_law_446 8 rfl
theorem dL_law_457 : decode cL_law 457 = .ok (.iconst 1, 1) := dTa tdL_law_446 9 rfl
theorem dL_law_458 : decode cL_law 458 = .ok (.iadd, 1) := dTa tdL_law_446 10 rfl
theorem dL_law_459 : decode cL_law 459 = .ok (.iaload, 1) := dTa tdL_law_446 11 rfl
theorem dL_law_460 : decode cL_law 460 = .ok (.invokevirtual 60, 3) := dTa tdL_law_446 12 rfl
theorem dL_law_463 : decode cL_law 463 = .ok (.pop, 1) := dTa tdL_law_446 13 rfl
theorem dL_law_464 : decode cL_law 464 = .ok (.goto 662, 3) := dTa tdL_law_446 14 rfl
theorem dL_law_467 : decode cL_law 467 = .ok (.aload_n 1, 1) := dTa tdL_law_446 15 rfl
theorem dL_law_468 : decode cL_law 468 = .ok (.aload_n 0, 1) := dTa tdL_law_446 16 rfl
theorem dL_law_469 : decode cL_law 469 = .ok (.iload_n 3, 1) := dTa tdL_law_446 17 rfl
theorem dL_law_470 : decode cL_law 470 = .ok (.iconst 1, 1) := dTa tdL_law_446 18 rfl
theorem dL_law_471 : decode cL_law 471 = .ok (.iadd, 1) := dTa tdL_law_446 19 rfl
theorem dL_law_472 : decode cL_law 472 = .ok (.iaload, 1) := dTa tdL_law_446 20 rfl
theorem dL_law_473 : decode cL_law 473 = .ok (.invokevirtual 61, 3) := dTa tdL_law_446 21 rfl
theorem dL_law_476 : decode cL_law 476 = .ok (.pop, 1) := dTa tdL_law_446 22 rfl
theorem dL_law_477 : decode cL_law 477 = .ok (.aload_n 2, 1) := dTa tdL_law_446 23 rfl
theorem dL_law_478 : decode cL_law 478 = .ok (.aload_n 0, 1) := dTa tdL_law_446 24 rfl
theorem dL_law_479 : decode cL_law 479 = .ok (.iload_n 3, 1) := dTa tdL_law_446 25 rfl
theorem dL_law_480 : decode cL_law 480 = .ok (.iconst 1, 1) := dTa tdL_law_446 26 rfl
theorem dL_law_481 : decode cL_law 481 = .ok (.iadd, 1) := dTa tdL_law_446 27 rfl
theorem dL_law_482 : decode cL_law 482 = .ok (.iaload, 1) := dTa tdL_law_446 28 rfl
theorem dL_law_483 : decode cL_law 483 = .ok (.invokevirtual 64, 3) := dTa tdL_law_446 29 rfl
theorem dL_law_486 : decode cL_law 486 = .ok (.pop, 1) := dTa tdL_law_446 30 rfl
theorem dL_law_487 : decode cL_law 487 = .ok (.goto 639, 3) := dTa tdL_law_446 31 rfl
theorem dL_law_490 : decode cL_law 490 = .ok (.aload_n 1, 1) := dTa tdL_law_446 32 rfl
theorem dL_law_491 : decode cL_law 491 = .ok (.aload_n 0, 1) := dTa tdL_law_446 33 rfl
theorem dL_law_492 : decode cL_law 492 = .ok (.iload_n 3, 1) := dTa tdL_law_446 34 rfl
theorem dL_law_493 : decode cL_law 493 = .ok (.iconst 1, 1) := dTa tdL_law_446 35 rfl
theorem dL_law_494 : decode cL_law 494 = .ok (.iadd, 1) := dTa tdL_law_446 36 rfl
theorem dL_law_495 : decode cL_law 495 = .ok (.iaload, 1) := dTa tdL_law_446 37 rfl
theorem dL_law_496 : decode cL_law 496 = .ok (.aload_n 0, 1) := dTa tdL_law_446 38 rfl
theorem dL_law_497 : decode cL_law 497 = .ok (.iload_n 3, 1) := dTa tdL_law_446 39 rfl
set_option maxRecDepth 100000 in
theorem tdL_law_498 : dTb cL_law [(498, .iconst 2, 1), (499, .iadd, 1), (500, .iaload, 1), (501, .invokevirtual 65, 3), (504, .pop, 1), (505, .aload_n 2, 1), (506, .aload_n 0, 1), (507, .iload_n 3, 1), (508, .iconst 1, 1), (509, .iadd, 1), (510, .iaload, 1), (511, .aload_n 0, 1), (512, .iload_n 3, 1), (513, .iconst 2, 1), (514, .iadd, 1), (515, .iaload, 1), (516, .invokevirtual 68, 3), (519, .pop, 1), (520, .goto 606, 3), (523, .aload_n 1, 1), (524, .invokevirtual 69, 3), (527, .pop, 1), (528, .aload_n 2, 1), (529, .invokevirtual 72, 3), (532, .pop, 1), (533, .goto 593, 3), (536, .aload_n 1, 1), (537, .aload_n 0, 1), (538, .iload_n 3, 1), (539, .iconst 1, 1), (540, .iadd, 1), (541, .iaload, 1), (542, .aload_n 0, 1), (543, .iload_n 3, 1), (544, .iconst 2, 1), (545, .iadd, 1), (546, .iaload, 1), (547, .aload_n 0, 1), (548, .iload_n 3, 1), (549, .iconst 3, 1)] = true := by decide +kernel
theorem dL_law_498 : decode cL_law 498 = .ok (.iconst 2, 1) := dTa tdL_law_498 0 rfl
theorem dL_law_499 : decode cL_law 499 = .ok (.iadd, 1) := dTa tdL_law_498 1 rfl
theorem dL_law_500 : decode cL_law 500 = .ok (.iaload, 1) := dTa tdL_law_498 2 rfl
theorem dL_law_501 : decode cL_law 501 = .ok (.invokevirtual 65, 3) := dTa tdL_law_498 3 rfl
theorem dL_law_504 : decode cL_law 504 = .ok (.pop, 1) := dTa tdL_law_498 4 rfl
theorem dL_law_505 : decode cL_law 505 = .ok (.aload_n 2, 1) := dTa tdL_law_498 5 rfl
theorem dL_law_506 : decode cL_law 506 = .ok (.aload_n 0, 1) := dTa tdL_law_498 6 rfl
theorem dL_law_507 : decode cL_law 507 = .ok (.iload_n 3, 1) := dTa tdL_law_498 7 rfl
theorem dL_law_508 : decode cL_law 508 = .ok (.iconst 1, 1) := dTa tdL_law_498 8 rfl
theorem dL_law_509 : decode cL_law 509 = .ok (.iadd, 1) := dTa tdL_law_498 9 rfl
theorem dL_law_510 : decode cL_law 510 = .ok (.iaload, 1) := dTa tdL_law_498 10 rfl
theorem dL_law_511 : decode cL_law 511 = .ok (.aload_n 0, 1) := dTa tdL_law_498 11 rfl
theorem dL_law_512 : decode cL_law 512 = .ok (.iload_n 3, 1) := dTa tdL_law_498 12 rfl
theorem dL_law_513 : decode cL_law 513 = .ok (.iconst 2, 1) := dTa tdL_law_498 13 rfl
theorem dL_law_514 : decode cL_law 514 = .ok (.iadd, 1) := dTa tdL_law_498 14 rfl
theorem dL_law_515 : decode cL_law 515 = .ok (.iaload, 1) := dTa tdL_law_498 15 rfl
theorem dL_law_516 : decode cL_law 516 = .ok (.invokevirtual 68, 3) := dTa tdL_law_498 16 rfl
theorem dL_law_519 : decode cL_law 519 = .ok (.pop, 1) := dTa tdL_law_498 17 rfl
theorem dL_law_520 : decode cL_law 520 = .ok (.goto 606, 3) := dTa tdL_law_498 18 rfl
theorem dL_law_523 : decode cL_law 523 = .ok (.aload_n 1, 1) := dTa tdL_law_498 19 rfl
theorem dL_law_524 : decode cL_law 524 = .ok (.invokevirtual 69, 3) := dTa tdL_law_498 20 rfl
theorem dL_law_527 : decode cL_law 527 = .ok (.pop, 1) := dTa tdL_law_498 21 rfl
theorem dL_law_528 : decode cL_law 528 = .ok (.aload_n 2, 1) := dTa tdL_law_498 22 rfl
theorem dL_law_529 : decode cL_law 529 = .ok (.invokevirtual 72, 3) := dTa tdL_law_498 23 rfl
theorem dL_law_532 : decode cL_law 532 = .ok (.pop, 1) := dTa tdL_law_498 24 rfl
theorem dL_law_533 : decode cL_law 533 = .ok (.goto 593, 3) := dTa tdL_law_498 25 rfl
theorem dL_law_536 : decode cL_law 536 = .ok (.aload_n 1, 1) := dTa tdL_law_498 26 rfl
theorem dL_law_537 : decode cL_law 537 = .ok (.aload_n 0, 1) := dTa tdL_law_498 27 rfl
theorem dL_law_538 : decode cL_law 538 = .ok (.iload_n 3, 1) := dTa tdL_law_498 28 rfl
theorem dL_law_539 : decode cL_law 539 = .ok (.iconst 1, 1) := dTa tdL_law_498 29 rfl
theorem dL_law_540 : decode cL_law 540 = .ok (.iadd, 1) := dTa tdL_law_498 30 rfl
theorem dL_law_541 : decode cL_law 541 = .ok (.iaload, 1) := dTa tdL_law_498 31 rfl
theorem dL_law_542 : decode cL_law 542 = .ok (.aload_n 0, 1) := dTa tdL_law_498 32 rfl
theorem dL_law_543 : decode cL_law 543 = .ok (.iload_n 3, 1) := dTa tdL_law_498 33 rfl
theorem dL_law_544 : decode cL_law 544 = .ok (.iconst 2, 1) := dTa tdL_law_498 34 rfl
theorem dL_law_545 : decode cL_law 545 = .ok (.iadd, 1) := dTa tdL_law_498 35 rfl
theorem dL_law_546 : decode cL_law 546 = .ok (.iaload, 1) := dTa tdL_law_498 36 rfl
theorem dL_law_547 : decode cL_law 547 = .ok (.aload_n 0, 1) := dTa tdL_law_498 37 rfl
theorem dL_law_548 : decode cL_law 548 = .ok (.iload_n 3, 1) := dTa tdL_law_498 38 rfl
theorem dL_law_549 : decode cL_law 549 = .ok (.iconst 3, 1) := dTa tdL_law_498 39 rfl
set_option maxRecDepth 100000 in
theorem tdL_law_550 : dTb cL_law [(550, .iadd, 1), (551, .iaload, 1), (552, .invokevirtual 73, 3), (555, .pop, 1), (556, .aload_n 2, 1), (557, .aload_n 0, 1), (558, .iload_n 3, 1), (559, .iconst 1, 1), (560, .iadd, 1), (561, .iaload, 1), (562, .aload_n 0, 1), (563, .iload_n 3, 1), (564, .iconst 2, 1), (565, .iadd, 1), (566, .iaload, 1), (567, .aload_n 0, 1), (568, .iload_n 3, 1), (569, .iconst 3, 1), (570, .iadd, 1), (571, .iaload, 1), (572, .invokevirtual 77, 3), (575, .pop, 1), (576, .goto 550, 3), (579, .aload_n 1, 1), (580, .aload_n 0, 1), (581, .iload_n 3, 1), (582, .iconst 1, 1), (583, .iadd, 1), (584, .iaload, 1), (585, .invokevirtual 78, 3), (588, .pop, 1), (589, .aload_n 2, 1), (590, .aload_n 0, 1), (591, .iload_n 3, 1), (592, .iconst 1, 1), (593, .iadd, 1), (594, .iaload, 1), (595, .invokevirtual 81, 3), (598, .pop, 1), (599, .goto 527, 3)] = true := by decide +kernel
theorem dL_law_550 : decode cL_law 550 = .ok (.iadd, 1) := dTa tdL_law_550 0 rfl
theorem dL_law_551 : decode cL_law 551 = .ok (.iaload, 1) := dTa tdL_law_550 1 rfl
theorem dL_law_552 : decode cL_law 552 = .ok (.invokevirtual 73, 3) := dTa tdL_law_550 2 rfl
theorem dL_law_555 : decode cL_law 555 = .ok (.pop, 1) := dTa tdL_law_550 3 rfl
theorem dL_law_556 : decode cL_law 556 = .ok (.aload_n 2, 1) := dTa tdL_law_550 4 rfl
theorem dL_law_557 : decode cL_law 557 = .ok (.aload_n 0, 1) := dTa tdL_law_550 5 rfl
theorem dL_law_558 : decode cL_law 558 = .ok (.iload_n 3, 1) := dTa tdL_law_550 6 rfl
theorem dL_law_559 : decode cL_law 559 = .ok (.iconst 1, 1) := dTa tdL_law_550 7 rfl
theorem dL_law_560 : decode cL_law 560 = .ok (.iadd, 1) := dTa tdL_law_550 8 rfl
theorem dL_law_561 : decode cL_law 561 = .ok (.iaload, 1) := dTa tdL_law_550 9 rfl
theorem dL_law_562 : decode cL_law 562 = .ok (.aload_n 0, 1) := dTa tdL_law_550 10 rfl
theorem dL_law_563 : decode cL_law 563 = .ok (.iload_n 3, 1) := dTa tdL_law_550 11 rfl
theorem dL_law_564 : decode cL_law 564 = .ok (.iconst 2, 1) := dTa tdL_law_550 12 rfl
theorem dL_law_565 : decode cL_law 565 = .ok (.iadd, 1) := dTa tdL_law_550 13 rfl
theorem dL_law_566 : decode cL_law 566 = .ok (.iaload, 1) := dTa tdL_law_550 14 rfl
theorem dL_law_567 : decode cL_law 567 = .ok (.aload_n 0, 1) := dTa tdL_law_550 15 rfl
theorem dL_law_568 : decode cL_law 568 = .ok (.iload_n 3, 1) := dTa tdL_law_550 16 rfl
theorem dL_law_569 : decode cL_law 569 = .ok (.iconst 3, 1) := dTa tdL_law_550 17 rfl
theorem dL_law_570 : decode cL_law 570 = .ok (.iadd, 1) := dTa tdL_law_550 18 rfl
theorem dL_law_571 : decode cL_law 571 = .ok (.iaload, 1) := dTa tdL_law_550 19 rfl
theorem dL_law_572 : decode cL_law 572 = .ok (.invokevirtual 77, 3) := dTa tdL_law_550 20 rfl
theorem dL_law_575 : decode cL_law 575 = .ok (.pop, 1) := dTa tdL_law_550 21 rfl
theorem dL_law_576 : decode cL_law 576 = .ok (.goto 550, 3) := dTa tdL_law_550 22 rfl
theorem dL_law_579 : decode cL_law 579 = .ok (.aload_n 1, 1) := dTa tdL_law_550 23 rfl
theorem dL_law_580 : decode cL_law 580 = .ok (.aload_n 0, 1) := dTa tdL_law_550 24 rfl
theorem dL_law_581 : decode cL_law 581 = .ok (.iload_n 3, 1) := dTa tdL_law_550 25 rfl
theorem dL_law_582 : decode cL_law 582 = .ok (.iconst 1, 1) := dTa tdL_law_550 26 rfl
theorem dL_law_583 : decode cL_law 583 = .ok (.iadd, 1) := dTa tdL_law_550 27 rfl
theorem dL_law_584 : decode cL_law 584 = .ok (.iaload, 1) := dTa tdL_law_550 28 rfl
theorem dL_law_585 : decode cL_law 585 = .ok (.invokevirtual 78, 3) := dTa tdL_law_550 29 rfl
theorem dL_law_588 : decode cL_law 588 = .ok (.pop, 1) := dTa tdL_law_550 30 rfl
theorem dL_law_589 : decode cL_law 589 = .ok (.aload_n 2, 1) := dTa tdL_law_550 31 rfl
theorem dL_law_590 : decode cL_law 590 = .ok (.aload_n 0, 1) := dTa tdL_law_550 32 rfl
theorem dL_law_591 : decode cL_law 591 = .ok (.iload_n 3, 1) := dTa tdL_law_550 33 rfl
theorem dL_law_592 : decode cL_law 592 = .ok (.iconst 1, 1) := dTa tdL_law_550 34 rfl
theorem dL_law_593 : decode cL_law 593 = .ok (.iadd, 1) := dTa tdL_law_550 35 rfl
theorem dL_law_594 : decode cL_law 594 = .ok (.iaload, 1) := dTa tdL_law_550 36 rfl
theorem dL_law_595 : decode cL_law 595 = .ok (.invokevirtual 81, 3) := dTa tdL_law_550 37 rfl
theorem dL_law_598 : decode cL_law 598 = .ok (.pop, 1) := dTa tdL_law_550 38 rfl
theorem dL_law_599 : decode cL_law 599 = .ok (.goto 527, 3) := dTa tdL_law_550 39 rfl
set_option maxRecDepth 100000 in
theorem tdL_law_602 : dTb cL_law [(602, .aload_n 1, 1), (603, .aload_n 0, 1), (604, .iload_n 3, 1), (605, .iconst 1, 1), (606, .iadd, 1), (607, .iaload, 1), (608, .invokevirtual 82, 3), (611, .pop, 1), (612, .aload_n 2, 1), (613, .aload_n 0, 1), (614, .iload_n 3, 1), (615, .iconst 1, 1), (616, .iadd, 1), (617, .iaload, 1), (618, .invokevirtual 85, 3), (621, .pop, 1), (622, .goto 504, 3), (625, .aload_n 1, 1), (626, .aload_n 0, 1), (627, .iload_n 3, 1), (628, .iconst 1, 1), (629, .iadd, 1), (630, .iaload, 1), (631, .invokevirtual 86, 3), (634, .pop, 1), (635, .aload_n 2, 1), (636, .aload_n 0, 1), (637, .iload_n 3, 1), (638, .iconst 1, 1), (639, .iadd, 1), (640, .iaload, 1), (641, .invokevirtual 89, 3), (644, .pop, 1), (645, .goto 481, 3), (648, .aload_n 1, 1), (649, .aload_n 0, 1), (650, .iload_n 3, 1), (651, .iconst 1, 1), (652, .iadd, 1), (653, .iaload, 1)] = true := by decide +kernel
theorem dL_law_602 : decode cL_law 602 = .ok (.aload_n 1, 1) := dTa tdL_law_602 0 rfl
theorem dL_law_603 : decode cL_law 603 = .ok (.aload_n 0, 1) := dTa tdL_law_602 1 rfl
theorem dL_law_604 : decode cL_law 604 = .ok (.iload_n 3, 1) := dTa tdL_law_602 2 rfl
theorem dL_law_605 : decode cL_law 605 = .ok (.iconst 1, 1) := dTa tdL_law_602 3 rfl
theorem dL_law_606 : decode cL_law 606 = .ok (.iadd, 1) := dTa tdL_law_602 4 rfl
theorem dL_law_607 : decode cL_law 607 = .ok (.iaload, 1) := dTa tdL_law_602 5 rfl
theorem dL_law_608 : decode cL_law 608 = .ok (.invokevirtual 82, 3) := dTa tdL_law_602 6 rfl
theorem dL_law_611 : decode cL_law 611 = .ok (.pop, 1) := dTa tdL_law_602 7 rfl
theorem dL_law_612 : decode cL_law 612 = .ok (.aload_n 2, 1) := dTa tdL_law_602 8 rfl
theorem dL_law_613 : decode cL_law 613 = .ok (.aload_n 0, 1) := dTa tdL_law_602 9 rfl
theorem dL_law_614 : decode cL_law 614 = .ok (.iload_n 3, 1) := dTa tdL_law_602 10 rfl
theorem dL_law_615 : decode cL_law 615 = .ok (.iconst 1, 1) := dTa tdL_law_602 11 rfl
theorem dL_law_616 : decode cL_law 616 = .ok (.iadd, 1) := dTa tdL_law_602 12 rfl
theorem dL_law_617 : decode cL_law 617 = .ok (.iaload, 1) := dTa tdL_law_602 13 rfl
theorem dL_law_618 : decode cL_law 618 = .ok (.invokevirtual 85, 3) := dTa tdL_law_602 14 rfl
theorem dL_law_621 : decode cL_law 621 = .ok (.pop, 1) := dTa tdL_law_602 15 rfl
theorem dL_law_622 : decode cL_law 622 = .ok (.goto 504, 3) := dTa tdL_law_602 16 rfl
theorem dL_law_625 : decode cL_law 625 = .ok (.aload_n 1, 1) := dTa tdL_law_602 17 rfl
theorem dL_law_626 : decode cL_law 626 = .ok (.aload_n 0, 1) := dTa tdL_law_602 18 rfl
theorem dL_law_627 : decode cL_law 627 = .ok (.iload_n 3, 1) := dTa tdL_law_602 19 rfl
theorem dL_law_628 : decode cL_law 628 = .ok (.iconst 1, 1) := dTa tdL_law_602 20 rfl
theorem dL_law_629 : decode cL_law 629 = .ok (.iadd, 1) := dTa tdL_law_602 21 rfl
theorem dL_law_630 : decode cL_law 630 = .ok (.iaload, 1) := dTa tdL_law_602 22 rfl
theorem dL_law_631 : decode cL_law 631 = .ok (.invokevirtual 86, 3) := dTa tdL_law_602 23 rfl
theorem dL_law_634 : decode cL_law 634 = .ok (.pop, 1) := dTa tdL_law_602 24 rfl
theorem dL_law_635 : decode cL_law 635 = .ok (.aload_n 2, 1) := dTa tdL_law_602 25 rfl
theorem dL_law_636 : decode cL_law 636 = .ok (.aload_n 0, 1) := dTa tdL_law_602 26 rfl
theorem dL_law_637 : decode cL_law 637 = .ok (.iload_n 3, 1) := dTa tdL_law_602 27 rfl
theorem dL_law_638 : decode cL_law 638 = .ok (.iconst 1, 1) := dTa tdL_law_602 28 rfl
theorem dL_law_639 : decode cL_law 639 = .ok (.iadd, 1) := dTa tdL_law_602 29 rfl
theorem dL_law_640 : decode cL_law 640 = .ok (.iaload, 1) := dTa tdL_law_602 30 rfl
theorem dL_law_641 : decode cL_law 641 = .ok (.invokevirtual 89, 3) := dTa tdL_law_602 31 rfl
theorem dL_law_644 : decode cL_law 644 = .ok (.pop, 1) := dTa tdL_law_602 32 rfl
theorem dL_law_645 : decode cL_law 645 = .ok (.goto 481, 3) := dTa tdL_law_602 33 rfl
theorem dL_law_648 : decode cL_law 648 = .ok (.aload_n 1, 1) := dTa tdL_law_602 34 rfl
theorem dL_law_649 : decode cL_law 649 = .ok (.aload_n 0, 1) := dTa tdL_law_602 35 rfl
theorem dL_law_650 : decode cL_law 650 = .ok (.iload_n 3, 1) := dTa tdL_law_602 36 rfl
theorem dL_law_651 : decode cL_law 651 = .ok (.iconst 1, 1) := dTa tdL_law_602 37 rfl
theorem dL_law_652 : decode cL_law 652 = .ok (.iadd, 1) := dTa tdL_law_602 38 rfl
theorem dL_law_653 : decode cL_law 653 = .ok (.iaload, 1) := dTa tdL_law_602 39 rfl
set_option maxRecDepth 100000 in
theorem tdL_law_654 : dTb cL_law [(654, .invokevirtual 90, 3), (657, .pop, 1), (658, .aload_n 2, 1), (659, .aload_n 0, 1), (660, .iload_n 3, 1), (661, .iconst 1, 1), (662, .iadd, 1), (663, .iaload, 1), (664, .invokevirtual 93, 3), (667, .pop, 1), (668, .goto 458, 3), (671, .aload_n 1, 1), (672, .aload_n 0, 1), (673, .iload_n 3, 1), (674, .iconst 1, 1), (675, .iadd, 1), (676, .iaload, 1), (677, .invokevirtual 94, 3), (680, .pop, 1), (681, .aload_n 2, 1), (682, .aload_n 0, 1), (683, .iload_n 3, 1), (684, .iconst 1, 1), (685, .iadd, 1), (686, .iaload, 1), (687, .invokevirtual 97, 3), (690, .pop, 1), (691, .goto 435, 3), (694, .aload_n 1, 1), (695, .aload_n 0, 1), (696, .iload_n 3, 1), (697, .iconst 1, 1), (698, .iadd, 1), (699, .iaload, 1), (700, .invokevirtual 98, 3), (703, .pop, 1), (704, .aload_n 2, 1), (705, .aload_n 0, 1), (706, .iload_n 3, 1), (707, .iconst 1, 1)] = true := by decide +kernel
theorem dL_law_654 : decode cL_law 654 = .ok (.invokevirtual 90, 3) := dTa tdL_law_654 0 rfl
theorem dL_law_657 : decode cL_law 657 = .ok (.pop, 1) := dTa tdL_law_654 1 rfl
theorem dL_law_658 : decode cL_law 658 = .ok (.aload_n 2, 1) := dTa tdL_law_654 2 rfl
theorem dL_law_659 : decode cL_law 659 = .ok (.aload_n 0, 1) := dTa tdL_law_654 3 rfl
theorem dL_law_660 : decode cL_law 660 = .ok (.iload_n 3, 1) := dTa tdL_law_654 4 rfl
theorem dL_law_661 : decode cL_law 661 = .ok (.iconst 1, 1) := dTa tdL_law_654 5 rfl
theorem dL_law_662 : decode cL_law 662 = .ok (.iadd, 1) := dTa tdL_law_654 6 rfl
theorem dL_law_663 : decode cL_law 663 = .ok (.iaload, 1) := dTa tdL_law_654 7 rfl
theorem dL_law_664 : decode cL_law 664 = .ok (.invokevirtual 93, 3) := dTa tdL_law_654 8 rfl
theorem dL_law_667 : decode cL_law 667 = .ok (.pop, 1) := dTa tdL_law_654 9 rfl
theorem dL_law_668 : decode cL_law 668 = .ok (.goto 458, 3) := dTa tdL_law_654 10 rfl
theorem dL_law_671 : decode cL_law 671 = .ok (.aload_n 1, 1) := dTa tdL_law_654 11 rfl
theorem dL_law_672 : decode cL_law 672 = .ok (.aload_n 0, 1) := dTa tdL_law_654 12 rfl
theorem dL_law_673 : decode cL_law 673 = .ok (.iload_n 3, 1) := dTa tdL_law_654 13 rfl
theorem dL_law_674 : decode cL_law 674 = .ok (.iconst 1, 1) := dTa tdL_law_654 14 rfl
theorem dL_law_675 : decode cL_law 675 = .ok (.iadd, 1) := dTa tdL_law_654 15 rfl
theorem dL_law_676 : decode cL_law 676 = .ok (.iaload, 1) := dTa tdL_law_654 16 rfl
theorem dL_law_677 : decode cL_law 677 = .ok (.invokevirtual 94, 3) := dTa tdL_law_654 17 rfl
theorem dL_law_680 : decode cL_law 680 = .ok (.pop, 1) := dTa tdL_law_654 18 rfl
theorem dL_law_681 : decode cL_law 681 = .ok (.aload_n 2, 1) := dTa tdL_law_654 19 rfl
theorem dL_law_682 : decode cL_law 682 = .ok (.aload_n 0, 1) := dTa tdL_law_654 20 rfl
theorem dL_law_683 : decode cL_law 683 = .ok (.iload_n 3, 1) := dTa tdL_law_654 21 rfl
theorem dL_law_684 : decode cL_law 684 = .ok (.iconst 1, 1) := dTa tdL_law_654 22 rfl
theorem dL_law_685 : decode cL_law 685 = .ok (.iadd, 1) := dTa tdL_law_654 23 rfl
theorem dL_law_686 : decode cL_law 686 = .ok (.iaload, 1) := dTa tdL_law_654 24 rfl
theorem dL_law_687 : decode cL_law 687 = .ok (.invokevirtual 97, 3) := dTa tdL_law_654 25 rfl
theorem dL_law_690 : decode cL_law 690 = .ok (.pop, 1) := dTa tdL_law_654 26 rfl
theorem dL_law_691 : decode cL_law 691 = .ok (.goto 435, 3) := dTa tdL_law_654 27 rfl
theorem dL_law_694 : decode cL_law 694 = .ok (.aload_n 1, 1) := dTa tdL_law_654 28 rfl
theorem dL_law_695 : decode cL_law 695 = .ok (.aload_n 0, 1) := dTa tdL_law_654 29 rfl
theorem dL_law_696 : decode cL_law 696 = .ok (.iload_n 3, 1) := dTa tdL_law_654 30 rfl
theorem dL_law_697 : decode cL_law 697 = .ok (.iconst 1, 1) := dTa tdL_law_654 31 rfl
theorem dL_law_698 : decode cL_law 698 = .ok (.iadd, 1) := dTa tdL_law_654 32 rfl
theorem dL_law_699 : decode cL_law 699 = .ok (.iaload, 1) := dTa tdL_law_654 33 rfl
theorem dL_law_700 : decode cL_law 700 = .ok (.invokevirtual 98, 3) := dTa tdL_law_654 34 rfl
theorem dL_law_703 : decode cL_law 703 = .ok (.pop, 1) := dTa tdL_law_654 35 rfl
theorem dL_law_704 : decode cL_law 704 = .ok (.aload_n 2, 1) := dTa tdL_law_654 36 rfl
theorem dL_law_705 : decode cL_law 705 = .ok (.aload_n 0, 1) := dTa tdL_law_654 37 rfl
theorem dL_law_706 : decode cL_law 706 = .ok (.iload_n 3, 1) := dTa tdL_law_654 38 rfl
theorem dL_law_707 : decode cL_law 707 = .ok (.iconst 1, 1) := dTa tdL_law_654 39 rfl
set_option maxRecDepth 100000 in
theorem tdL_law_708 : dTb cL_law [(708, .iadd, 1), (709, .iaload, 1), (710, .invokevirtual 101, 3), (713, .pop, 1), (714, .goto 412, 3), (717, .aload_n 1, 1), (718, .aload_n 0, 1), (719, .iload_n 3, 1), (720, .iconst 1, 1), (721, .iadd, 1), (722, .iaload, 1), (723, .aload_n 0, 1), (724, .iload_n 3, 1), (725, .iconst 2, 1), (726, .iadd, 1), (727, .iaload, 1), (728, .invokevirtual 102, 3), (731, .pop, 1), (732, .aload_n 2, 1), (733, .aload_n 0, 1), (734, .iload_n 3, 1), (735, .iconst 1, 1), (736, .iadd, 1), (737, .iaload, 1), (738, .aload_n 0, 1), (739, .iload_n 3, 1), (740, .iconst 2, 1), (741, .iadd, 1), (742, .iaload, 1), (743, .invokevirtual 105, 3), (746, .pop, 1), (747, .goto 379, 3), (750, .aload_n 1, 1), (751, .aload_n 0, 1), (752, .iload_n 3, 1), (753, .iconst 1, 1), (754, .iadd, 1), (755, .iaload, 1), (756, .invokevirtual 106, 3), (759, .pop, 1)] = true := by decide +kernel
theorem dL_law_708 : decode cL_law 708 = .ok (.iadd, 1) := dTa tdL_law_708 0 rfl
theorem dL_law_709 : decode cL_law 709 = .ok (.iaload, 1) := dTa tdL_law_708 1 rfl
theorem dL_law_710 : decode cL_law 710 = .ok (.invokevirtual 101, 3) := dTa tdL_law_708 2 rfl
theorem dL_law_713 : decode cL_law 713 = .ok (.pop, 1) := dTa tdL_law_708 3 rfl
theorem dL_law_714 : decode cL_law 714 = .ok (.goto 412, 3) := dTa tdL_law_708 4 rfl
theorem dL_law_717 : decode cL_law 717 = .ok (.aload_n 1, 1) := dTa tdL_law_708 5 rfl
theorem dL_law_718 : decode cL_law 718 = .ok (.aload_n 0, 1) := dTa tdL_law_708 6 rfl
theorem dL_law_719 : decode cL_law 719 = .ok (.iload_n 3, 1) := dTa tdL_law_708 7 rfl
theorem dL_law_720 : decode cL_law 720 = .ok (.iconst 1, 1) := dTa tdL_law_708 8 rfl
theorem dL_law_721 : decode cL_law 721 = .ok (.iadd, 1) := dTa tdL_law_708 9 rfl
theorem dL_law_722 : decode cL_law 722 = .ok (.iaload, 1) := dTa tdL_law_708 10 rfl
theorem dL_law_723 : decode cL_law 723 = .ok (.aload_n 0, 1) := dTa tdL_law_708 11 rfl
theorem dL_law_724 : decode cL_law 724 = .ok (.iload_n 3, 1) := dTa tdL_law_708 12 rfl
theorem dL_law_725 : decode cL_law 725 = .ok (.iconst 2, 1) := dTa tdL_law_708 13 rfl
theorem dL_law_726 : decode cL_law 726 = .ok (.iadd, 1) := dTa tdL_law_708 14 rfl
theorem dL_law_727 : decode cL_law 727 = .ok (.iaload, 1) := dTa tdL_law_708 15 rfl
theorem dL_law_728 : decode cL_law 728 = .ok (.invokevirtual 102, 3) := dTa tdL_law_708 16 rfl
theorem dL_law_731 : decode cL_law 731 = .ok (.pop, 1) := dTa tdL_law_708 17 rfl
theorem dL_law_732 : decode cL_law 732 = .ok (.aload_n 2, 1) := dTa tdL_law_708 18 rfl
theorem dL_law_733 : decode cL_law 733 = .ok (.aload_n 0, 1) := dTa tdL_law_708 19 rfl
theorem dL_law_734 : decode cL_law 734 = .ok (.iload_n 3, 1) := dTa tdL_law_708 20 rfl
theorem dL_law_735 : decode cL_law 735 = .ok (.iconst 1, 1) := dTa tdL_law_708 21 rfl
theorem dL_law_736 : decode cL_law 736 = .ok (.iadd, 1) := dTa tdL_law_708 22 rfl
theorem dL_law_737 : decode cL_law 737 = .ok (.iaload, 1) := dTa tdL_law_708 23 rfl
theorem dL_law_738 : decode cL_law 738 = .ok (.aload_n 0, 1) := dTa tdL_law_708 24 rfl
theorem dL_law_739 : decode cL_law 739 = .ok (.iload_n 3, 1) := dTa tdL_law_708 25 rfl
theorem dL_law_740 : decode cL_law 740 = .ok (.iconst 2, 1) := dTa tdL_law_708 26 rfl
theorem dL_law_741 : decode cL_law 741 = .ok (.iadd, 1) := dTa tdL_law_708 27 rfl
theorem dL_law_742 : decode cL_law 742 = .ok (.iaload, 1) := dTa tdL_law_708 28 rfl
theorem dL_law_743 : decode cL_law 743 = .ok (.invokevirtual 105, 3) := dTa tdL_law_708 29 rfl
theorem dL_law_746 : decode cL_law 746 = .ok (.pop, 1) := dTa tdL_law_708 30 rfl
theorem dL_law_747 : decode cL_law 747 = .ok (.goto 379, 3) := dTa tdL_law_708 31 rfl
theorem dL_law_750 : decode cL_law 750 = .ok (.aload_n 1, 1) := dTa tdL_law_708 32 rfl
theorem dL_law_751 : decode cL_law 751 = .ok (.aload_n 0, 1) := dTa tdL_law_708 33 rfl
theorem dL_law_752 : decode cL_law 752 = .ok (.iload_n 3, 1) := dTa tdL_law_708 34 rfl
theorem dL_law_753 : decode cL_law 753 = .ok (.iconst 1, 1) := dTa tdL_law_708 35 rfl
theorem dL_law_754 : decode cL_law 754 = .ok (.iadd, 1) := dTa tdL_law_708 36 rfl
theorem dL_law_755 : decode cL_law 755 = .ok (.iaload, 1) := dTa tdL_law_708 37 rfl
theorem dL_law_756 : decode cL_law 756 = .ok (.invokevirtual 106, 3) := dTa tdL_law_708 38 rfl
theorem dL_law_759 : decode cL_law 759 = .ok (.pop, 1) := dTa tdL_law_708 39 rfl
set_option maxRecDepth 100000 in
theorem tdL_law_760 : dTb cL_law [(760, .aload_n 2, 1), (761, .aload_n 0, 1), (762, .iload_n 3, 1), (763, .iconst 1, 1), (764, .iadd, 1), (765, .iaload, 1), (766, .invokevirtual 109, 3), (769, .pop, 1), (770, .goto 356, 3), (773, .aload_n 1, 1), (774, .aload_n 0, 1), (775, .iload_n 3, 1), (776, .iconst 1, 1), (777, .iadd, 1), (778, .iaload, 1), (779, .aload_n 0, 1), (780, .iload_n 3, 1), (781, .iconst 2, 1), (782, .iadd, 1), (783, .iaload, 1), (784, .aload_n 0, 1), (785, .iload_n 3, 1), (786, .iconst 3, 1), (787, .iadd, 1), (788, .iaload, 1), (789, .aload_n 0, 1), (790, .iload_n 3, 1), (791, .iconst 4, 1), (792, .iadd, 1), (793, .iaload, 1), (794, .invokevirtual 110, 3), (797, .pop, 1), (798, .aload_n 2, 1), (799, .aload_n 0, 1), (800, .iload_n 3, 1), (801, .iconst 1, 1), (802, .iadd, 1), (803, .iaload, 1), (804, .aload_n 0, 1), (805, .iload_n 3, 1)] = true := by decide +kernel
theorem dL_law_760 : decode cL_law 760 = .ok (.aload_n 2, 1) := dTa tdL_law_760 0 rfl
theorem dL_law_761 : decode cL_law 761 = .ok (.aload_n 0, 1) := dTa tdL_law_760 1 rfl
theorem dL_law_762 : decode cL_law 762 = .ok (.iload_n 3, 1) := dTa tdL_law_760 2 rfl
theorem dL_law_763 : decode cL_law 763 = .ok (.iconst 1, 1) := dTa tdL_law_760 3 rfl
theorem dL_law_764 : decode cL_law 764 = .ok (.iadd, 1) := dTa tdL_law_760 4 rfl
theorem dL_law_765 : decode cL_law 765 = .ok (.iaload, 1) := dTa tdL_law_760 5 rfl
theorem dL_law_766 : decode cL_law 766 = .ok (.invokevirtual 109, 3) := dTa tdL_law_760 6 rfl
theorem dL_law_769 : decode cL_law 769 = .ok (.pop, 1) := dTa tdL_law_760 7 rfl
theorem dL_law_770 : decode cL_law 770 = .ok (.goto 356, 3) := dTa tdL_law_760 8 rfl
theorem dL_law_773 : decode cL_law 773 = .ok (.aload_n 1, 1) := dTa tdL_law_760 9 rfl
theorem dL_law_774 : decode cL_law 774 = .ok (.aload_n 0, 1) := dTa tdL_law_760 10 rfl
theorem dL_law_775 : decode cL_law 775 = .ok (.iload_n 3, 1) := dTa tdL_law_760 11 rfl
theorem dL_law_776 : decode cL_law 776 = .ok (.iconst 1, 1) := dTa tdL_law_760 12 rfl
theorem dL_law_777 : decode cL_law 777 = .ok (.iadd, 1) := dTa tdL_law_760 13 rfl
theorem dL_law_778 : decode cL_law 778 = .ok (.iaload, 1) := dTa tdL_law_760 14 rfl
theorem dL_law_779 : decode cL_law 779 = .ok (.aload_n 0, 1) := dTa tdL_law_760 15 rfl
theorem dL_law_780 : decode cL_law 780 = .ok (.iload_n 3, 1) := dTa tdL_law_760 16 rfl
theorem dL_law_781 : decode cL_law 781 = .ok (.iconst 2, 1) := dTa tdL_law_760 17 rfl
theorem dL_law_782 : decode cL_law 782 = .ok (.iadd, 1) := dTa tdL_law_760 18 rfl
theorem dL_law_783 : decode cL_law 783 = .ok (.iaload, 1) := dTa tdL_law_760 19 rfl
theorem dL_law_784 : decode cL_law 784 = .ok (.aload_n 0, 1) := dTa tdL_law_760 20 rfl
theorem dL_law_785 : decode cL_law 785 = .ok (.iload_n 3, 1) := dTa tdL_law_760 21 rfl
theorem dL_law_786 : decode cL_law 786 = .ok (.iconst 3, 1) := dTa tdL_law_760 22 rfl
theorem dL_law_787 : decode cL_law 787 = .ok (.iadd, 1) := dTa tdL_law_760 23 rfl
theorem dL_law_788 : decode cL_law 788 = .ok (.iaload, 1) := dTa tdL_law_760 24 rfl
theorem dL_law_789 : decode cL_law 789 = .ok (.aload_n 0, 1) := dTa tdL_law_760 25 rfl
theorem dL_law_790 : decode cL_law 790 = .ok (.iload_n 3, 1) := dTa tdL_law_760 26 rfl
theorem dL_law_791 : decode cL_law 791 = .ok (.iconst 4, 1) := dTa tdL_law_760 27 rfl
theorem dL_law_792 : decode cL_law 792 = .ok (.iadd, 1) := dTa tdL_law_760 28 rfl
theorem dL_law_793 : decode cL_law 793 = .ok (.iaload, 1) := dTa tdL_law_760 29 rfl
theorem dL_law_794 : decode cL_law 794 = .ok (.invokevirtual 110, 3) := dTa tdL_law_760 30 rfl
theorem dL_law_797 : decode cL_law 797 = .ok (.pop, 1) := dTa tdL_law_760 31 rfl
theorem dL_law_798 : decode cL_law 798 = .ok (.aload_n 2, 1) := dTa tdL_law_760 32 rfl
theorem dL_law_799 : decode cL_law 799 = .ok (.aload_n 0, 1) := dTa tdL_law_760 33 rfl
theorem dL_law_800 : decode cL_law 800 = .ok (.iload_n 3, 1) := dTa tdL_law_760 34 rfl
theorem dL_law_801 : decode cL_law 801 = .ok (.iconst 1, 1) := dTa tdL_law_760 35 rfl
theorem dL_law_802 : decode cL_law 802 = .ok (.iadd, 1) := dTa tdL_law_760 36 rfl
theorem dL_law_803 : decode cL_law 803 = .ok (.iaload, 1) := dTa tdL_law_760 37 rfl
theorem dL_law_804 : decode cL_law 804 = .ok (.aload_n 0, 1) := dTa tdL_law_760 38 rfl
theorem dL_law_805 : decode cL_law 805 = .ok (.iload_n 3, 1) := dTa tdL_law_760 39 rfl
set_option maxRecDepth 100000 in
theorem tdL_law_806 : dTb cL_law [(806, .iconst 2, 1), (807, .iadd, 1), (808, .iaload, 1), (809, .aload_n 0, 1), (810, .iload_n 3, 1), (811, .iconst 3, 1), (812, .iadd, 1), (813, .iaload, 1), (814, .aload_n 0, 1), (815, .iload_n 3, 1), (816, .iconst 4, 1), (817, .iadd, 1), (818, .iaload, 1), (819, .invokevirtual 114, 3), (822, .pop, 1), (823, .goto 303, 3), (826, .aload_n 1, 1), (827, .aload_n 0, 1), (828, .iload_n 3, 1), (829, .iconst 1, 1), (830, .iadd, 1), (831, .iaload, 1), (832, .invokevirtual 115, 3), (835, .pop, 1), (836, .aload_n 2, 1), (837, .aload_n 0, 1), (838, .iload_n 3, 1), (839, .iconst 1, 1), (840, .iadd, 1), (841, .iaload, 1), (842, .invokevirtual 118, 3), (845, .pop, 1), (846, .goto 280, 3), (849, .aload_n 1, 1), (850, .aload_n 0, 1), (851, .iload_n 3, 1), (852, .iconst 1, 1), (853, .iadd, 1), (854, .iaload, 1), (855, .aload_n 0, 1)] = true := by decide +kernel
theorem dL_law_806 : decode cL_law 806 = .ok (.iconst 2, 1) := dTa tdL_law_806 0 rfl
theorem dL_law_807 : decode cL_law 807 = .ok (.iadd, 1) := dTa tdL_law_806 1 rfl
theorem dL_law_808 : decode cL_law 808 = .ok (.iaload, 1) := dTa tdL_law_806 2 rfl
theorem dL_law_809 : decode cL_law 809 = .ok (.aload_n 0, 1) := dTa tdL_law_806 3 rfl
theorem dL_law_810 : decode cL_law 810 = .ok (.iload_n 3, 1) := dTa tdL_law_806 4 rfl
theorem dL_law_811 : decode cL_law 811 = .ok (.iconst 3, 1) := dTa tdL_law_806 5 rfl
theorem dL_law_812 : decode cL_law 812 = .ok (.iadd, 1) := dTa tdL_law_806 6 rfl
theorem dL_law_813 : decode cL_law 813 = .ok (.iaload, 1) := dTa tdL_law_806 7 rfl
theorem dL_law_814 : decode cL_law 814 = .ok (.aload_n 0, 1) := dTa tdL_law_806 8 rfl
theorem dL_law_815 : decode cL_law 815 = .ok (.iload_n 3, 1) := dTa tdL_law_806 9 rfl
theorem dL_law_816 : decode cL_law 816 = .ok (.iconst 4, 1) := dTa tdL_law_806 10 rfl
theorem dL_law_817 : decode cL_law 817 = .ok (.iadd, 1) := dTa tdL_law_806 11 rfl
theorem dL_law_818 : decode cL_law 818 = .ok (.iaload, 1) := dTa tdL_law_806 12 rfl
theorem dL_law_819 : decode cL_law 819 = .ok (.invokevirtual 114, 3) := dTa tdL_law_806 13 rfl
theorem dL_law_822 : decode cL_law 822 = .ok (.pop, 1) := dTa tdL_law_806 14 rfl
theorem dL_law_823 : decode cL_law 823 = .ok (.goto 303, 3) := dTa tdL_law_806 15 rfl
theorem dL_law_826 : decode cL_law 826 = .ok (.aload_n 1, 1) := dTa tdL_law_806 16 rfl
theorem dL_law_827 : decode cL_law 827 = .ok (.aload_n 0, 1) := dTa tdL_law_806 17 rfl
theorem dL_law_828 : decode cL_law 828 = .ok (.iload_n 3, 1) := dTa tdL_law_806 18 rfl
theorem dL_law_829 : decode cL_law 829 = .ok (.iconst 1, 1) := dTa tdL_law_806 19 rfl
theorem dL_law_830 : decode cL_law 830 = .ok (.iadd, 1) := dTa tdL_law_806 20 rfl
theorem dL_law_831 : decode cL_law 831 = .ok (.iaload, 1) := dTa tdL_law_806 21 rfl
theorem dL_law_832 : decode cL_law 832 = .ok (.invokevirtual 115, 3) := dTa tdL_law_806 22 rfl
theorem dL_law_835 : decode cL_law 835 = .ok (.pop, 1) := dTa tdL_law_806 23 rfl
theorem dL_law_836 : decode cL_law 836 = .ok (.aload_n 2, 1) := dTa tdL_law_806 24 rfl
theorem dL_law_837 : decode cL_law 837 = .ok (.aload_n 0, 1) := dTa tdL_law_806 25 rfl
theorem dL_law_838 : decode cL_law 838 = .ok (.iload_n 3, 1) := dTa tdL_law_806 26 rfl
theorem dL_law_839 : decode cL_law 839 = .ok (.iconst 1, 1) := dTa tdL_law_806 27 rfl
theorem dL_law_840 : decode cL_law 840 = .ok (.iadd, 1) := dTa tdL_law_806 28 rfl
theorem dL_law_841 : decode cL_law 841 = .ok (.iaload, 1) := dTa tdL_law_806 29 rfl
theorem dL_law_842 : decode cL_law 842 = .ok (.invokevirtual 118, 3) := dTa tdL_law_806 30 rfl
theorem dL_law_845 : decode cL_law 845 = .ok (.pop, 1) := dTa tdL_law_806 31 rfl
theorem dL_law_846 : decode cL_law 846 = .ok (.goto 280, 3) := dTa tdL_law_806 32 rfl
theorem dL_law_849 : decode cL_law 849 = .ok (.aload_n 1, 1) := dTa tdL_law_806 33 rfl
theorem dL_law_850 : decode cL_law 850 = .ok (.aload_n 0, 1) := dTa tdL_law_806 34 rfl
theorem dL_law_851 : decode cL_law 851 = .ok (.iload_n 3, 1) := dTa tdL_law_806 35 rfl
theorem dL_law_852 : decode cL_law 852 = .ok (.iconst 1, 1) := dTa tdL_law_806 36 rfl
theorem dL_law_853 : decode cL_law 853 = .ok (.iadd, 1) := dTa tdL_law_806 37 rfl
theorem dL_law_854 : decode cL_law 854 = .ok (.iaload, 1) := dTa tdL_law_806 38 rfl
theorem dL_law_855 : decode cL_law 855 = .ok (.aload_n 0, 1) := dTa tdL_law_806 39 rfl
set_option maxRecDepth 100000 in
theorem tdL_law_856 : dTb cL_law [(856, .iload_n 3, 1), (857, .iconst 2, 1), (858, .iadd, 1), (859, .iaload, 1), (860, .invokevirtual 119, 3), (863, .pop, 1), (864, .aload_n 2, 1), (865, .aload_n 0, 1), (866, .iload_n 3, 1), (867, .iconst 1, 1), (868, .iadd, 1), (869, .iaload, 1), (870, .aload_n 0, 1), (871, .iload_n 3, 1), (872, .iconst 2, 1), (873, .iadd, 1), (874, .iaload, 1), (875, .invokevirtual 122, 3), (878, .pop, 1), (879, .goto 247, 3), (882, .aload_n 1, 1), (883, .aload_n 0, 1), (884, .iload_n 3, 1), (885, .iconst 1, 1), (886, .iadd, 1), (887, .iaload, 1), (888, .aload_n 0, 1), (889, .iload_n 3, 1), (890, .iconst 2, 1), (891, .iadd, 1), (892, .iaload, 1), (893, .aload_n 0, 1), (894, .iload_n 3, 1), (895, .iconst 3, 1), (896, .iadd, 1), (897, .iaload, 1), (898, .invokevirtual 123, 3), (901, .pop, 1), (902, .aload_n 2, 1), (903, .aload_n 0, 1)] = true := by decide +kernel
theorem dL_law_856 : decode cL_law 856 = .ok (.iload_n 3, 1) := dTa tdL_law_856 0 rfl
theorem dL_law_857 : decode cL_law 857 = .ok (.iconst 2, 1) := dTa tdL_law_856 1 rfl
theorem dL_law_858 : decode cL_law 858 = .ok (.iadd, 1) := dTa tdL_law_856 2 rfl
theorem dL_law_859 : decode cL_law 859 = .ok (.iaload, 1) := dTa tdL_law_856 3 rfl
theorem dL_law_860 : decode cL_law 860 = .ok (.invokevirtual 119, 3) := dTa tdL_law_856 4 rfl
theorem dL_law_863 : decode cL_law 863 = .ok (.pop, 1) := dTa tdL_law_856 5 rfl
theorem dL_law_864 : decode cL_law 864 = .ok (.aload_n 2, 1) := dTa tdL_law_856 6 rfl
theorem dL_law_865 : decode cL_law 865 = .ok (.aload_n 0, 1) := dTa tdL_law_856 7 rfl
theorem dL_law_866 : decode cL_law 866 = .ok (.iload_n 3, 1) := dTa tdL_law_856 8 rfl
theorem dL_law_867 : decode cL_law 867 = .ok (.iconst 1, 1) := dTa tdL_law_856 9 rfl
theorem dL_law_868 : decode cL_law 868 = .ok (.iadd, 1) := dTa tdL_law_856 10 rfl
theorem dL_law_869 : decode cL_law 869 = .ok (.iaload, 1) := dTa tdL_law_856 11 rfl
theorem dL_law_870 : decode cL_law 870 = .ok (.aload_n 0, 1) := dTa tdL_law_856 12 rfl
theorem dL_law_871 : decode cL_law 871 = .ok (.iload_n 3, 1) := dTa tdL_law_856 13 rfl
theorem dL_law_872 : decode cL_law 872 = .ok (.iconst 2, 1) := dTa tdL_law_856 14 rfl
theorem dL_law_873 : decode cL_law 873 = .ok (.iadd, 1) := dTa tdL_law_856 15 rfl
theorem dL_law_874 : decode cL_law 874 = .ok (.iaload, 1) := dTa tdL_law_856 16 rfl
theorem dL_law_875 : decode cL_law 875 = .ok (.invokevirtual 122, 3) := dTa tdL_law_856 17 rfl
theorem dL_law_878 : decode cL_law 878 = .ok (.pop, 1) := dTa tdL_law_856 18 rfl
theorem dL_law_879 : decode cL_law 879 = .ok (.goto 247, 3) := dTa tdL_law_856 19 rfl
theorem dL_law_882 : decode cL_law 882 = .ok (.aload_n 1, 1) := dTa tdL_law_856 20 rfl
theorem dL_law_883 : decode cL_law 883 = .ok (.aload_n 0, 1) := dTa tdL_law_856 21 rfl
theorem dL_law_884 : decode cL_law 884 = .ok (.iload_n 3, 1) := dTa tdL_law_856 22 rfl
theorem dL_law_885 : decode cL_law 885 = .ok (.iconst 1, 1) := dTa tdL_law_856 23 rfl
theorem dL_law_886 : decode cL_law 886 = .ok (.iadd, 1) := dTa tdL_law_856 24 rfl
theorem dL_law_887 : decode cL_law 887 = .ok (.iaload, 1) := dTa tdL_law_856 25 rfl
theorem dL_law_888 : decode cL_law 888 = .ok (.aload_n 0, 1) := dTa tdL_law_856 26 rfl
theorem dL_law_889 : decode cL_law 889 = .ok (.iload_n 3, 1) := dTa tdL_law_856 27 rfl
theorem dL_law_890 : decode cL_law 890 = .ok (.iconst 2, 1) := dTa tdL_law_856 28 rfl
theorem dL_law_891 : decode cL_law 891 = .ok (.iadd, 1) := dTa tdL_law_856 29 rfl
theorem dL_law_892 : decode cL_law 892 = .ok (.iaload, 1) := dTa tdL_law_856 30 rfl
theorem dL_law_893 : decode cL_law 893 = .ok (.aload_n 0, 1) := dTa tdL_law_856 31 rfl
theorem dL_law_894 : decode cL_law 894 = .ok (.iload_n 3, 1) := dTa tdL_law_856 32 rfl
theorem dL_law_895 : decode cL_law 895 = .ok (.iconst 3, 1) := dTa tdL_law_856 33 rfl
theorem dL_law_896 : decode cL_law 896 = .ok (.iadd, 1) := dTa tdL_law_856 34 rfl
theorem dL_law_897 : decode cL_law 897 = .ok (.iaload, 1) := dTa tdL_law_856 35 rfl
theorem dL_law_898 : decode cL_law 898 = .ok (.invokevirtual 123, 3) := dTa tdL_law_856 36 rfl
theorem dL_law_901 : decode cL_law 901 = .ok (.pop, 1) := dTa tdL_law_856 37 rfl
theorem dL_law_902 : decode cL_law 902 = .ok (.aload_n 2, 1) := dTa tdL_law_856 38 rfl
theorem dL_law_903 : decode cL_law 903 = .ok (.aload_n 0, 1) := dTa tdL_law_856 39 rfl
set_option maxRecDepth 100000 in
theorem tdL_law_904 : dTb cL_law [(904, .iload_n 3, 1), (905, .iconst 1, 1), (906, .iadd, 1), (907, .iaload, 1), (908, .aload_n 0, 1), (909, .iload_n 3, 1), (910, .iconst 2, 1), (911, .iadd, 1), (912, .iaload, 1), (913, .aload_n 0, 1), (914, .iload_n 3, 1), (915, .iconst 3, 1), (916, .iadd, 1), (917, .iaload, 1), (918, .invokevirtual 126, 3), (921, .pop, 1), (922, .goto 204, 3), (925, .aload_n 1, 1), (926, .aload_n 0, 1), (927, .iload_n 3, 1), (928, .iconst 1, 1), (929, .iadd, 1), (930, .iaload, 1), (931, .invokevirtual 127, 3), (934, .pop, 1), (935, .aload_n 2, 1), (936, .aload_n 0, 1), (937, .iload_n 3, 1), (938, .iconst 1, 1), (939, .iadd, 1), (940, .iaload, 1), (941, .invokevirtual 130, 3), (944, .pop, 1), (945, .goto 181, 3), (948, .aload_n 1, 1), (949, .aload_n 0, 1), (950, .iload_n 3, 1), (951, .iconst 1, 1), (952, .iadd, 1), (953, .iaload, 1)] = true := by decide +kernel
theorem dL_law_904 : decode cL_law 904 = .ok (.iload_n 3, 1) := dTa tdL_law_904 0 rfl
theorem dL_law_905 : decode cL_law 905 = .ok (.iconst 1, 1) := dTa tdL_law_904 1 rfl
theorem dL_law_906 : decode cL_law 906 = .ok (.iadd, 1) := dTa tdL_law_904 2 rfl
theorem dL_law_907 : decode cL_law 907 = .ok (.iaload, 1) := dTa tdL_law_904 3 rfl
theorem dL_law_908 : decode cL_law 908 = .ok (.aload_n 0, 1) := dTa tdL_law_904 4 rfl
theorem dL_law_909 : decode cL_law 909 = .ok (.iload_n 3, 1) := dTa tdL_law_904 5 rfl
theorem dL_law_910 : decode cL_law 910 = .ok (.iconst 2, 1) := dTa tdL_law_904 6 rfl
theorem dL_law_911 : decode cL_law 911 = .ok (.iadd, 1) := dTa tdL_law_904 7 rfl
theorem dL_law_912 : decode cL_law 912 = .ok (.iaload, 1) := dTa tdL_law_904 8 rfl
theorem dL_law_913 : decode cL_law 913 = .ok (.aload_n 0, 1) := dTa tdL_law_904 9 rfl
theorem dL_law_914 : decode cL_law 914 = .ok (.iload_n 3, 1) := dTa tdL_law_904 10 rfl
theorem dL_law_915 : decode cL_law 915 = .ok (.iconst 3, 1) := dTa tdL_law_904 11 rfl
theorem dL_law_916 : decode cL_law 916 = .ok (.iadd, 1) := dTa tdL_law_904 12 rfl
theorem dL_law_917 : decode cL_law 917 = .ok (.iaload, 1) := dTa tdL_law_904 13 rfl
theorem dL_law_918 : decode cL_law 918 = .ok (.invokevirtual 126, 3) := dTa tdL_law_904 14 rfl
theorem dL_law_921 : decode cL_law 921 = .ok (.pop, 1) := dTa tdL_law_904 15 rfl
theorem dL_law_922 : decode cL_law 922 = .ok (.goto 204, 3) := dTa tdL_law_904 16 rfl
theorem dL_law_925 : decode cL_law 925 = .ok (.aload_n 1, 1) := dTa tdL_law_904 17 rfl
theorem dL_law_926 : decode cL_law 926 = .ok (.aload_n 0, 1) := dTa tdL_law_904 18 rfl
theorem dL_law_927 : decode cL_law 927 = .ok (.iload_n 3, 1) := dTa tdL_law_904 19 rfl
theorem dL_law_928 : decode cL_law 928 = .ok (.iconst 1, 1) := dTa tdL_law_904 20 rfl
theorem dL_law_929 : decode cL_law 929 = .ok (.iadd, 1) := dTa tdL_law_904 21 rfl
theorem dL_law_930 : decode cL_law 930 = .ok (.iaload, 1) := dTa tdL_law_904 22 rfl
theorem dL_law_931 : decode cL_law 931 = .ok (.invokevirtual 127, 3) := dTa tdL_law_904 23 rfl
theorem dL_law_934 : decode cL_law 934 = .ok (.pop, 1) := dTa tdL_law_904 24 rfl
theorem dL_law_935 : decode cL_law 935 = .ok (.aload_n 2, 1) := dTa tdL_law_904 25 rfl
theorem dL_law_936 : decode cL_law 936 = .ok (.aload_n 0, 1) := dTa tdL_law_904 26 rfl
theorem dL_law_937 : decode cL_law 937 = .ok (.iload_n 3, 1) := dTa tdL_law_904 27 rfl
theorem dL_law_938 : decode cL_law 938 = .ok (.iconst 1, 1) := dTa tdL_law_904 28 rfl
theorem dL_law_939 : decode cL_law 939 = .ok (.iadd, 1) := dTa tdL_law_904 29 rfl
theorem dL_law_940 : decode cL_law 940 = .ok (.iaload, 1) := dTa tdL_law_904 30 rfl
theorem dL_law_941 : decode cL_law 941 = .ok (.invokevirtual 130, 3) := dTa tdL_law_904 31 rfl
theorem dL_law_944 : decode cL_law 944 = .ok (.pop, 1) := dTa tdL_law_904 32 rfl
theorem dL_law_945 : decode cL_law 945 = .ok (.goto 181, 3) := dTa tdL_law_904 33 rfl
theorem dL_law_948 : decode cL_law 948 = .ok (.aload_n 1, 1) := dTa tdL_law_904 34 rfl
theorem dL_law_949 : decode cL_law 949 = .ok (.aload_n 0, 1) := dTa tdL_law_904 35 rfl
theorem dL_law_950 : decode cL_law 950 = .ok (.iload_n 3, 1) := dTa tdL_law_904 36 rfl
theorem dL_law_951 : decode cL_law 951 = .ok (.iconst 1, 1) := dTa tdL_law_904 37 rfl
theorem dL_law_952 : decode cL_law 952 = .ok (.iadd, 1) := dTa tdL_law_904 38 rfl
theorem dL_law_953 : decode cL_law 953 = .ok (.iaload, 1) := dTa tdL_law_904 39 rfl
set_option maxRecDepth 100000 in
theorem tdL_law_954 : dTb cL_law [(954, .aload_n 0, 1), (955, .iload_n 3, 1), (956, .iconst 2, 1), (957, .iadd, 1), (958, .iaload, 1), (959, .invokevirtual 131, 3), (962, .pop, 1), (963, .aload_n 2, 1), (964, .aload_n 0, 1), (965, .iload_n 3, 1), (966, .iconst 1, 1), (967, .iadd, 1), (968, .iaload, 1), (969, .aload_n 0, 1), (970, .iload_n 3, 1), (971, .iconst 2, 1), (972, .iadd, 1), (973, .iaload, 1), (974, .invokevirtual 134, 3), (977, .pop, 1), (978, .goto 148, 3), (981, .aload_n 1, 1), (982, .aload_n 0, 1), (983, .iload_n 3, 1), (984, .iconst 1, 1), (985, .iadd, 1), (986, .iaload, 1), (987, .invokevirtual 135, 3), (990, .pop, 1), (991, .aload_n 2, 1), (992, .aload_n 0, 1), (993, .iload_n 3, 1), (994, .iconst 1, 1), (995, .iadd, 1), (996, .iaload, 1), (997, .invokevirtual 138, 3), (1000, .pop, 1), (1001, .goto 125, 3), (1004, .aload_n 1, 1), (1005, .aload_n 0, 1)] = true := by decide +kernel
theorem dL_law_954 : decode cL_law 954 = .ok (.aload_n 0, 1) := dTa tdL_law_954 0 rfl
theorem dL_law_955 : decode cL_law 955 = .ok (.iload_n 3, 1) := dTa tdL_law_954 1 rfl
theorem dL_law_956 : decode cL_law 956 = .ok (.iconst 2, 1) := dTa tdL_law_954 2 rfl
theorem dL_law_957 : decode cL_law 957 = .ok (.iadd, 1) := dTa tdL_law_954 3 rfl
theorem dL_law_958 : decode cL_law 958 = .ok (.iaload, 1) := dTa tdL_law_954 4 rfl
theorem dL_law_959 : decode cL_law 959 = .ok (.invokevirtual 131, 3) := dTa tdL_law_954 5 rfl
theorem dL_law_962 : decode cL_law 962 = .ok (.pop, 1) := dTa tdL_law_954 6 rfl
theorem dL_law_963 : decode cL_law 963 = .ok (.aload_n 2, 1) := dTa tdL_law_954 7 rfl
theorem dL_law_964 : decode cL_law 964 = .ok (.aload_n 0, 1) := dTa tdL_law_954 8 rfl
theorem dL_law_965 : decode cL_law 965 = .ok (.iload_n 3, 1) := dTa tdL_law_954 9 rfl
theorem dL_law_966 : decode cL_law 966 = .ok (.iconst 1, 1) := dTa tdL_law_954 10 rfl
theorem dL_law_967 : decode cL_law 967 = .ok (.iadd, 1) := dTa tdL_law_954 11 rfl
theorem dL_law_968 : decode cL_law 968 = .ok (.iaload, 1) := dTa tdL_law_954 12 rfl
theorem dL_law_969 : decode cL_law 969 = .ok (.aload_n 0, 1) := dTa tdL_law_954 13 rfl
theorem dL_law_970 : decode cL_law 970 = .ok (.iload_n 3, 1) := dTa tdL_law_954 14 rfl
theorem dL_law_971 : decode cL_law 971 = .ok (.iconst 2, 1) := dTa tdL_law_954 15 rfl
theorem dL_law_972 : decode cL_law 972 = .ok (.iadd, 1) := dTa tdL_law_954 16 rfl
theorem dL_law_973 : decode cL_law 973 = .ok (.iaload, 1) := dTa tdL_law_954 17 rfl
theorem dL_law_974 : decode cL_law 974 = .ok (.invokevirtual 134, 3) := dTa tdL_law_954 18 rfl
theorem dL_law_977 : decode cL_law 977 = .ok (.pop, 1) := dTa tdL_law_954 19 rfl
theorem dL_law_978 : decode cL_law 978 = .ok (.goto 148, 3) := dTa tdL_law_954 20 rfl
theorem dL_law_981 : decode cL_law 981 = .ok (.aload_n 1, 1) := dTa tdL_law_954 21 rfl
theorem dL_law_982 : decode cL_law 982 = .ok (.aload_n 0, 1) := dTa tdL_law_954 22 rfl
theorem dL_law_983 : decode cL_law 983 = .ok (.iload_n 3, 1) := dTa tdL_law_954 23 rfl
theorem dL_law_984 : decode cL_law 984 = .ok (.iconst 1, 1) := dTa tdL_law_954 24 rfl
theorem dL_law_985 : decode cL_law 985 = .ok (.iadd, 1) := dTa tdL_law_954 25 rfl
theorem dL_law_986 : decode cL_law 986 = .ok (.iaload, 1) := dTa tdL_law_954 26 rfl
theorem dL_law_987 : decode cL_law 987 = .ok (.invokevirtual 135, 3) := dTa tdL_law_954 27 rfl
theorem dL_law_990 : decode cL_law 990 = .ok (.pop, 1) := dTa tdL_law_954 28 rfl
theorem dL_law_991 : decode cL_law 991 = .ok (.aload_n 2, 1) := dTa tdL_law_954 29 rfl
theorem dL_law_992 : decode cL_law 992 = .ok (.aload_n 0, 1) := dTa tdL_law_954 30 rfl
theorem dL_law_993 : decode cL_law 993 = .ok (.iload_n 3, 1) := dTa tdL_law_954 31 rfl
theorem dL_law_994 : decode cL_law 994 = .ok (.iconst 1, 1) := dTa tdL_law_954 32 rfl
theorem dL_law_995 : decode cL_law 995 = .ok (.iadd, 1) := dTa tdL_law_954 33 rfl
theorem dL_law_996 : decode cL_law 996 = .ok (.iaload, 1) := dTa tdL_law_954 34 rfl
theorem dL_law_997 : decode cL_law 997 = .ok (.invokevirtual 138, 3) := dTa tdL_law_954 35 rfl
theorem dL_law_1000 : decode cL_law 1000 = .ok (.pop, 1) := dTa tdL_law_954 36 rfl
theorem dL_law_1001 : decode cL_law 1001 = .ok (.goto 125, 3) := dTa tdL_law_954 37 rfl
theorem dL_law_1004 : decode cL_law 1004 = .ok (.aload_n 1, 1) := dTa tdL_law_954 38 rfl
theorem dL_law_1005 : decode cL_law 1005 = .ok (.aload_n 0, 1) := dTa tdL_law_954 39 rfl
set_option maxRecDepth 100000 in
theorem tdL_law_1006 : dTb cL_law [(1006, .iload_n 3, 1), (1007, .iconst 1, 1), (1008, .iadd, 1), (1009, .iaload, 1), (1010, .aload_n 0, 1), (1011, .iload_n 3, 1), (1012, .iconst 2, 1), (1013, .iadd, 1), (1014, .iaload, 1), (1015, .aload_n 0, 1), (1016, .iload_n 3, 1), (1017, .iconst 3, 1), (1018, .iadd, 1), (1019, .iaload, 1), (1020, .aload_n 0, 1), (1021, .iload_n 3, 1), (1022, .iconst 4, 1), (1023, .iadd, 1), (1024, .iaload, 1), (1025, .invokevirtual 139, 3), (1028, .pop, 1), (1029, .aload_n 2, 1), (1030, .aload_n 0, 1), (1031, .iload_n 3, 1), (1032, .iconst 1, 1), (1033, .iadd, 1), (1034, .iaload, 1), (1035, .aload_n 0, 1), (1036, .iload_n 3, 1), (1037, .iconst 2, 1), (1038, .iadd, 1), (1039, .iaload, 1), (1040, .aload_n 0, 1), (1041, .iload_n 3, 1), (1042, .iconst 3, 1), (1043, .iadd, 1), (1044, .iaload, 1), (1045, .aload_n 0, 1), (1046, .iload_n 3, 1), (1047, .iconst 4, 1)] = true := by decide +kernel
theorem dL_law_1006 : decode cL_law 1006 = .ok (.iload_n 3, 1) := dTa tdL_law_1006 0 rfl
theorem dL_law_1007 : decode cL_law 1007 = .ok (.iconst 1, 1) := dTa tdL_law_1006 1 rfl
theorem dL_law_1008 : decode cL_law 1008 = .ok (.iadd, 1) := dTa tdL_law_1006 2 rfl
theorem dL_law_1009 : decode cL_law 1009 = .ok (.iaload, 1) := dTa tdL_law_1006 3 rfl
theorem dL_law_1010 : decode cL_law 1010 = .ok (.aload_n 0, 1) := dTa tdL_law_1006 4 rfl
theorem dL_law_1011 : decode cL_law 1011 = .ok (.iload_n 3, 1) := dTa tdL_law_1006 5 rfl
theorem dL_law_1012 : decode cL_law 1012 = .ok (.iconst 2, 1) := dTa tdL_law_1006 6 rfl
theorem dL_law_1013 : decode cL_law 1013 = .ok (.iadd, 1) := dTa tdL_law_1006 7 rfl
theorem dL_law_1014 : decode cL_law 1014 = .ok (.iaload, 1) := dTa tdL_law_1006 8 rfl
theorem dL_law_1015 : decode cL_law 1015 = .ok (.aload_n 0, 1) := dTa tdL_law_1006 9 rfl
theorem dL_law_1016 : decode cL_law 1016 = .ok (.iload_n 3, 1) := dTa tdL_law_1006 10 rfl
theorem dL_law_1017 : decode cL_law 1017 = .ok (.iconst 3, 1) := dTa tdL_law_1006 11 rfl
theorem dL_law_1018 : decode cL_law 1018 = .ok (.iadd, 1) := dTa tdL_law_1006 12 rfl
theorem dL_law_1019 : decode cL_law 1019 = .ok (.iaload, 1) := dTa tdL_law_1006 13 rfl
theorem dL_law_1020 : decode cL_law 1020 = .ok (.aload_n 0, 1) := dTa tdL_law_1006 14 rfl
theorem dL_law_1021 : decode cL_law 1021 = .ok (.iload_n 3, 1) := dTa tdL_law_1006 15 rfl
theorem dL_law_1022 : decode cL_law 1022 = .ok (.iconst 4, 1) := dTa tdL_law_1006 16 rfl
theorem dL_law_1023 : decode cL_law 1023 = .ok (.iadd, 1) := dTa tdL_law_1006 17 rfl
theorem dL_law_1024 : decode cL_law 1024 = .ok (.iaload, 1) := dTa tdL_law_1006 18 rfl
theorem dL_law_1025 : decode cL_law 1025 = .ok (.invokevirtual 139, 3) := dTa tdL_law_1006 19 rfl
theorem dL_law_1028 : decode cL_law 1028 = .ok (.pop, 1) := dTa tdL_law_1006 20 rfl
theorem dL_law_1029 : decode cL_law 1029 = .ok (.aload_n 2, 1) := dTa tdL_law_1006 21 rfl
theorem dL_law_1030 : decode cL_law 1030 = .ok (.aload_n 0, 1) := dTa tdL_law_1006 22 rfl
theorem dL_law_1031 : decode cL_law 1031 = .ok (.iload_n 3, 1) := dTa tdL_law_1006 23 rfl
theorem dL_law_1032 : decode cL_law 1032 = .ok (.iconst 1, 1) := dTa tdL_law_1006 24 rfl
theorem dL_law_1033 : decode cL_law 1033 = .ok (.iadd, 1) := dTa tdL_law_1006 25 rfl
theorem dL_law_1034 : decode cL_law 1034 = .ok (.iaload, 1) := dTa tdL_law_1006 26 rfl
theorem dL_law_1035 : decode cL_law 1035 = .ok (.aload_n 0, 1) := dTa tdL_law_1006 27 rfl
theorem dL_law_1036 : decode cL_law 1036 = .ok (.iload_n 3, 1) := dTa tdL_law_1006 28 rfl
theorem dL_law_1037 : decode cL_law 1037 = .ok (.iconst 2, 1) := dTa tdL_law_1006 29 rfl
theorem dL_law_1038 : decode cL_law 1038 = .ok (.iadd, 1) := dTa tdL_law_1006 30 rfl
theorem dL_law_1039 : decode cL_law 1039 = .ok (.iaload, 1) := dTa tdL_law_1006 31 rfl
theorem dL_law_1040 : decode cL_law 1040 = .ok (.aload_n 0, 1) := dTa tdL_law_1006 32 rfl
theorem dL_law_1041 : decode cL_law 1041 = .ok (.iload_n 3, 1) := dTa tdL_law_1006 33 rfl
theorem dL_law_1042 : decode cL_law 1042 = .ok (.iconst 3, 1) := dTa tdL_law_1006 34 rfl
theorem dL_law_1043 : decode cL_law 1043 = .ok (.iadd, 1) := dTa tdL_law_1006 35 rfl
theorem dL_law_1044 : decode cL_law 1044 = .ok (.iaload, 1) := dTa tdL_law_1006 36 rfl
theorem dL_law_1045 : decode cL_law 1045 = .ok (.aload_n 0, 1) := dTa tdL_law_1006 37 rfl
theorem dL_law_1046 : decode cL_law 1046 = .ok (.iload_n 3, 1) := dTa tdL_law_1006 38 rfl
theorem dL_law_1047 : decode cL_law 1047 = .ok (.iconst 4, 1) := dTa tdL_law_1006 39 rfl
set_option maxRecDepth 100000 in
theorem tdL_law_1048 : dTb cL_law [(1048, .iadd, 1), (1049, .iaload, 1), (1050, .invokevirtual 142, 3), (1053, .pop, 1), (1054, .goto 72, 3), (1057, .aload_n 1, 1), (1058, .aload_n 0, 1), (1059, .iload_n 3, 1), (1060, .iconst 1, 1), (1061, .iadd, 1), (1062, .iaload, 1), (1063, .invokevirtual 143, 3), (1066, .pop, 1), (1067, .aload_n 2, 1), (1068, .aload_n 0, 1), (1069, .iload_n 3, 1), (1070, .iconst 1, 1), (1071, .iadd, 1), (1072, .iaload, 1), (1073, .invokevirtual 146, 3), (1076, .pop, 1), (1077, .goto 49, 3), (1080, .aload_n 1, 1), (1081, .aload_n 0, 1), (1082, .iload_n 3, 1), (1083, .iconst 1, 1), (1084, .iadd, 1), (1085, .iaload, 1), (1086, .invokevirtual 147, 3), (1089, .pop, 1), (1090, .aload_n 2, 1), (1091, .aload_n 0, 1), (1092, .iload_n 3, 1), (1093, .iconst 1, 1), (1094, .iadd, 1), (1095, .iaload, 1), (1096, .invokevirtual 150, 3), (1099, .pop, 1), (1100, .goto 26, 3), (1103, .aload_n 1, 1)] = true := by decide +kernel
theorem dL_law_1048 : decode cL_law 1048 = .ok (.iadd, 1) := dTa tdL_law_1048 0 rfl
theorem dL_law_1049 : decode cL_law 1049 = .ok (.iaload, 1) := dTa tdL_law_1048 1 rfl
theorem dL_law_1050 : decode cL_law 1050 = .ok (.invokevirtual 142, 3) := dTa tdL_law_1048 2 rfl
theorem dL_law_1053 : decode cL_law 1053 = .ok (.pop, 1) := dTa tdL_law_1048 3 rfl
theorem dL_law_1054 : decode cL_law 1054 = .ok (.goto 72, 3) := dTa tdL_law_1048 4 rfl
theorem dL_law_1057 : decode cL_law 1057 = .ok (.aload_n 1, 1) := dTa tdL_law_1048 5 rfl
theorem dL_law_1058 : decode cL_law 1058 = .ok (.aload_n 0, 1) := dTa tdL_law_1048 6 rfl
theorem dL_law_1059 : decode cL_law 1059 = .ok (.iload_n 3, 1) := dTa tdL_law_1048 7 rfl
theorem dL_law_1060 : decode cL_law 1060 = .ok (.iconst 1, 1) := dTa tdL_law_1048 8 rfl
theorem dL_law_1061 : decode cL_law 1061 = .ok (.iadd, 1) := dTa tdL_law_1048 9 rfl
theorem dL_law_1062 : decode cL_law 1062 = .ok (.iaload, 1) := dTa tdL_law_1048 10 rfl
theorem dL_law_1063 : decode cL_law 1063 = .ok (.invokevirtual 143, 3) := dTa tdL_law_1048 11 rfl
theorem dL_law_1066 : decode cL_law 1066 = .ok (.pop, 1) := dTa tdL_law_1048 12 rfl
theorem dL_law_1067 : decode cL_law 1067 = .ok (.aload_n 2, 1) := dTa tdL_law_1048 13 rfl
theorem dL_law_1068 : decode cL_law 1068 = .ok (.aload_n 0, 1) := dTa tdL_law_1048 14 rfl
theorem dL_law_1069 : decode cL_law 1069 = .ok (.iload_n 3, 1) := dTa tdL_law_1048 15 rfl
theorem dL_law_1070 : decode cL_law 1070 = .ok (.iconst 1, 1) := dTa tdL_law_1048 16 rfl
theorem dL_law_1071 : decode cL_law 1071 = .ok (.iadd, 1) := dTa tdL_law_1048 17 rfl
theorem dL_law_1072 : decode cL_law 1072 = .ok (.iaload, 1) := dTa tdL_law_1048 18 rfl
theorem dL_law_1073 : decode cL_law 1073 = .ok (.invokevirtual 146, 3) := dTa tdL_law_1048 19 rfl
theorem dL_law_1076 : decode cL_law 1076 = .ok (.pop, 1) := dTa tdL_law_1048 20 rfl
theorem dL_law_1077 : decode cL_law 1077 = .ok (.goto 49, 3) := dTa tdL_law_1048 21 rfl
theorem dL_law_1080 : decode cL_law 1080 = .ok (.aload_n 1, 1) := dTa tdL_law_1048 22 rfl
theorem dL_law_1081 : decode cL_law 1081 = .ok (.aload_n 0, 1) := dTa tdL_law_1048 23 rfl
theorem dL_law_1082 : decode cL_law 1082 = .ok (.iload_n 3, 1) := dTa tdL_law_1048 24 rfl
theorem dL_law_1083 : decode cL_law 1083 = .ok (.iconst 1, 1) := dTa tdL_law_1048 25 rfl
theorem dL_law_1084 : decode cL_law 1084 = .ok (.iadd, 1) := dTa tdL_law_1048 26 rfl
theorem dL_law_1085 : decode cL_law 1085 = .ok (.iaload, 1) := dTa tdL_law_1048 27 rfl
theorem dL_law_1086 : decode cL_law 1086 = .ok (.invokevirtual 147, 3) := dTa tdL_law_1048 28 rfl
theorem dL_law_1089 : decode cL_law 1089 = .ok (.pop, 1) := dTa tdL_law_1048 29 rfl
theorem dL_law_1090 : decode cL_law 1090 = .ok (.aload_n 2, 1) := dTa tdL_law_1048 30 rfl
theorem dL_law_1091 : decode cL_law 1091 = .ok (.aload_n 0, 1) := dTa tdL_law_1048 31 rfl
theorem dL_law_1092 : decode cL_law 1092 = .ok (.iload_n 3, 1) := dTa tdL_law_1048 32 rfl
theorem dL_law_1093 : decode cL_law 1093 = .ok (.iconst 1, 1) := dTa tdL_law_1048 33 rfl
theorem dL_law_1094 : decode cL_law 1094 = .ok (.iadd, 1) := dTa tdL_law_1048 34 rfl
theorem dL_law_1095 : decode cL_law 1095 = .ok (.iaload, 1) := dTa tdL_law_1048 35 rfl
theorem dL_law_1096 : decode cL_law 1096 = .ok (.invokevirtual 150, 3) := dTa tdL_law_1048 36 rfl
theorem dL_law_1099 : decode cL_law 1099 = .ok (.pop, 1) := dTa tdL_law_1048 37 rfl
theorem dL_law_1100 : decode cL_law 1100 = .ok (.goto 26, 3) := dTa tdL_law_1048 38 rfl
theorem dL_law_1103 : decode cL_law 1103 = .ok (.aload_n 1, 1) := dTa tdL_law_1048 39 rfl
set_option maxRecDepth 100000 in
theorem tdL_law_1104 : dTb cL_law [(1104, .aload_n 0, 1), (1105, .iload_n 3, 1), (1106, .iconst 1, 1), (1107, .iadd, 1), (1108, .iaload, 1), (1109, .invokevirtual 151, 3), (1112, .pop, 1), (1113, .aload_n 2, 1), (1114, .aload_n 0, 1), (1115, .iload_n 3, 1), (1116, .iconst 1, 1), (1117, .iadd, 1), (1118, .iaload, 1), (1119, .invokevirtual 154, 3), (1122, .pop, 1), (1123, .goto 3, 3)] = true := by decide +kernel
theorem dL_law_1104 : decode cL_law 1104 = .ok (.aload_n 0, 1) := dTa tdL_law_1104 0 rfl
theorem dL_law_1105 : decode cL_law 1105 = .ok (.iload_n 3, 1) := dTa tdL_law_1104 1 rfl
theorem dL_law_1106 : decode cL_law 1106 = .ok (.iconst 1, 1) := dTa tdL_law_1104 2 rfl
theorem dL_law_1107 : decode cL_law 1107 = .ok (.iadd, 1) := dTa tdL_law_1104 3 rfl
theorem dL_law_1108 : decode cL_law 1108 = .ok (.iaload, 1) := dTa tdL_law_1104 4 rfl
theorem dL_law_1109 : decode cL_law 1109 = .ok (.invokevirtual 151, 3) := dTa tdL_law_1104 5 rfl
theorem dL_law_1112 : decode cL_law 1112 = .ok (.pop, 1) := dTa tdL_law_1104 6 rfl
theorem dL_law_1113 : decode cL_law 1113 = .ok (.aload_n 2, 1) := dTa tdL_law_1104 7 rfl
theorem dL_law_1114 : decode cL_law 1114 = .ok (.aload_n 0, 1) := dTa tdL_law_1104 8 rfl
theorem dL_law_1115 : decode cL_law 1115 = .ok (.iload_n 3, 1) := dTa tdL_law_1104 9 rfl
theorem dL_law_1116 : decode cL_law 1116 = .ok (.iconst 1, 1) := dTa tdL_law_1104 10 rfl
theorem dL_law_1117 : decode cL_law 1117 = .ok (.iadd, 1) := dTa tdL_law_1104 11 rfl
theorem dL_law_1118 : decode cL_law 1118 = .ok (.iaload, 1) := dTa tdL_law_1104 12 rfl
theorem dL_law_1119 : decode cL_law 1119 = .ok (.invokevirtual 154, 3) := dTa tdL_law_1104 13 rfl
theorem dL_law_1122 : decode cL_law 1122 = .ok (.pop, 1) := dTa tdL_law_1104 14 rfl
theorem dL_law_1123 : decode cL_law 1123 = .ok (.goto 3, 3) := dTa tdL_law_1104 15 rfl
