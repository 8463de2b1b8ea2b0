/-! Room: what never breaks -/
section HC2
variable {p : Program} {l : Launch} {e : Env} {R : Room} {s : State} {m : MethodId} {args : Array Value} {below : List Frame} {meth : Method} {c : Code} {H : Heap} {locs : List Loc} {cells slots : Nat} {Q : State → Prop} {pc : Nat} {ls : Array Slot} {rest st0 As : List Value} {D : va_G} {k : Nat → ClassId} {A : Nat → Prop} {ws wc wr : va_W} {cc : ByteArray} {y : MethodName} {wd wd' Ts : List Cond} {rm : Room} {mc ms n index maxL nL : Nat} {bytes : ByteArray} {ret : Option FieldType} {own C host : String} {b : Nat}
theorem hc_Sv {S : Type} {post : S → Prop} {wp : S → va_W} (hx : p.tables.exec = Jvm.exec) (hb : c.code = cc) (hml : c.maxLocals = nL) (hown : s.vm.findClass own = some m.cls) (hts : ∀ w ∈ Ts, w.before args s = true) (hG : GK D k s) (hA : ∀ q : Nat, s.heap.size ≤ q → A q) (hP : va_P D vwCl ws H) (hD : va_D A ws) (hS : va_S A s.heap H locs) (hsz : ls.size = nL)
    (isC isR : List Nat) (hM : CtV l y wd rm As D k H.size wc post wp mc ms) (hg : GoodIn Ts (va_wsS own index y wd)) (hw : wd = Cond.code y bytes maxL ret :: wd') (hrc : rm.cells = mc ∧ rm.slots = ms ∧ rm.frames + 1 ≤ R.frames ∧ 8 + (maxL + 11) + rm.locals ≤ R.locals) (hd : hcD y n)
    (hC : isC.map (fun i => ws[i]?) = wc.map some) (hR : isR.map (fun i => ws[i]?) = wr.map some) (hn : va_nd isC = true ∧ va_nd isR = true ∧ ∀ i ∈ isR, i ∉ isC) (hst : As.length = n ∧ st0 = As.reverse ++ rest ∧ (rest.map fun v => v.category).sum ≤ 8 ∧ cells + mc ≤ R.cells ∧ slots + ms ≤ R.slots) (hdg : decode cc pc = .ok (.invokestatic index, 3))
    (kk : ∀ (u : S) (H : Heap) (locs : List Loc), post u → va_P D vwCl (wr ++ wp u) H → va_D A (wr ++ wp u) → va_S A s.heap H locs → W p l e R s m args below meth c H locs (cells + mc) (slots + ms) Q (F0 m (pc + 3) ls rest)) : W p l e R s m args below meth c H locs cells slots Q (F0 m pc ls st0) :=
  hc_v (va_runS (As := As) (rest := rest) ⟨hx, hb, hml, hown, hts⟩ hM (va_cwS n hts hg hw hrc.1 hrc.2.1 hd hrc.2.2) (hc_pS hG hP hD isC hC hn.1) rfl hst.1 hsz hst.2.1 (lv_room hst.2.2.1) hdg hst.2.2.2) hA hP hD hS isC isR hC hR hn.2.1 hn.2.2 kk
end HC2
/-! intervals: copies, rests -/
theorem row_cpy {lo hi : Int} {f g : Nat → Int32} {a b n : Nat} (hf : rowIn lo hi f) (hg : rowIn lo hi g) : rowIn lo hi (va_cpy f g a b n) := by
  intro j
  by_cases h : b ≤ j ∧ j < b + n
  · rw [pk_cpy_in h.1 h.2]; exact hf _
  · rw [pk_cpy_out (by omega)]; exact hg _

theorem dJ7_fill_53178_0 : decode cJ7_fill_53178 0 = .ok (.iconst 0, 1) := by decide +kernel
theorem dJ7_fill_53178_1 : decode cJ7_fill_53178 1 = .ok (.istore_n 2, 1) := by decide +kernel
theorem dJ7_fill_53178_2 : decode cJ7_fill_53178 2 = .ok (.aload_n 0, 1) := by decide +kernel
theorem dJ7_fill_53178_3 : decode cJ7_fill_53178 3 = .ok (.arraylength, 1) := by decide +kernel
theorem dJ7_fill_53178_4 : decode cJ7_fill_53178 4 = .ok (.istore_n 3, 1) := by decide +kernel
theorem dJ7_fill_53178_5 : decode cJ7_fill_53178 5 = .ok (.iload_n 2, 1) := by decide +kernel
theorem dJ7_fill_53178_6 : decode cJ7_fill_53178 6 = .ok (.iload_n 3, 1) := by decide +kernel
theorem dJ7_fill_53178_7 : decode cJ7_fill_53178 7 = .ok (.if_icmp .ge 13, 3) := by decide +kernel
theorem dJ7_fill_53178_10 : decode cJ7_fill_53178 10 = .ok (.aload_n 0, 1) := by decide +kernel
theorem dJ7_fill_53178_11 : decode cJ7_fill_53178 11 = .ok (.iload_n 2, 1) := by decide +kernel
theorem dJ7_fill_53178_12 : decode cJ7_fill_53178 12 = .ok (.iload_n 1, 1) := by decide +kernel
theorem dJ7_fill_53178_13 : decode cJ7_fill_53178 13 = .ok (.iastore, 1) := by decide +kernel
theorem dJ7_fill_53178_14 : decode cJ7_fill_53178 14 = .ok (.iinc 2 1, 3) := by decide +kernel
theorem dJ7_fill_53178_17 : decode cJ7_fill_53178 17 = .ok (.goto (-12), 3) := by decide +kernel
theorem dJ7_fill_53178_20 : decode cJ7_fill_53178 20 = .ok (.return_, 1) := by decide +kernel
theorem dX3_bears_0 : decode cX3_bears 0 = .ok (.aload_n 0, 1) := by decide +kernel
theorem dX3_bears_1 : decode cX3_bears 1 = .ok (.iload_n 1, 1) := by decide +kernel
theorem dX3_bears_2 : decode cX3_bears 2 = .ok (.putfield 44, 3) := by decide +kernel
theorem dX3_bears_5 : decode cX3_bears 5 = .ok (.aload_n 0, 1) := by decide +kernel
theorem dX3_bears_6 : decode cX3_bears 6 = .ok (.invokevirtual 71, 3) := by decide +kernel
theorem dX3_bears_9 : decode cX3_bears 9 = .ok (.aload_n 0, 1) := by decide +kernel
theorem dX3_bears_10 : decode cX3_bears 10 = .ok (.invokevirtual 94, 3) := by decide +kernel
theorem dX3_bears_13 : decode cX3_bears 13 = .ok (.ifCond .ne 7, 3) := by decide +kernel
theorem dX3_bears_16 : decode cX3_bears 16 = .ok (.iconst 1, 1) := by decide +kernel
theorem dX3_bears_17 : decode cX3_bears 17 = .ok (.goto 4, 3) := by decide +kernel
theorem dX3_bears_20 : decode cX3_bears 20 = .ok (.iconst 0, 1) := by decide +kernel
theorem dX3_bears_21 : decode cX3_bears 21 = .ok (.ireturn, 1) := by decide +kernel
theorem dX3_clear_0 : decode cX3_clear 0 = .ok (.aload_n 0, 1) := by decide +kernel
theorem dX3_clear_1 : decode cX3_clear 1 = .ok (.iconst 0, 1) := by decide +kernel
theorem dX3_clear_2 : decode cX3_clear 2 = .ok (.putfield 9, 3) := by decide +kernel
theorem dX3_clear_5 : decode cX3_clear 5 = .ok (.aload_n 0, 1) := by decide +kernel
theorem dX3_clear_6 : decode cX3_clear 6 = .ok (.iconst 0, 1) := by decide +kernel
theorem dX3_clear_7 : decode cX3_clear 7 = .ok (.putfield 15, 3) := by decide +kernel
theorem dX3_clear_10 : decode cX3_clear 10 = .ok (.aload_n 0, 1) := by decide +kernel
theorem dX3_clear_11 : decode cX3_clear 11 = .ok (.iconst 0, 1) := by decide +kernel
theorem dX3_clear_12 : decode cX3_clear 12 = .ok (.putfield 19, 3) := by decide +kernel
theorem dX3_clear_15 : decode cX3_clear 15 = .ok (.aload_n 0, 1) := by decide +kernel
theorem dX3_clear_16 : decode cX3_clear 16 = .ok (.iconst 0, 1) := by decide +kernel
theorem dX3_clear_17 : decode cX3_clear 17 = .ok (.putfield 22, 3) := by decide +kernel
theorem dX3_clear_20 : decode cX3_clear 20 = .ok (.return_, 1) := by decide +kernel
theorem dX3_givenOut_0 : decode cX3_givenOut 0 = .ok (.iconst 0, 1) := by decide +kernel
theorem dX3_givenOut_1 : decode cX3_givenOut 1 = .ok (.istore_n 1, 1) := by decide +kernel
theorem dX3_givenOut_2 : decode cX3_givenOut 2 = .ok (.iconst 0, 1) := by decide +kernel
theorem dX3_givenOut_3 : decode cX3_givenOut 3 = .ok (.istore_n 2, 1) := by decide +kernel
theorem dX3_givenOut_4 : decode cX3_givenOut 4 = .ok (.iload_n 2, 1) := by decide +kernel
theorem dX3_givenOut_5 : decode cX3_givenOut 5 = .ok (.aload_n 0, 1) := by decide +kernel
theorem dX3_givenOut_6 : decode cX3_givenOut 6 = .ok (.getfield 22, 3) := by decide +kernel
theorem dX3_givenOut_9 : decode cX3_givenOut 9 = .ok (.if_icmp .ge 34, 3) := by decide +kernel
theorem dX3_givenOut_12 : decode cX3_givenOut 12 = .ok (.aload_n 0, 1) := by decide +kernel
theorem dX3_givenOut_13 : decode cX3_givenOut 13 = .ok (.iload_n 2, 1) := by decide +kernel
theorem dX3_givenOut_14 : decode cX3_givenOut 14 = .ok (.invokevirtual 78, 3) := by decide +kernel
theorem dX3_givenOut_17 : decode cX3_givenOut 17 = .ok (.aload_n 0, 1) := by decide +kernel
theorem dX3_givenOut_18 : decode cX3_givenOut 18 = .ok (.getfield 29, 3) := by decide +kernel
theorem dX3_givenOut_21 : decode cX3_givenOut 21 = .ok (.aload_n 0, 1) := by decide +kernel
theorem dX3_givenOut_22 : decode cX3_givenOut 22 = .ok (.getfield 35, 3) := by decide +kernel
theorem dX3_givenOut_25 : decode cX3_givenOut 25 = .ok (.iload_n 2, 1) := by decide +kernel
theorem dX3_givenOut_26 : decode cX3_givenOut 26 = .ok (.iaload, 1) := by decide +kernel
theorem dX3_givenOut_27 : decode cX3_givenOut 27 = .ok (.iaload, 1) := by decide +kernel
theorem dX3_givenOut_28 : decode cX3_givenOut 28 = .ok (.if_icmp .lt 9, 3) := by decide +kernel
theorem dX3_givenOut_31 : decode cX3_givenOut 31 = .ok (.iload_n 1, 1) := by decide +kernel
theorem dX3_givenOut_32 : decode cX3_givenOut 32 = .ok (.iconst 1, 1) := by decide +kernel
theorem dX3_givenOut_33 : decode cX3_givenOut 33 = .ok (.iload_n 2, 1) := by decide +kernel
theorem dX3_givenOut_34 : decode cX3_givenOut 34 = .ok (.ishl, 1) := by decide +kernel
theorem dX3_givenOut_35 : decode cX3_givenOut 35 = .ok (.ior, 1) := by decide +kernel
theorem dX3_givenOut_36 : decode cX3_givenOut 36 = .ok (.istore_n 1, 1) := by decide +kernel
theorem dX3_givenOut_37 : decode cX3_givenOut 37 = .ok (.iinc 2 1, 3) := by decide +kernel
theorem dX3_givenOut_40 : decode cX3_givenOut 40 = .ok (.goto (-36), 3) := by decide +kernel
theorem dX3_givenOut_43 : decode cX3_givenOut 43 = .ok (.iload_n 1, 1) := by decide +kernel
theorem dX3_givenOut_44 : decode cX3_givenOut 44 = .ok (.ireturn, 1) := by decide +kernel
theorem dX3_givesInAll_0 : decode cX3_givesInAll 0 = .ok (.iconst 0, 1) := by decide +kernel
theorem dX3_givesInAll_1 : decode cX3_givesInAll 1 = .ok (.istore_n 1, 1) := by decide +kernel
theorem dX3_givesInAll_2 : decode cX3_givesInAll 2 = .ok (.iconst 0, 1) := by decide +kernel
theorem dX3_givesInAll_3 : decode cX3_givesInAll 3 = .ok (.istore_n 2, 1) := by decide +kernel
theorem dX3_givesInAll_4 : decode cX3_givesInAll 4 = .ok (.iload_n 2, 1) := by decide +kernel
theorem dX3_givesInAll_5 : decode cX3_givesInAll 5 = .ok (.aload_n 0, 1) := by decide +kernel
theorem dX3_givesInAll_6 : decode cX3_givesInAll 6 = .ok (.getfield 22, 3) := by decide +kernel
theorem dX3_givesInAll_9 : decode cX3_givesInAll 9 = .ok (.if_icmp .ge 17, 3) := by decide +kernel
theorem dX3_givesInAll_12 : decode cX3_givesInAll 12 = .ok (.iload_n 1, 1) := by decide +kernel
theorem dX3_givesInAll_13 : decode cX3_givesInAll 13 = .ok (.aload_n 0, 1) := by decide +kernel
theorem dX3_givesInAll_14 : decode cX3_givesInAll 14 = .ok (.iload_n 2, 1) := by decide +kernel
theorem dX3_givesInAll_15 : decode cX3_givesInAll 15 = .ok (.invokevirtual 78, 3) := by decide +kernel
theorem dX3_givesInAll_18 : decode cX3_givesInAll 18 = .ok (.iadd, 1) := by decide +kernel
theorem dX3_givesInAll_19 : decode cX3_givesInAll 19 = .ok (.istore_n 1, 1) := by decide +kernel
theorem dX3_givesInAll_20 : decode cX3_givesInAll 20 = .ok (.iinc 2 1, 3) := by decide +kernel
theorem dX3_givesInAll_23 : decode cX3_givesInAll 23 = .ok (.goto (-19), 3) := by decide +kernel
theorem dX3_givesInAll_26 : decode cX3_givesInAll 26 = .ok (.iload_n 1, 1) := by decide +kernel
theorem dX3_givesInAll_27 : decode cX3_givesInAll 27 = .ok (.ireturn, 1) := by decide +kernel
theorem dX3_givesUnder_0 : decode cX3_givesUnder 0 = .ok (.iload_n 1, 1) := by decide +kernel
theorem dX3_givesUnder_1 : decode cX3_givesUnder 1 = .ok (.ifCond .lt 22, 3) := by decide +kernel
theorem dX3_givesUnder_4 : decode cX3_givesUnder 4 = .ok (.iload_n 1, 1) := by decide +kernel
theorem dX3_givesUnder_5 : decode cX3_givesUnder 5 = .ok (.aload_n 0, 1) := by decide +kernel
theorem dX3_givesUnder_6 : decode cX3_givesUnder 6 = .ok (.getfield 22, 3) := by decide +kernel
theorem dX3_givesUnder_9 : decode cX3_givesUnder 9 = .ok (.if_icmp .ge 14, 3) := by decide +kernel
theorem dX3_givesUnder_12 : decode cX3_givesUnder 12 = .ok (.aload_n 0, 1) := by decide +kernel
theorem dX3_givesUnder_13 : decode cX3_givesUnder 13 = .ok (.getfield 44, 3) := by decide +kernel
theorem dX3_givesUnder_16 : decode cX3_givesUnder 16 = .ok (.iload_n 1, 1) := by decide +kernel
theorem dX3_givesUnder_17 : decode cX3_givesUnder 17 = .ok (.ishr, 1) := by decide +kernel
theorem dX3_givesUnder_18 : decode cX3_givesUnder 18 = .ok (.iconst 1, 1) := by decide +kernel
theorem dX3_givesUnder_19 : decode cX3_givesUnder 19 = .ok (.iand, 1) := by decide +kernel
theorem dX3_givesUnder_20 : decode cX3_givesUnder 20 = .ok (.ifCond .ne 5, 3) := by decide +kernel
theorem dX3_givesUnder_23 : decode cX3_givesUnder 23 = .ok (.iconst 0, 1) := by decide +kernel
theorem dX3_givesUnder_24 : decode cX3_givesUnder 24 = .ok (.ireturn, 1) := by decide +kernel
theorem dX3_givesUnder_25 : decode cX3_givesUnder 25 = .ok (.aload_n 0, 1) := by decide +kernel
theorem dX3_givesUnder_26 : decode cX3_givesUnder 26 = .ok (.getfield 32, 3) := by decide +kernel
theorem dX3_givesUnder_29 : decode cX3_givesUnder 29 = .ok (.aload_n 0, 1) := by decide +kernel
theorem dX3_givesUnder_30 : decode cX3_givesUnder 30 = .ok (.getfield 35, 3) := by decide +kernel
theorem dX3_givesUnder_33 : decode cX3_givesUnder 33 = .ok (.iload_n 1, 1) := by decide +kernel
theorem dX3_givesUnder_34 : decode cX3_givesUnder 34 = .ok (.iaload, 1) := by decide +kernel
theorem dX3_givesUnder_35 : decode cX3_givesUnder 35 = .ok (.iaload, 1) := by decide +kernel
theorem dX3_givesUnder_36 : decode cX3_givesUnder 36 = .ok (.istore_n 2, 1) := by decide +kernel
theorem dX3_givesUnder_37 : decode cX3_givesUnder 37 = .ok (.aload_n 0, 1) := by decide +kernel
theorem dX3_givesUnder_38 : decode cX3_givesUnder 38 = .ok (.getfield 53, 3) := by decide +kernel
theorem dX3_givesUnder_41 : decode cX3_givesUnder 41 = .ok (.iload_n 2, 1) := by decide +kernel
theorem dX3_givesUnder_42 : decode cX3_givesUnder 42 = .ok (.iaload, 1) := by decide +kernel
theorem dX3_givesUnder_43 : decode cX3_givesUnder 43 = .ok (.ifCond .le 26, 3) := by decide +kernel
theorem dX3_givesUnder_46 : decode cX3_givesUnder 46 = .ok (.aload_n 0, 1) := by decide +kernel
theorem dX3_givesUnder_47 : decode cX3_givesUnder 47 = .ok (.getfield 41, 3) := by decide +kernel
theorem dX3_givesUnder_50 : decode cX3_givesUnder 50 = .ok (.iload_n 2, 1) := by decide +kernel
theorem dX3_givesUnder_51 : decode cX3_givesUnder 51 = .ok (.iaload, 1) := by decide +kernel
theorem dX3_givesUnder_52 : decode cX3_givesUnder 52 = .ok (.aload_n 0, 1) := by decide +kernel
theorem dX3_givesUnder_53 : decode cX3_givesUnder 53 = .ok (.getfield 38, 3) := by decide +kernel
theorem dX3_givesUnder_56 : decode cX3_givesUnder 56 = .ok (.iload_n 1, 1) := by decide +kernel
theorem dX3_givesUnder_57 : decode cX3_givesUnder 57 = .ok (.iaload, 1) := by decide +kernel
theorem dX3_givesUnder_58 : decode cX3_givesUnder 58 = .ok (.imul, 1) := by decide +kernel
theorem dX3_givesUnder_59 : decode cX3_givesUnder 59 = .ok (.aload_n 0, 1) := by decide +kernel
theorem dX3_givesUnder_60 : decode cX3_givesUnder 60 = .ok (.getfield 53, 3) := by decide +kernel
theorem dX3_givesUnder_63 : decode cX3_givesUnder 63 = .ok (.iload_n 2, 1) := by decide +kernel
theorem dX3_givesUnder_64 : decode cX3_givesUnder 64 = .ok (.iaload, 1) := by decide +kernel
theorem dX3_givesUnder_65 : decode cX3_givesUnder 65 = .ok (.idiv, 1) := by decide +kernel
theorem dX3_givesUnder_66 : decode cX3_givesUnder 66 = .ok (.goto 4, 3) := by decide +kernel
theorem dX3_givesUnder_69 : decode cX3_givesUnder 69 = .ok (.iconst 0, 1) := by decide +kernel
theorem dX3_givesUnder_70 : decode cX3_givesUnder 70 = .ok (.ireturn, 1) := by decide +kernel
theorem dX3_hasChair_0 : decode cX3_hasChair 0 = .ok (.iload_n 1, 1) := by decide +kernel
theorem dX3_hasChair_1 : decode cX3_hasChair 1 = .ok (.ifCond .lt 15, 3) := by decide +kernel
theorem dX3_hasChair_4 : decode cX3_hasChair 4 = .ok (.iload_n 1, 1) := by decide +kernel
theorem dX3_hasChair_5 : decode cX3_hasChair 5 = .ok (.aload_n 0, 1) := by decide +kernel
theorem dX3_hasChair_6 : decode cX3_hasChair 6 = .ok (.getfield 19, 3) := by decide +kernel
theorem dX3_hasChair_9 : decode cX3_hasChair 9 = .ok (.if_icmp .ge 7, 3) := by decide +kernel
theorem dX3_hasChair_12 : decode cX3_hasChair 12 = .ok (.iconst 1, 1) := by decide +kernel
theorem dX3_hasChair_13 : decode cX3_hasChair 13 = .ok (.goto 4, 3) := by decide +kernel
theorem dX3_hasChair_16 : decode cX3_hasChair 16 = .ok (.iconst 0, 1) := by decide +kernel
theorem dX3_hasChair_17 : decode cX3_hasChair 17 = .ok (.ireturn, 1) := by decide +kernel
theorem dX3_hasSitter_0 : decode cX3_hasSitter 0 = .ok (.iload_n 1, 1) := by decide +kernel
theorem dX3_hasSitter_1 : decode cX3_hasSitter 1 = .ok (.ifCond .lt 15, 3) := by decide +kernel
theorem dX3_hasSitter_4 : decode cX3_hasSitter 4 = .ok (.iload_n 1, 1) := by decide +kernel
theorem dX3_hasSitter_5 : decode cX3_hasSitter 5 = .ok (.aload_n 0, 1) := by decide +kernel
theorem dX3_hasSitter_6 : decode cX3_hasSitter 6 = .ok (.getfield 22, 3) := by decide +kernel
theorem dX3_hasSitter_9 : decode cX3_hasSitter 9 = .ok (.if_icmp .ge 7, 3) := by decide +kernel
theorem dX3_hasSitter_12 : decode cX3_hasSitter 12 = .ok (.iconst 1, 1) := by decide +kernel
theorem dX3_hasSitter_13 : decode cX3_hasSitter 13 = .ok (.goto 4, 3) := by decide +kernel
theorem dX3_hasSitter_16 : decode cX3_hasSitter 16 = .ok (.iconst 0, 1) := by decide +kernel
theorem dX3_hasSitter_17 : decode cX3_hasSitter 17 = .ok (.ireturn, 1) := by decide +kernel
theorem dX3_hasStrand_0 : decode cX3_hasStrand 0 = .ok (.iload_n 1, 1) := by decide +kernel
theorem dX3_hasStrand_1 : decode cX3_hasStrand 1 = .ok (.ifCond .lt 15, 3) := by decide +kernel
theorem dX3_hasStrand_4 : decode cX3_hasStrand 4 = .ok (.iload_n 1, 1) := by decide +kernel
theorem dX3_hasStrand_5 : decode cX3_hasStrand 5 = .ok (.aload_n 0, 1) := by decide +kernel
theorem dX3_hasStrand_6 : decode cX3_hasStrand 6 = .ok (.getfield 15, 3) := by decide +kernel
theorem dX3_hasStrand_9 : decode cX3_hasStrand 9 = .ok (.if_icmp .ge 7, 3) := by decide +kernel
theorem dX3_hasStrand_12 : decode cX3_hasStrand 12 = .ok (.iconst 1, 1) := by decide +kernel
theorem dX3_hasStrand_13 : decode cX3_hasStrand 13 = .ok (.goto 4, 3) := by decide +kernel
theorem dX3_hasStrand_16 : decode cX3_hasStrand 16 = .ok (.iconst 0, 1) := by decide +kernel
theorem dX3_hasStrand_17 : decode cX3_hasStrand 17 = .ok (.ireturn, 1) := by decide +kernel
theorem dX3_isDown_0 : decode cX3_isDown 0 = .ok (.iload_n 1, 1) := by decide +kernel
theorem dX3_isDown_1 : decode cX3_isDown 1 = .ok (.ifCond .lt 26, 3) := by decide +kernel
theorem dX3_isDown_4 : decode cX3_isDown 4 = .ok (.iload_n 1, 1) := by decide +kernel
theorem dX3_isDown_5 : decode cX3_isDown 5 = .ok (.aload_n 0, 1) := by decide +kernel
theorem dX3_isDown_6 : decode cX3_isDown 6 = .ok (.getfield 22, 3) := by decide +kernel
theorem dX3_isDown_9 : decode cX3_isDown 9 = .ok (.if_icmp .ge 18, 3) := by decide +kernel
theorem dX3_isDown_12 : decode cX3_isDown 12 = .ok (.aload_n 0, 1) := by decide +kernel
theorem dX3_isDown_13 : decode cX3_isDown 13 = .ok (.getfield 44, 3) := by decide +kernel
theorem dX3_isDown_16 : decode cX3_isDown 16 = .ok (.iload_n 1, 1) := by decide +kernel
theorem dX3_isDown_17 : decode cX3_isDown 17 = .ok (.ishr, 1) := by decide +kernel
theorem dX3_isDown_18 : decode cX3_isDown 18 = .ok (.iconst 1, 1) := by decide +kernel
theorem dX3_isDown_19 : decode cX3_isDown 19 = .ok (.iand, 1) := by decide +kernel
theorem dX3_isDown_20 : decode cX3_isDown 20 = .ok (.ifCond .eq 7, 3) := by decide +kernel
theorem dX3_isDown_23 : decode cX3_isDown 23 = .ok (.iconst 1, 1) := by decide +kernel
theorem dX3_isDown_24 : decode cX3_isDown 24 = .ok (.goto 4, 3) := by decide +kernel
theorem dX3_isDown_27 : decode cX3_isDown 27 = .ok (.iconst 0, 1) := by decide +kernel
theorem dX3_isDown_28 : decode cX3_isDown 28 = .ok (.ireturn, 1) := by decide +kernel
theorem dX3_isUp_0 : decode cX3_isUp 0 = .ok (.iload_n 1, 1) := by decide +kernel
theorem dX3_isUp_1 : decode cX3_isUp 1 = .ok (.ifCond .lt 26, 3) := by decide +kernel
theorem dX3_isUp_4 : decode cX3_isUp 4 = .ok (.iload_n 1, 1) := by decide +kernel
theorem dX3_isUp_5 : decode cX3_isUp 5 = .ok (.aload_n 0, 1) := by decide +kernel
theorem dX3_isUp_6 : decode cX3_isUp 6 = .ok (.getfield 22, 3) := by decide +kernel
theorem dX3_isUp_9 : decode cX3_isUp 9 = .ok (.if_icmp .ge 18, 3) := by decide +kernel
theorem dX3_isUp_12 : decode cX3_isUp 12 = .ok (.aload_n 0, 1) := by decide +kernel
theorem dX3_isUp_13 : decode cX3_isUp 13 = .ok (.getfield 47, 3) := by decide +kernel
theorem dX3_isUp_16 : decode cX3_isUp 16 = .ok (.iload_n 1, 1) := by decide +kernel
theorem dX3_isUp_17 : decode cX3_isUp 17 = .ok (.ishr, 1) := by decide +kernel
theorem dX3_isUp_18 : decode cX3_isUp 18 = .ok (.iconst 1, 1) := by decide +kernel
theorem dX3_isUp_19 : decode cX3_isUp 19 = .ok (.iand, 1) := by decide +kernel
theorem dX3_isUp_20 : decode cX3_isUp 20 = .ok (.ifCond .ne 7, 3) := by decide +kernel
theorem dX3_isUp_23 : decode cX3_isUp 23 = .ok (.iconst 1, 1) := by decide +kernel
theorem dX3_isUp_24 : decode cX3_isUp 24 = .ok (.goto 4, 3) := by decide +kernel
theorem dX3_isUp_27 : decode cX3_isUp 27 = .ok (.iconst 0, 1) := by decide +kernel
theorem dX3_isUp_28 : decode cX3_isUp 28 = .ok (.ireturn, 1) := by decide +kernel
theorem dX3_restart_0 : decode cX3_restart 0 = .ok (.aload_n 0, 1) := by decide +kernel
theorem dX3_restart_1 : decode cX3_restart 1 = .ok (.getfield 25, 3) := by decide +kernel
theorem dX3_restart_4 : decode cX3_restart 4 = .ok (.iconst 0, 1) := by decide +kernel
theorem dX3_restart_5 : decode cX3_restart 5 = .ok (.aload_n 0, 1) := by decide +kernel
theorem dX3_restart_6 : decode cX3_restart 6 = .ok (.getfield 41, 3) := by decide +kernel
theorem dX3_restart_9 : decode cX3_restart 9 = .ok (.iconst 0, 1) := by decide +kernel
theorem dX3_restart_10 : decode cX3_restart 10 = .ok (.iconst 4, 1) := by decide +kernel
theorem dX3_restart_11 : decode cX3_restart 11 = .ok (.invokestatic 65, 3) := by decide +kernel
theorem dX3_restart_14 : decode cX3_restart 14 = .ok (.aload_n 0, 1) := by decide +kernel
theorem dX3_restart_15 : decode cX3_restart 15 = .ok (.iconst 0, 1) := by decide +kernel
theorem dX3_restart_16 : decode cX3_restart 16 = .ok (.putfield 44, 3) := by decide +kernel
theorem dX3_restart_19 : decode cX3_restart 19 = .ok (.aload_n 0, 1) := by decide +kernel
theorem dX3_restart_20 : decode cX3_restart 20 = .ok (.iconst 0, 1) := by decide +kernel
theorem dX3_restart_21 : decode cX3_restart 21 = .ok (.putfield 47, 3) := by decide +kernel
theorem dX3_restart_24 : decode cX3_restart 24 = .ok (.aload_n 0, 1) := by decide +kernel
theorem dX3_restart_25 : decode cX3_restart 25 = .ok (.iconst 0, 1) := by decide +kernel
theorem dX3_restart_26 : decode cX3_restart 26 = .ok (.putfield 50, 3) := by decide +kernel
theorem dX3_restart_29 : decode cX3_restart 29 = .ok (.aload_n 0, 1) := by decide +kernel
theorem dX3_restart_30 : decode cX3_restart 30 = .ok (.iconst 0, 1) := by decide +kernel
theorem dX3_restart_31 : decode cX3_restart 31 = .ok (.putfield 59, 3) := by decide +kernel
theorem dX3_restart_34 : decode cX3_restart 34 = .ok (.aload_n 0, 1) := by decide +kernel
theorem dX3_restart_35 : decode cX3_restart 35 = .ok (.invokevirtual 71, 3) := by decide +kernel
theorem dX3_restart_38 : decode cX3_restart 38 = .ok (.return_, 1) := by decide +kernel
theorem dX3_seat_0 : decode cX3_seat 0 = .ok (.aload_n 0, 1) := by decide +kernel
theorem dX3_seat_1 : decode cX3_seat 1 = .ok (.iload_n 1, 1) := by decide +kernel
theorem dX3_seat_2 : decode cX3_seat 2 = .ok (.invokevirtual 85, 3) := by decide +kernel
theorem dX3_seat_5 : decode cX3_seat 5 = .ok (.ifCond .eq 12, 3) := by decide +kernel
theorem dX3_seat_8 : decode cX3_seat 8 = .ok (.aload_n 0, 1) := by decide +kernel
theorem dX3_seat_9 : decode cX3_seat 9 = .ok (.iload_n 1, 1) := by decide +kernel
theorem dX3_seat_10 : decode cX3_seat 10 = .ok (.invokevirtual 82, 3) := by decide +kernel
theorem dX3_seat_13 : decode cX3_seat 13 = .ok (.iload_n 2, 1) := by decide +kernel
theorem dX3_seat_14 : decode cX3_seat 14 = .ok (.if_icmp .ne 4, 3) := by decide +kernel
theorem dX3_seat_17 : decode cX3_seat 17 = .ok (.return_, 1) := by decide +kernel
theorem dX3_seat_18 : decode cX3_seat 18 = .ok (.aload_n 0, 1) := by decide +kernel
theorem dX3_seat_19 : decode cX3_seat 19 = .ok (.getfield 32, 3) := by decide +kernel
theorem dX3_seat_22 : decode cX3_seat 22 = .ok (.aload_n 0, 1) := by decide +kernel
theorem dX3_seat_23 : decode cX3_seat 23 = .ok (.getfield 35, 3) := by decide +kernel
theorem dX3_seat_26 : decode cX3_seat 26 = .ok (.iload_n 1, 1) := by decide +kernel
theorem dX3_seat_27 : decode cX3_seat 27 = .ok (.iaload, 1) := by decide +kernel
theorem dX3_seat_28 : decode cX3_seat 28 = .ok (.iaload, 1) := by decide +kernel
theorem dX3_seat_29 : decode cX3_seat 29 = .ok (.istore_n 3, 1) := by decide +kernel
theorem dX3_seat_30 : decode cX3_seat 30 = .ok (.aload_n 0, 1) := by decide +kernel
theorem dX3_seat_31 : decode cX3_seat 31 = .ok (.dup, 1) := by decide +kernel
theorem dX3_seat_32 : decode cX3_seat 32 = .ok (.getfield 44, 3) := by decide +kernel
theorem dX3_seat_35 : decode cX3_seat 35 = .ok (.iconst 1, 1) := by decide +kernel
theorem dX3_seat_36 : decode cX3_seat 36 = .ok (.iload_n 1, 1) := by decide +kernel
theorem dX3_seat_37 : decode cX3_seat 37 = .ok (.ishl, 1) := by decide +kernel
theorem dX3_seat_38 : decode cX3_seat 38 = .ok (.ixor, 1) := by decide +kernel
theorem dX3_seat_39 : decode cX3_seat 39 = .ok (.putfield 44, 3) := by decide +kernel
theorem dX3_seat_42 : decode cX3_seat 42 = .ok (.aload_n 0, 1) := by decide +kernel
theorem dX3_seat_43 : decode cX3_seat 43 = .ok (.getfield 53, 3) := by decide +kernel
theorem dX3_seat_46 : decode cX3_seat 46 = .ok (.iload_n 3, 1) := by decide +kernel
theorem dX3_seat_47 : decode cX3_seat 47 = .ok (.dup2, 1) := by decide +kernel
theorem dX3_seat_48 : decode cX3_seat 48 = .ok (.iaload, 1) := by decide +kernel
theorem dX3_seat_49 : decode cX3_seat 49 = .ok (.iload_n 2, 1) := by decide +kernel
theorem dX3_seat_50 : decode cX3_seat 50 = .ok (.ifCond .eq 12, 3) := by decide +kernel
theorem dX3_seat_53 : decode cX3_seat 53 = .ok (.aload_n 0, 1) := by decide +kernel
theorem dX3_seat_54 : decode cX3_seat 54 = .ok (.getfield 38, 3) := by decide +kernel
theorem dX3_seat_57 : decode cX3_seat 57 = .ok (.iload_n 1, 1) := by decide +kernel
theorem dX3_seat_58 : decode cX3_seat 58 = .ok (.iaload, 1) := by decide +kernel
theorem dX3_seat_59 : decode cX3_seat 59 = .ok (.goto 10, 3) := by decide +kernel
theorem dX3_seat_62 : decode cX3_seat 62 = .ok (.aload_n 0, 1) := by decide +kernel
theorem dX3_seat_63 : decode cX3_seat 63 = .ok (.getfield 38, 3) := by decide +kernel
theorem dX3_seat_66 : decode cX3_seat 66 = .ok (.iload_n 1, 1) := by decide +kernel
theorem dX3_seat_67 : decode cX3_seat 67 = .ok (.iaload, 1) := by decide +kernel
theorem dX3_seat_68 : decode cX3_seat 68 = .ok (.ineg, 1) := by decide +kernel
theorem dX3_seat_69 : decode cX3_seat 69 = .ok (.iadd, 1) := by decide +kernel
theorem dX3_seat_70 : decode cX3_seat 70 = .ok (.iastore, 1) := by decide +kernel
theorem dX3_seat_71 : decode cX3_seat 71 = .ok (.aload_n 0, 1) := by decide +kernel
theorem dX3_seat_72 : decode cX3_seat 72 = .ok (.getfield 56, 3) := by decide +kernel
theorem dX3_seat_75 : decode cX3_seat 75 = .ok (.iload_n 3, 1) := by decide +kernel
theorem dX3_seat_76 : decode cX3_seat 76 = .ok (.dup2, 1) := by decide +kernel
theorem dX3_seat_77 : decode cX3_seat 77 = .ok (.iaload, 1) := by decide +kernel
theorem dX3_seat_78 : decode cX3_seat 78 = .ok (.iload_n 2, 1) := by decide +kernel
theorem dX3_seat_79 : decode cX3_seat 79 = .ok (.ifCond .eq 7, 3) := by decide +kernel
theorem dX3_seat_82 : decode cX3_seat 82 = .ok (.iconst 1, 1) := by decide +kernel
theorem dX3_seat_83 : decode cX3_seat 83 = .ok (.goto 4, 3) := by decide +kernel
theorem dX3_seat_86 : decode cX3_seat 86 = .ok (.iconst (-1), 1) := by decide +kernel
theorem dX3_seat_87 : decode cX3_seat 87 = .ok (.iadd, 1) := by decide +kernel
theorem dX3_seat_88 : decode cX3_seat 88 = .ok (.iastore, 1) := by decide +kernel
theorem dX3_seat_89 : decode cX3_seat 89 = .ok (.return_, 1) := by decide +kernel
theorem dX3_settle_0 : decode cX3_settle 0 = .ok (.iconst 0, 1) := by decide +kernel
theorem dX3_settle_1 : decode cX3_settle 1 = .ok (.istore_n 1, 1) := by decide +kernel
theorem dX3_settle_2 : decode cX3_settle 2 = .ok (.iconst 0, 1) := by decide +kernel
theorem dX3_settle_3 : decode cX3_settle 3 = .ok (.istore_n 2, 1) := by decide +kernel
theorem dX3_settle_4 : decode cX3_settle 4 = .ok (.iload_n 2, 1) := by decide +kernel
theorem dX3_settle_5 : decode cX3_settle 5 = .ok (.bipush 8, 2) := by decide +kernel
theorem dX3_settle_7 : decode cX3_settle 7 = .ok (.if_icmp .gt 50, 3) := by decide +kernel
theorem dX3_settle_10 : decode cX3_settle 10 = .ok (.aload_n 0, 1) := by decide +kernel
theorem dX3_settle_11 : decode cX3_settle 11 = .ok (.invokevirtual 94, 3) := by decide +kernel
theorem dX3_settle_14 : decode cX3_settle 14 = .ok (.istore_n 3, 1) := by decide +kernel
theorem dX3_settle_15 : decode cX3_settle 15 = .ok (.iload_n 3, 1) := by decide +kernel
theorem dX3_settle_16 : decode cX3_settle 16 = .ok (.ifCond .ne 5, 3) := by decide +kernel
theorem dX3_settle_19 : decode cX3_settle 19 = .ok (.iload_n 1, 1) := by decide +kernel
theorem dX3_settle_20 : decode cX3_settle 20 = .ok (.ireturn, 1) := by decide +kernel
theorem dX3_settle_21 : decode cX3_settle 21 = .ok (.aload_n 0, 1) := by decide +kernel
theorem dX3_settle_22 : decode cX3_settle 22 = .ok (.dup, 1) := by decide +kernel
theorem dX3_settle_23 : decode cX3_settle 23 = .ok (.getfield 44, 3) := by decide +kernel
theorem dX3_settle_26 : decode cX3_settle 26 = .ok (.iload_n 3, 1) := by decide +kernel
theorem dX3_settle_27 : decode cX3_settle 27 = .ok (.iconst (-1), 1) := by decide +kernel
theorem dX3_settle_28 : decode cX3_settle 28 = .ok (.ixor, 1) := by decide +kernel
theorem dX3_settle_29 : decode cX3_settle 29 = .ok (.iand, 1) := by decide +kernel
theorem dX3_settle_30 : decode cX3_settle 30 = .ok (.putfield 44, 3) := by decide +kernel
theorem dX3_settle_33 : decode cX3_settle 33 = .ok (.aload_n 0, 1) := by decide +kernel
theorem dX3_settle_34 : decode cX3_settle 34 = .ok (.dup, 1) := by decide +kernel
theorem dX3_settle_35 : decode cX3_settle 35 = .ok (.getfield 47, 3) := by decide +kernel
theorem dX3_settle_38 : decode cX3_settle 38 = .ok (.iload_n 3, 1) := by decide +kernel
theorem dX3_settle_39 : decode cX3_settle 39 = .ok (.ior, 1) := by decide +kernel
theorem dX3_settle_40 : decode cX3_settle 40 = .ok (.putfield 47, 3) := by decide +kernel
theorem dX3_settle_43 : decode cX3_settle 43 = .ok (.iload_n 1, 1) := by decide +kernel
theorem dX3_settle_44 : decode cX3_settle 44 = .ok (.iload_n 3, 1) := by decide +kernel
theorem dX3_settle_45 : decode cX3_settle 45 = .ok (.ior, 1) := by decide +kernel
theorem dX3_settle_46 : decode cX3_settle 46 = .ok (.istore_n 1, 1) := by decide +kernel
theorem dX3_settle_47 : decode cX3_settle 47 = .ok (.aload_n 0, 1) := by decide +kernel
theorem dX3_settle_48 : decode cX3_settle 48 = .ok (.invokevirtual 71, 3) := by decide +kernel
theorem dX3_settle_51 : decode cX3_settle 51 = .ok (.iinc 2 1, 3) := by decide +kernel
theorem dX3_settle_54 : decode cX3_settle 54 = .ok (.goto (-50), 3) := by decide +kernel
theorem dX3_settle_57 : decode cX3_settle 57 = .ok (.iload_n 1, 1) := by decide +kernel
theorem dX3_settle_58 : decode cX3_settle 58 = .ok (.ireturn, 1) := by decide +kernel
theorem dX3_sitterOn_0 : decode cX3_sitterOn 0 = .ok (.iconst 0, 1) := by decide +kernel
theorem dX3_sitterOn_1 : decode cX3_sitterOn 1 = .ok (.istore_n 2, 1) := by decide +kernel
theorem dX3_sitterOn_2 : decode cX3_sitterOn 2 = .ok (.iload_n 2, 1) := by decide +kernel
theorem dX3_sitterOn_3 : decode cX3_sitterOn 3 = .ok (.aload_n 0, 1) := by decide +kernel
theorem dX3_sitterOn_4 : decode cX3_sitterOn 4 = .ok (.getfield 22, 3) := by decide +kernel
theorem dX3_sitterOn_7 : decode cX3_sitterOn 7 = .ok (.if_icmp .ge 21, 3) := by decide +kernel
theorem dX3_sitterOn_10 : decode cX3_sitterOn 10 = .ok (.aload_n 0, 1) := by decide +kernel
theorem dX3_sitterOn_11 : decode cX3_sitterOn 11 = .ok (.getfield 35, 3) := by decide +kernel
theorem dX3_sitterOn_14 : decode cX3_sitterOn 14 = .ok (.iload_n 2, 1) := by decide +kernel
theorem dX3_sitterOn_15 : decode cX3_sitterOn 15 = .ok (.iaload, 1) := by decide +kernel
theorem dX3_sitterOn_16 : decode cX3_sitterOn 16 = .ok (.iload_n 1, 1) := by decide +kernel
theorem dX3_sitterOn_17 : decode cX3_sitterOn 17 = .ok (.if_icmp .ne 5, 3) := by decide +kernel
theorem dX3_sitterOn_20 : decode cX3_sitterOn 20 = .ok (.iload_n 2, 1) := by decide +kernel
theorem dX3_sitterOn_21 : decode cX3_sitterOn 21 = .ok (.ireturn, 1) := by decide +kernel
theorem dX3_sitterOn_22 : decode cX3_sitterOn 22 = .ok (.iinc 2 1, 3) := by decide +kernel
theorem dX3_sitterOn_25 : decode cX3_sitterOn 25 = .ok (.goto (-23), 3) := by decide +kernel
theorem dX3_sitterOn_28 : decode cX3_sitterOn 28 = .ok (.iconst (-1), 1) := by decide +kernel
theorem dX3_sitterOn_29 : decode cX3_sitterOn 29 = .ok (.ireturn, 1) := by decide +kernel
theorem dX3_stateOf_0 : decode cX3_stateOf 0 = .ok (.aload_n 0, 1) := by decide +kernel
theorem dX3_stateOf_1 : decode cX3_stateOf 1 = .ok (.iload_n 1, 1) := by decide +kernel
theorem dX3_stateOf_2 : decode cX3_stateOf 2 = .ok (.invokevirtual 74, 3) := by decide +kernel
theorem dX3_stateOf_5 : decode cX3_stateOf 5 = .ok (.ifCond .ne 5, 3) := by decide +kernel
theorem dX3_stateOf_8 : decode cX3_stateOf 8 = .ok (.iconst (-1), 1) := by decide +kernel
theorem dX3_stateOf_9 : decode cX3_stateOf 9 = .ok (.ireturn, 1) := by decide +kernel
theorem dX3_stateOf_10 : decode cX3_stateOf 10 = .ok (.aload_n 0, 1) := by decide +kernel
theorem dX3_stateOf_11 : decode cX3_stateOf 11 = .ok (.getfield 47, 3) := by decide +kernel
theorem dX3_stateOf_14 : decode cX3_stateOf 14 = .ok (.iload_n 1, 1) := by decide +kernel
theorem dX3_stateOf_15 : decode cX3_stateOf 15 = .ok (.ishr, 1) := by decide +kernel
theorem dX3_stateOf_16 : decode cX3_stateOf 16 = .ok (.iconst 1, 1) := by decide +kernel
theorem dX3_stateOf_17 : decode cX3_stateOf 17 = .ok (.iand, 1) := by decide +kernel
theorem dX3_stateOf_18 : decode cX3_stateOf 18 = .ok (.ifCond .eq 5, 3) := by decide +kernel
theorem dX3_stateOf_21 : decode cX3_stateOf 21 = .ok (.iconst 2, 1) := by decide +kernel
theorem dX3_stateOf_22 : decode cX3_stateOf 22 = .ok (.ireturn, 1) := by decide +kernel
theorem dX3_stateOf_23 : decode cX3_stateOf 23 = .ok (.aload_n 0, 1) := by decide +kernel
theorem dX3_stateOf_24 : decode cX3_stateOf 24 = .ok (.getfield 44, 3) := by decide +kernel
theorem dX3_stateOf_27 : decode cX3_stateOf 27 = .ok (.iload_n 1, 1) := by decide +kernel
theorem dX3_stateOf_28 : decode cX3_stateOf 28 = .ok (.ishr, 1) := by decide +kernel
theorem dX3_stateOf_29 : decode cX3_stateOf 29 = .ok (.iconst 1, 1) := by decide +kernel
theorem dX3_stateOf_30 : decode cX3_stateOf 30 = .ok (.iand, 1) := by decide +kernel
theorem dX3_stateOf_31 : decode cX3_stateOf 31 = .ok (.ifCond .eq 7, 3) := by decide +kernel
theorem dX3_stateOf_34 : decode cX3_stateOf 34 = .ok (.iconst 1, 1) := by decide +kernel
theorem dX3_stateOf_35 : decode cX3_stateOf 35 = .ok (.goto 4, 3) := by decide +kernel
theorem dX3_stateOf_38 : decode cX3_stateOf 38 = .ok (.iconst 0, 1) := by decide +kernel
theorem dX3_stateOf_39 : decode cX3_stateOf 39 = .ok (.ireturn, 1) := by decide +kernel
theorem dX3_turn_0 : decode cX3_turn 0 = .ok (.aload_n 0, 1) := by decide +kernel
theorem dX3_turn_1 : decode cX3_turn 1 = .ok (.iload_n 1, 1) := by decide +kernel
theorem dX3_turn_2 : decode cX3_turn 2 = .ok (.aload_n 0, 1) := by decide +kernel
theorem dX3_turn_3 : decode cX3_turn 3 = .ok (.iload_n 1, 1) := by decide +kernel
theorem dX3_turn_4 : decode cX3_turn 4 = .ok (.invokevirtual 82, 3) := by decide +kernel
theorem dX3_turn_7 : decode cX3_turn 7 = .ok (.ifCond .ne 7, 3) := by decide +kernel
theorem dX3_turn_10 : decode cX3_turn 10 = .ok (.iconst 1, 1) := by decide +kernel
theorem dX3_turn_11 : decode cX3_turn 11 = .ok (.goto 4, 3) := by decide +kernel
theorem dX3_turn_14 : decode cX3_turn 14 = .ok (.iconst 0, 1) := by decide +kernel
theorem dX3_turn_15 : decode cX3_turn 15 = .ok (.invokevirtual 98, 3) := by decide +kernel
theorem dX3_turn_18 : decode cX3_turn 18 = .ok (.aload_n 0, 1) := by decide +kernel
theorem dX3_turn_19 : decode cX3_turn 19 = .ok (.invokevirtual 108, 3) := by decide +kernel
theorem dX3_turn_22 : decode cX3_turn 22 = .ok (.pop, 1) := by decide +kernel
theorem dX3_turn_23 : decode cX3_turn 23 = .ok (.return_, 1) := by decide +kernel
theorem dX3_weigh_0 : decode cX3_weigh 0 = .ok (.aload_n 0, 1) := by decide +kernel
theorem dX3_weigh_1 : decode cX3_weigh 1 = .ok (.getfield 53, 3) := by decide +kernel
theorem dX3_weigh_4 : decode cX3_weigh 4 = .ok (.iconst 0, 1) := by decide +kernel
theorem dX3_weigh_5 : decode cX3_weigh 5 = .ok (.invokestatic 88, 3) := by decide +kernel
theorem dX3_weigh_8 : decode cX3_weigh 8 = .ok (.aload_n 0, 1) := by decide +kernel
theorem dX3_weigh_9 : decode cX3_weigh 9 = .ok (.getfield 56, 3) := by decide +kernel
theorem dX3_weigh_12 : decode cX3_weigh 12 = .ok (.iconst 0, 1) := by decide +kernel
theorem dX3_weigh_13 : decode cX3_weigh 13 = .ok (.invokestatic 88, 3) := by decide +kernel
theorem dX3_weigh_16 : decode cX3_weigh 16 = .ok (.iconst 0, 1) := by decide +kernel
theorem dX3_weigh_17 : decode cX3_weigh 17 = .ok (.istore_n 1, 1) := by decide +kernel
theorem dX3_weigh_18 : decode cX3_weigh 18 = .ok (.iload_n 1, 1) := by decide +kernel
theorem dX3_weigh_19 : decode cX3_weigh 19 = .ok (.aload_n 0, 1) := by decide +kernel
theorem dX3_weigh_20 : decode cX3_weigh 20 = .ok (.getfield 22, 3) := by decide +kernel
theorem dX3_weigh_23 : decode cX3_weigh 23 = .ok (.if_icmp .ge 54, 3) := by decide +kernel
theorem dX3_weigh_26 : decode cX3_weigh 26 = .ok (.aload_n 0, 1) := by decide +kernel
theorem dX3_weigh_27 : decode cX3_weigh 27 = .ok (.iload_n 1, 1) := by decide +kernel
theorem dX3_weigh_28 : decode cX3_weigh 28 = .ok (.invokevirtual 82, 3) := by decide +kernel
theorem dX3_weigh_31 : decode cX3_weigh 31 = .ok (.ifCond .eq 40, 3) := by decide +kernel
theorem dX3_weigh_34 : decode cX3_weigh 34 = .ok (.aload_n 0, 1) := by decide +kernel
theorem dX3_weigh_35 : decode cX3_weigh 35 = .ok (.getfield 32, 3) := by decide +kernel
theorem dX3_weigh_38 : decode cX3_weigh 38 = .ok (.aload_n 0, 1) := by decide +kernel
theorem dX3_weigh_39 : decode cX3_weigh 39 = .ok (.getfield 35, 3) := by decide +kernel
theorem dX3_weigh_42 : decode cX3_weigh 42 = .ok (.iload_n 1, 1) := by decide +kernel
theorem dX3_weigh_43 : decode cX3_weigh 43 = .ok (.iaload, 1) := by decide +kernel
theorem dX3_weigh_44 : decode cX3_weigh 44 = .ok (.iaload, 1) := by decide +kernel
theorem dX3_weigh_45 : decode cX3_weigh 45 = .ok (.istore_n 2, 1) := by decide +kernel
theorem dX3_weigh_46 : decode cX3_weigh 46 = .ok (.aload_n 0, 1) := by decide +kernel
theorem dX3_weigh_47 : decode cX3_weigh 47 = .ok (.getfield 53, 3) := by decide +kernel
theorem dX3_weigh_50 : decode cX3_weigh 50 = .ok (.iload_n 2, 1) := by decide +kernel
theorem dX3_weigh_51 : decode cX3_weigh 51 = .ok (.dup2, 1) := by decide +kernel
theorem dX3_weigh_52 : decode cX3_weigh 52 = .ok (.iaload, 1) := by decide +kernel
theorem dX3_weigh_53 : decode cX3_weigh 53 = .ok (.aload_n 0, 1) := by decide +kernel
theorem dX3_weigh_54 : decode cX3_weigh 54 = .ok (.getfield 38, 3) := by decide +kernel
theorem dX3_weigh_57 : decode cX3_weigh 57 = .ok (.iload_n 1, 1) := by decide +kernel
theorem dX3_weigh_58 : decode cX3_weigh 58 = .ok (.iaload, 1) := by decide +kernel
theorem dX3_weigh_59 : decode cX3_weigh 59 = .ok (.iadd, 1) := by decide +kernel
theorem dX3_weigh_60 : decode cX3_weigh 60 = .ok (.iastore, 1) := by decide +kernel
theorem dX3_weigh_61 : decode cX3_weigh 61 = .ok (.aload_n 0, 1) := by decide +kernel
theorem dX3_weigh_62 : decode cX3_weigh 62 = .ok (.getfield 56, 3) := by decide +kernel
theorem dX3_weigh_65 : decode cX3_weigh 65 = .ok (.iload_n 2, 1) := by decide +kernel
theorem dX3_weigh_66 : decode cX3_weigh 66 = .ok (.dup2, 1) := by decide +kernel
theorem dX3_weigh_67 : decode cX3_weigh 67 = .ok (.iaload, 1) := by decide +kernel
theorem dX3_weigh_68 : decode cX3_weigh 68 = .ok (.iconst 1, 1) := by decide +kernel
theorem dX3_weigh_69 : decode cX3_weigh 69 = .ok (.iadd, 1) := by decide +kernel
theorem dX3_weigh_70 : decode cX3_weigh 70 = .ok (.iastore, 1) := by decide +kernel
theorem dX3_weigh_71 : decode cX3_weigh 71 = .ok (.iinc 1 1, 3) := by decide +kernel
theorem dX3_weigh_74 : decode cX3_weigh 74 = .ok (.goto (-56), 3) := by decide +kernel
theorem dX3_weigh_77 : decode cX3_weigh 77 = .ok (.return_, 1) := by decide +kernel
theorem dX3_worthTo_0 : decode cX3_worthTo 0 = .ok (.aload_n 0, 1) := by decide +kernel
theorem dX3_worthTo_1 : decode cX3_worthTo 1 = .ok (.iload_n 1, 1) := by decide +kernel
theorem dX3_worthTo_2 : decode cX3_worthTo 2 = .ok (.invokevirtual 82, 3) := by decide +kernel
theorem dX3_worthTo_5 : decode cX3_worthTo 5 = .ok (.ifCond .eq 16, 3) := by decide +kernel
theorem dX3_worthTo_8 : decode cX3_worthTo 8 = .ok (.iconst 1, 1) := by decide +kernel
theorem dX3_worthTo_9 : decode cX3_worthTo 9 = .ok (.aload_n 0, 1) := by decide +kernel
theorem dX3_worthTo_10 : decode cX3_worthTo 10 = .ok (.iload_n 1, 1) := by decide +kernel
theorem dX3_worthTo_11 : decode cX3_worthTo 11 = .ok (.invokevirtual 78, 3) := by decide +kernel
theorem dX3_worthTo_14 : decode cX3_worthTo 14 = .ok (.bipush 10, 2) := by decide +kernel
theorem dX3_worthTo_16 : decode cX3_worthTo 16 = .ok (.idiv, 1) := by decide +kernel
theorem dX3_worthTo_17 : decode cX3_worthTo 17 = .ok (.iadd, 1) := by decide +kernel
theorem dX3_worthTo_18 : decode cX3_worthTo 18 = .ok (.goto 4, 3) := by decide +kernel
theorem dX3_worthTo_21 : decode cX3_worthTo 21 = .ok (.iconst 0, 1) := by decide +kernel
theorem dX3_worthTo_22 : decode cX3_worthTo 22 = .ok (.ireturn, 1) := by decide +kernel
set_option maxRecDepth 20000 in
theorem ggX3_bears_X3_givenOut : GoodIn wsX3_bears wsX3_givenOut := goodIn_r _ [24, 9, 25, 11, 26, 27, 28, 5, 29, 1, 10, 7, 30, 12, 31, 32, 33, 34, 35, 36, 37, 38, 39, 40, 41, 42, 43, 44, 45, 46, 47] (by decide +kernel) (by decide +kernel)
set_option maxRecDepth 20000 in
theorem gX3_bears_X3_givenOut : GoodIn wsX3_bears (wsV RX3 94 RX3 yX3_givenOut wsX3_givenOut) := goodIn_app (goodIn_of _ (by decide +kernel)) ggX3_bears_X3_givenOut
set_option maxRecDepth 20000 in
theorem ggX3_bears_X3_weigh : GoodIn wsX3_bears wsX3_weigh := goodIn_r _ [6, 7, 8, 9, 10, 11, 12, 13, 14, 15, 16, 17, 18, 19, 5, 20, 1, 31, 32, 33, 34, 35, 36, 37, 38, 39, 40, 41, 42, 43, 44, 45, 46, 47] (by decide +kernel) (by decide +kernel)
set_option maxRecDepth 20000 in
theorem gX3_bears_X3_weigh : GoodIn wsX3_bears (wsV RX3 71 RX3 yX3_weigh wsX3_weigh) := goodIn_app (goodIn_of _ (by decide +kernel)) ggX3_bears_X3_weigh
set_option maxRecDepth 20000 in
theorem ggX3_givenOut_X3_givesUnder : GoodIn wsX3_givenOut wsX3_givesUnder := goodIn_r _ [8, 1, 9, 10, 3, 11, 12, 13, 14, 15, 16, 17, 18, 19, 20, 21, 22, 23, 24, 25, 26, 27, 28, 29, 30] (by decide +kernel) (by decide +kernel)
set_option maxRecDepth 20000 in
theorem gX3_givenOut_X3_givesUnder : GoodIn wsX3_givenOut (wsV RX3 78 RX3 yX3_givesUnder wsX3_givesUnder) := goodIn_app (goodIn_of _ (by decide +kernel)) ggX3_givenOut_X3_givesUnder
set_option maxRecDepth 20000 in
theorem ggX3_givesInAll_X3_givesUnder : GoodIn wsX3_givesInAll wsX3_givesUnder := goodIn_r _ [6, 1, 7, 8, 9, 10, 11, 12, 13, 14, 15, 16, 17, 18, 19, 20, 21, 22, 23, 24, 25, 26, 27, 28, 29] (by decide +kernel) (by decide +kernel)
set_option maxRecDepth 20000 in
theorem gX3_givesInAll_X3_givesUnder : GoodIn wsX3_givesInAll (wsV RX3 78 RX3 yX3_givesUnder wsX3_givesUnder) := goodIn_app (goodIn_of _ (by decide +kernel)) ggX3_givesInAll_X3_givesUnder
set_option maxRecDepth 20000 in
theorem ggX3_restart_X3_weigh : GoodIn wsX3_restart wsX3_weigh := goodIn_r _ [15, 16, 17, 18, 19, 20, 21, 22, 23, 24, 25, 26, 27, 28, 14, 29, 7, 30, 31, 32, 33, 34, 35, 36, 37, 38, 39, 40, 41, 42, 43, 44, 45, 46] (by decide +kernel) (by decide +kernel)
set_option maxRecDepth 20000 in
theorem gX3_restart_X3_weigh : GoodIn wsX3_restart (wsV RX3 71 RX3 yX3_weigh wsX3_weigh) := goodIn_app (goodIn_of _ (by decide +kernel)) ggX3_restart_X3_weigh
set_option maxRecDepth 20000 in
theorem ggX3_seat_X3_isDown : GoodIn wsX3_seat wsX3_isDown := goodIn_r _ [17, 12, 3, 18, 19, 20, 21, 22, 23, 24, 25, 26, 27, 28, 29, 30, 31, 32, 33, 34] (by decide +kernel) (by decide +kernel)
set_option maxRecDepth 20000 in
theorem gX3_seat_X3_isDown : GoodIn wsX3_seat (wsV RX3 82 RX3 yX3_isDown wsX3_isDown) := goodIn_app (goodIn_of _ (by decide +kernel)) ggX3_seat_X3_isDown
set_option maxRecDepth 20000 in
theorem ggX3_seat_X3_isUp : GoodIn wsX3_seat wsX3_isUp := goodIn_r _ [11, 12, 13, 18, 19, 20, 21, 22, 23, 24, 25, 26, 27, 28, 29, 30, 31, 32, 33, 34] (by decide +kernel) (by decide +kernel)
set_option maxRecDepth 20000 in
theorem gX3_seat_X3_isUp : GoodIn wsX3_seat (wsV RX3 85 RX3 yX3_isUp wsX3_isUp) := goodIn_app (goodIn_of _ (by decide +kernel)) ggX3_seat_X3_isUp
set_option maxRecDepth 20000 in
theorem ggX3_settle_X3_givenOut : GoodIn wsX3_settle wsX3_givenOut := goodIn_r _ [7, 8, 9, 10, 11, 12, 13, 6, 14, 1, 15, 16, 17, 18, 32, 33, 34, 35, 36, 37, 38, 39, 40, 41, 42, 43, 44, 45, 46, 47, 48] (by decide +kernel) (by decide +kernel)
set_option maxRecDepth 20000 in
theorem gX3_settle_X3_givenOut : GoodIn wsX3_settle (wsV RX3 94 RX3 yX3_givenOut wsX3_givenOut) := goodIn_app (goodIn_of _ (by decide +kernel)) ggX3_settle_X3_givenOut
set_option maxRecDepth 20000 in
theorem ggX3_settle_X3_weigh : GoodIn wsX3_settle wsX3_weigh := goodIn_r _ [22, 16, 23, 8, 15, 10, 18, 24, 25, 26, 27, 28, 29, 30, 6, 31, 1, 32, 33, 34, 35, 36, 37, 38, 39, 40, 41, 42, 43, 44, 45, 46, 47, 48] (by decide +kernel) (by decide +kernel)
set_option maxRecDepth 20000 in
theorem gX3_settle_X3_weigh : GoodIn wsX3_settle (wsV RX3 71 RX3 yX3_weigh wsX3_weigh) := goodIn_app (goodIn_of _ (by decide +kernel)) ggX3_settle_X3_weigh
set_option maxRecDepth 20000 in
theorem ggX3_stateOf_X3_hasSitter : GoodIn wsX3_stateOf wsX3_hasSitter := goodIn_r _ [7, 8, 9, 10, 11, 12, 13, 14, 15, 16, 17, 18, 19, 20, 21, 22, 23, 24, 25] (by decide +kernel) (by decide +kernel)
set_option maxRecDepth 20000 in
theorem gX3_stateOf_X3_hasSitter : GoodIn wsX3_stateOf (wsV RX3 74 RX3 yX3_hasSitter wsX3_hasSitter) := goodIn_app (goodIn_of _ (by decide +kernel)) ggX3_stateOf_X3_hasSitter
set_option maxRecDepth 20000 in
theorem ggX3_turn_X3_isDown : GoodIn wsX3_turn wsX3_isDown := goodIn_r _ [5, 6, 7, 44, 45, 46, 47, 48, 49, 50, 51, 52, 53, 54, 55, 56, 57, 58, 59, 60] (by decide +kernel) (by decide +kernel)
set_option maxRecDepth 20000 in
theorem gX3_turn_X3_isDown : GoodIn wsX3_turn (wsV RX3 82 RX3 yX3_isDown wsX3_isDown) := goodIn_app (goodIn_of _ (by decide +kernel)) ggX3_turn_X3_isDown
set_option maxRecDepth 20000 in
theorem ggX3_turn_X3_seat : GoodIn wsX3_turn wsX3_seat := goodIn_r _ [11, 12, 13, 7, 14, 15, 16, 17, 18, 19, 4, 20, 6, 21, 1, 2, 3, 5, 44, 45, 46, 47, 48, 49, 50, 51, 52, 53, 54, 55, 56, 57, 58, 59, 60] (by decide +kernel) (by decide +kernel)
set_option maxRecDepth 20000 in
theorem gX3_turn_X3_seat : GoodIn wsX3_turn (wsV RX3 98 RX3 yX3_seat wsX3_seat) := goodIn_app (goodIn_of _ (by decide +kernel)) ggX3_turn_X3_seat
set_option maxRecDepth 20000 in
theorem ggX3_turn_X3_settle : GoodIn wsX3_turn wsX3_settle := goodIn_r _ [25, 7, 21, 26, 27, 28, 4, 29, 6, 30, 13, 31, 32, 33, 34, 12, 14, 35, 15, 36, 37, 38, 39, 16, 40, 41, 42, 43, 1, 2, 3, 5, 44, 45, 46, 47, 48, 49, 50, 51, 52, 53, 54, 55, 56, 57, 58, 59, 60] (by decide +kernel) (by decide +kernel)
set_option maxRecDepth 20000 in
theorem gX3_turn_X3_settle : GoodIn wsX3_turn (wsV RX3 108 RX3 yX3_settle wsX3_settle) := goodIn_app (goodIn_of _ (by decide +kernel)) ggX3_turn_X3_settle
set_option maxRecDepth 20000 in
theorem ggX3_weigh_J7_fill_53178 : GoodIn wsX3_weigh wsJ7_fill_53178 := goodIn_r _ [10] (by decide +kernel) (by decide +kernel)
set_option maxRecDepth 20000 in
theorem gX3_weigh_J7_fill_53178 : GoodIn wsX3_weigh (va_wsS RX3 88 yJ7_fill_53178 wsJ7_fill_53178) := goodIn_app (goodIn_of _ (by decide +kernel)) ggX3_weigh_J7_fill_53178
set_option maxRecDepth 20000 in
theorem ggX3_weigh_X3_isDown : GoodIn wsX3_weigh wsX3_isDown := goodIn_r _ [15, 3, 16, 17, 18, 19, 20, 21, 22, 23, 24, 25, 26, 27, 28, 29, 30, 31, 32, 33] (by decide +kernel) (by decide +kernel)
set_option maxRecDepth 20000 in
theorem gX3_weigh_X3_isDown : GoodIn wsX3_weigh (wsV RX3 82 RX3 yX3_isDown wsX3_isDown) := goodIn_app (goodIn_of _ (by decide +kernel)) ggX3_weigh_X3_isDown
set_option maxRecDepth 20000 in
theorem ggX3_worthTo_X3_givesUnder : GoodIn wsX3_worthTo wsX3_givesUnder := goodIn_r _ [11, 6, 7, 12, 13, 14, 15, 16, 17, 18, 19, 20, 21, 22, 23, 24, 25, 26, 27, 28, 29, 30, 31, 32, 33] (by decide +kernel) (by decide +kernel)
set_option maxRecDepth 20000 in
theorem gX3_worthTo_X3_givesUnder : GoodIn wsX3_worthTo (wsV RX3 78 RX3 yX3_givesUnder wsX3_givesUnder) := goodIn_app (goodIn_of _ (by decide +kernel)) ggX3_worthTo_X3_givesUnder
set_option maxRecDepth 20000 in
theorem ggX3_worthTo_X3_isDown : GoodIn wsX3_worthTo wsX3_isDown := goodIn_r _ [5, 6, 7, 17, 18, 19, 20, 21, 22, 23, 24, 25, 26, 27, 28, 29, 30, 31, 32, 33] (by decide +kernel) (by decide +kernel)
set_option maxRecDepth 20000 in
theorem gX3_worthTo_X3_isDown : GoodIn wsX3_worthTo (wsV RX3 82 RX3 yX3_isDown wsX3_isDown) := goodIn_app (goodIn_of _ (by decide +kernel)) ggX3_worthTo_X3_isDown
set_option maxHeartbeats 4000000 in
set_option maxRecDepth 100000 in
theorem i_X3_hasStrand (l : Launch) (D : va_G) (k : Nat → ClassId) (sz : Nat) (x1 : Int32) (r : Nat) (r_told : Int32) (r_strands : Int32) (r_chairs : Int32) (r_sitters : Int32) (r_atoldCane : Nat) (r_aheight : Nat) (r_astrandOf : Nat) (r_achairOf : Nat) (r_aweight : Nat) (r_acane : Nat) (r_sits : Int32) (r_dropped : Int32) (r_minute : Int32) (r_aload : Nat) (r_aheads : Nat) (r_held : Int32) (r_heldDown : Int32) (h_r_told : iv (0) (1) r_told) (h_r_strands : iv (0) (4) r_strands) (h_r_chairs : iv (0) (8) r_chairs) (h_r_sitters : iv (0) (8) r_sitters) : CtI l yX3_hasStrand wsX3_hasStrand (rmK 1 0 0) [.ref r, .int x1] D k sz ([(r, .inr (2, [.int r_told, .int r_strands, .int r_chairs, .int r_sitters, .ref r_atoldCane, .ref r_aheight, .ref r_astrandOf, .ref r_achairOf, .ref r_aweight, .ref r_acane, .int r_sits, .int r_dropped, .int r_minute, .ref r_aload, .ref r_aheads, .int r_held, .int r_heldDown]))]) (fun (r : Int32) (u : Unit) => iv (0) (1) r ∧ (r.toInt = 0 ∨ 0 ≤ x1.toInt ∧ x1.toInt < r_strands.toInt)) (fun u : Unit => [(r, .inr (2, [.int r_told, .int r_strands, .int r_chairs, .int r_sitters, .ref r_atoldCane, .ref r_aheight, .ref r_astrandOf, .ref r_achairOf, .ref r_aweight, .ref r_acane, .int r_sits, .int r_dropped, .int r_minute, .ref r_aload, .ref r_aheads, .int r_held, .int r_heldDown]))]) 0 0 := by
  have h_r_told_l := h_r_told.1
  have h_r_told_u := h_r_told.2
  have h_r_strands_l := h_r_strands.1
  have h_r_strands_u := h_r_strands.2
  have h_r_chairs_l := h_r_chairs.1
  have h_r_chairs_u := h_r_chairs.2
  have h_r_sitters_l := h_r_sitters.1
  have h_r_sitters_u := h_r_sitters.2
  refine CtI.mk (cc := cX3_hasStrand) (maxL := 2) (ret := (some .boolean)) (by decide) rfl (Nat.le_of_ble_eq_true rfl) ?_
  intro p e s m below meth c A ls E hP hD hS hl
  obtain ⟨hx, hb, hr, hml, hown, hts, hlocks, hin, hG, hA⟩ := E
  have hown : s.vm.findClass RX3 = some m.cls := hown
  have in3 : ∀ w ∈ u_ws RX3 TX3 17, w ∈ wsX3_hasStrand := fun _ h => List.mem_cons_of_mem _ (List.mem_append_right _ h)
  have hl : lv_has ls 2 [(0, .ref r), (1, .int x1)] := hl
  refine lv_iload_n hx hb dX3_hasStrand_0 rfl (lv_at hl 1 rfl) ?_
  refine lv_if_lt (tgt := 16) hx hb dX3_hasStrand_1 (by decide) (fun c1 => ?_) (fun c1 => ?_)
  · have fc1 := cx_lt_t (a := x1.toInt) (b := 0) rfl (by decide) c1
    refine lv_iconst (v := 0) hx hb dX3_hasStrand_16 (by decide) ?_
    exact hc_endZ hx hb hr hlocks rfl () ⟨iv_lit (by decide) (by decide), (by have q9 : (0 : Int32).toInt = 0 := (by decide); omega)⟩ hP hD hS dX3_hasStrand_17
  · have fc1 := cx_lt_f (a := x1.toInt) (b := 0) rfl (by decide) c1
    refine lv_iload_n hx hb dX3_hasStrand_4 rfl (lv_at hl 1 rfl) ?_
    refine lv_aload_n hx hb dX3_hasStrand_5 rfl (lv_at hl 0 rfl) ?_
    refine va_get (D := D) (ci := 2) (v := .int r_strands) (C := RX3) (T := TX3) (N := 17) hx hb hts in3 hown hG.1 hP 0 rfl rfl 1 (by decide) (hts (.fieldLink RX3 15 "ChairCane$Room" "strands" "I") (by decide +kernel)) (fun _ h9 => h9) rfl dX3_hasStrand_6 ?_
    refine lv_icmp_ge (tgt := 16) hx hb dX3_hasStrand_9 (by decide) (fun c2 => ?_) (fun c2 => ?_)
    · have fc2 := cx_ge_t (a := x1.toInt) (b := r_strands.toInt) rfl rfl c2
      refine lv_iconst (v := 0) hx hb dX3_hasStrand_16 (by decide) ?_
      exact hc_endZ hx hb hr hlocks rfl () ⟨iv_lit (by decide) (by decide), (by have q9 : (0 : Int32).toInt = 0 := (by decide); omega)⟩ hP hD hS dX3_hasStrand_17
    · have fc2 := cx_ge_f (a := x1.toInt) (b := r_strands.toInt) rfl rfl c2
      refine lv_iconst (v := 1) hx hb dX3_hasStrand_12 (by decide) ?_
      refine lv_goto (tgt := 17) hx hb dX3_hasStrand_13 (by decide) ?_
      exact hc_endZ hx hb hr hlocks rfl () ⟨iv_lit (by decide) (by decide), (by have q9 : (1 : Int32).toInt = 1 := (by decide); omega)⟩ hP hD hS dX3_hasStrand_17
set_option maxHeartbeats 4000000 in
set_option maxRecDepth 100000 in
theorem i_X3_hasChair (l : Launch) (D : va_G) (k : Nat → ClassId) (sz : Nat) (x1 : Int32) (r : Nat) (r_told : Int32) (r_strands : Int32) (r_chairs : Int32) (r_sitters : Int32) (r_atoldCane : Nat) (r_aheight : Nat) (r_astrandOf : Nat) (r_achairOf : Nat) (r_aweight : Nat) (r_acane : Nat) (r_sits : Int32) (r_dropped : Int32) (r_minute : Int32) (r_aload : Nat) (r_aheads : Nat) (r_held : Int32) (r_heldDown : Int32) (h_r_told : iv (0) (1) r_told) (h_r_strands : iv (0) (4) r_strands) (h_r_chairs : iv (0) (8) r_chairs) (h_r_sitters : iv (0) (8) r_sitters) : CtI l yX3_hasChair wsX3_hasChair (rmK 1 0 0) [.ref r, .int x1] D k sz ([(r, .inr (2, [.int r_told, .int r_strands, .int r_chairs, .int r_sitters, .ref r_atoldCane, .ref r_aheight, .ref r_astrandOf, .ref r_achairOf, .ref r_aweight, .ref r_acane, .int r_sits, .int r_dropped, .int r_minute, .ref r_aload, .ref r_aheads, .int r_held, .int r_heldDown]))]) (fun (r : Int32) (u : Unit) => iv (0) (1) r ∧ (r.toInt = 0 ∨ 0 ≤ x1.toInt ∧ x1.toInt < r_chairs.toInt)) (fun u : Unit => [(r, .inr (2, [.int r_told, .int r_strands, .int r_chairs, .int r_sitters, .ref r_atoldCane, .ref r_aheight, .ref r_astrandOf, .ref r_achairOf, .ref r_aweight, .ref r_acane, .int r_sits, .int r_dropped, .int r_minute, .ref r_aload, .ref r_aheads, .int r_held, .int r_heldDown]))]) 0 0 := by
  have h_r_told_l := h_r_told.1
  have h_r_told_u := h_r_told.2
  have h_r_strands_l := h_r_strands.1
  have h_r_strands_u := h_r_strands.2
  have h_r_chairs_l := h_r_chairs.1
  have h_r_chairs_u := h_r_chairs.2
  have h_r_sitters_l := h_r_sitters.1
  have h_r_sitters_u := h_r_sitters.2
  refine CtI.mk (cc := cX3_hasChair) (maxL := 2) (ret := (some .boolean)) (by decide) rfl (Nat.le_of_ble_eq_true rfl) ?_
  intro p e s m below meth c A ls E hP hD hS hl
  obtain ⟨hx, hb, hr, hml, hown, hts, hlocks, hin, hG, hA⟩ := E
  have hown : s.vm.findClass RX3 = some m.cls := hown
  have in3 : ∀ w ∈ u_ws RX3 TX3 17, w ∈ wsX3_hasChair := fun _ h => List.mem_cons_of_mem _ (List.mem_append_right _ h)
  have hl : lv_has ls 2 [(0, .ref r), (1, .int x1)] := hl
  refine lv_iload_n hx hb dX3_hasChair_0 rfl (lv_at hl 1 rfl) ?_
  refine lv_if_lt (tgt := 16) hx hb dX3_hasChair_1 (by decide) (fun c1 => ?_) (fun c1 => ?_)
  · have fc1 := cx_lt_t (a := x1.toInt) (b := 0) rfl (by decide) c1
    refine lv_iconst (v := 0) hx hb dX3_hasChair_16 (by decide) ?_
    exact hc_endZ hx hb hr hlocks rfl () ⟨iv_lit (by decide) (by decide), (by have q9 : (0 : Int32).toInt = 0 := (by decide); omega)⟩ hP hD hS dX3_hasChair_17
  · have fc1 := cx_lt_f (a := x1.toInt) (b := 0) rfl (by decide) c1
    refine lv_iload_n hx hb dX3_hasChair_4 rfl (lv_at hl 1 rfl) ?_
    refine lv_aload_n hx hb dX3_hasChair_5 rfl (lv_at hl 0 rfl) ?_
    refine va_get (D := D) (ci := 2) (v := .int r_chairs) (C := RX3) (T := TX3) (N := 17) hx hb hts in3 hown hG.1 hP 0 rfl rfl 2 (by decide) (hts (.fieldLink RX3 19 "ChairCane$Room" "chairs" "I") (by decide +kernel)) (fun _ h9 => h9) rfl dX3_hasChair_6 ?_
    refine lv_icmp_ge (tgt := 16) hx hb dX3_hasChair_9 (by decide) (fun c2 => ?_) (fun c2 => ?_)
    · have fc2 := cx_ge_t (a := x1.toInt) (b := r_chairs.toInt) rfl rfl c2
      refine lv_iconst (v := 0) hx hb dX3_hasChair_16 (by decide) ?_
      exact hc_endZ hx hb hr hlocks rfl () ⟨iv_lit (by decide) (by decide), (by have q9 : (0 : Int32).toInt = 0 := (by decide); omega)⟩ hP hD hS dX3_hasChair_17
    · have fc2 := cx_ge_f (a := x1.toInt) (b := r_chairs.toInt) rfl rfl c2
      refine lv_iconst (v := 1) hx hb dX3_hasChair_12 (by decide) ?_
      refine lv_goto (tgt := 17) hx hb dX3_hasChair_13 (by decide) ?_
      exact hc_endZ hx hb hr hlocks rfl () ⟨iv_lit (by decide) (by decide), (by have q9 : (1 : Int32).toInt = 1 := (by decide); omega)⟩ hP hD hS dX3_hasChair_17
set_option maxHeartbeats 4000000 in
set_option maxRecDepth 100000 in
theorem i_X3_hasSitter (l : Launch) (D : va_G) (k : Nat → ClassId) (sz : Nat) (x1 : Int32) (r : Nat) (r_told : Int32) (r_strands : Int32) (r_chairs : Int32) (r_sitters : Int32) (r_atoldCane : Nat) (r_aheight : Nat) (r_astrandOf : Nat) (r_achairOf : Nat) (r_aweight : Nat) (r_acane : Nat) (r_sits : Int32) (r_dropped : Int32) (r_minute : Int32) (r_aload : Nat) (r_aheads : Nat) (r_held : Int32) (r_heldDown : Int32) (h_r_told : iv (0) (1) r_told) (h_r_strands : iv (0) (4) r_strands) (h_r_chairs : iv (0) (8) r_chairs) (h_r_sitters : iv (0) (8) r_sitters) : CtI l yX3_hasSitter wsX3_hasSitter (rmK 1 0 0) [.ref r, .int x1] D k sz ([(r, .inr (2, [.int r_told, .int r_strands, .int r_chairs, .int r_sitters, .ref r_atoldCane, .ref r_aheight, .ref r_astrandOf, .ref r_achairOf, .ref r_aweight, .ref r_acane, .int r_sits, .int r_dropped, .int r_minute, .ref r_aload, .ref r_aheads, .int r_held, .int r_heldDown]))]) (fun (r : Int32) (u : Unit) => iv (0) (1) r ∧ (r.toInt = 0 ∨ 0 ≤ x1.toInt ∧ x1.toInt < r_sitters.toInt)) (fun u : Unit => [(r, .inr (2, [.int r_told, .int r_strands, .int r_chairs, .int r_sitters, .ref r_atoldCane, .ref r_aheight, .ref r_astrandOf, .ref r_achairOf, .ref r_aweight, .ref r_acane, .int r_sits, .int r_dropped, .int r_minute, .ref r_aload, .ref r_aheads, .int r_held, .int r_heldDown]))]) 0 0 := by
  have h_r_told_l := h_r_told.1
  have h_r_told_u := h_r_told.2
  have h_r_strands_l := h_r_strands.1
  have h_r_strands_u := h_r_strands.2
  have h_r_chairs_l := h_r_chairs.1
  have h_r_chairs_u := h_r_chairs.2
  have h_r_sitters_l := h_r_sitters.1
  have h_r_sitters_u := h_r_sitters.2
  refine CtI.mk (cc := cX3_hasSitter) (maxL := 2) (ret := (some .boolean)) (by decide) rfl (Nat.le_of_ble_eq_true rfl) ?_
  intro p e s m below meth c A ls E hP hD hS hl
  obtain ⟨hx, hb, hr, hml, hown, hts, hlocks, hin, hG, hA⟩ := E
  have hown : s.vm.findClass RX3 = some m.cls := hown
  have in3 : ∀ w ∈ u_ws RX3 TX3 17, w ∈ wsX3_hasSitter := fun _ h => List.mem_cons_of_mem _ (List.mem_append_right _ h)
  have hl : lv_has ls 2 [(0, .ref r), (1, .int x1)] := hl
  refine lv_iload_n hx hb dX3_hasSitter_0 rfl (lv_at hl 1 rfl) ?_
  refine lv_if_lt (tgt := 16) hx hb dX3_hasSitter_1 (by decide) (fun c1 => ?_) (fun c1 => ?_)
  · have fc1 := cx_lt_t (a := x1.toInt) (b := 0) rfl (by decide) c1
    refine lv_iconst (v := 0) hx hb dX3_hasSitter_16 (by decide) ?_
    exact hc_endZ hx hb hr hlocks rfl () ⟨iv_lit (by decide) (by decide), (by have q9 : (0 : Int32).toInt = 0 := (by decide); omega)⟩ hP hD hS dX3_hasSitter_17
  · have fc1 := cx_lt_f (a := x1.toInt) (b := 0) rfl (by decide) c1
    refine lv_iload_n hx hb dX3_hasSitter_4 rfl (lv_at hl 1 rfl) ?_
    refine lv_aload_n hx hb dX3_hasSitter_5 rfl (lv_at hl 0 rfl) ?_
    refine va_get (D := D) (ci := 2) (v := .int r_sitters) (C := RX3) (T := TX3) (N := 17) hx hb hts in3 hown hG.1 hP 0 rfl rfl 3 (by decide) (hts (.fieldLink RX3 22 "ChairCane$Room" "sitters" "I") (by decide +kernel)) (fun _ h9 => h9) rfl dX3_hasSitter_6 ?_
    refine lv_icmp_ge (tgt := 16) hx hb dX3_hasSitter_9 (by decide) (fun c2 => ?_) (fun c2 => ?_)
    · have fc2 := cx_ge_t (a := x1.toInt) (b := r_sitters.toInt) rfl rfl c2
      refine lv_iconst (v := 0) hx hb dX3_hasSitter_16 (by decide) ?_
      exact hc_endZ hx hb hr hlocks rfl () ⟨iv_lit (by decide) (by decide), (by have q9 : (0 : Int32).toInt = 0 := (by decide); omega)⟩ hP hD hS dX3_hasSitter_17
    · have fc2 := cx_ge_f (a := x1.toInt) (b := r_sitters.toInt) rfl rfl c2
      refine lv_iconst (v := 1) hx hb dX3_hasSitter_12 (by decide) ?_
      refine lv_goto (tgt := 17) hx hb dX3_hasSitter_13 (by decide) ?_
      exact hc_endZ hx hb hr hlocks rfl () ⟨iv_lit (by decide) (by decide), (by have q9 : (1 : Int32).toInt = 1 := (by decide); omega)⟩ hP hD hS dX3_hasSitter_17
set_option maxHeartbeats 4000000 in
set_option maxRecDepth 100000 in
theorem i_X3_isUp (l : Launch) (D : va_G) (k : Nat → ClassId) (sz : Nat) (x1 : Int32) (r : Nat) (r_told : Int32) (r_strands : Int32) (r_chairs : Int32) (r_sitters : Int32) (r_atoldCane : Nat) (r_aheight : Nat) (r_astrandOf : Nat) (r_achairOf : Nat) (r_aweight : Nat) (r_acane : Nat) (r_sits : Int32) (r_dropped : Int32) (r_minute : Int32) (r_aload : Nat) (r_aheads : Nat) (r_held : Int32) (r_heldDown : Int32) (h_r_told : iv (0) (1) r_told) (h_r_strands : iv (0) (4) r_strands) (h_r_chairs : iv (0) (8) r_chairs) (h_r_sitters : iv (0) (8) r_sitters) : CtI l yX3_isUp wsX3_isUp (rmK 1 0 0) [.ref r, .int x1] D k sz ([(r, .inr (2, [.int r_told, .int r_strands, .int r_chairs, .int r_sitters, .ref r_atoldCane, .ref r_aheight, .ref r_astrandOf, .ref r_achairOf, .ref r_aweight, .ref r_acane, .int r_sits, .int r_dropped, .int r_minute, .ref r_aload, .ref r_aheads, .int r_held, .int r_heldDown]))]) (fun (r : Int32) (u : Unit) => iv (0) (1) r ∧ (r.toInt = 0 ∨ 0 ≤ x1.toInt ∧ x1.toInt < r_sitters.toInt)) (fun u : Unit => [(r, .inr (2, [.int r_told, .int r_strands, .int r_chairs, .int r_sitters, .ref r_atoldCane, .ref r_aheight, .ref r_astrandOf, .ref r_achairOf, .ref r_aweight, .ref r_acane, .int r_sits, .int r_dropped, .int r_minute, .ref r_aload, .ref r_aheads, .int r_held, .int r_heldDown]))]) 0 0 := by
  have h_r_told_l := h_r_told.1
  have h_r_told_u := h_r_told.2
  have h_r_strands_l := h_r_strands.1
  have h_r_strands_u := h_r_strands.2
  have h_r_chairs_l := h_r_chairs.1
  have h_r_chairs_u := h_r_chairs.2
  have h_r_sitters_l := h_r_sitters.1
  have h_r_sitters_u := h_r_sitters.2
  refine CtI.mk (cc := cX3_isUp) (maxL := 2) (ret := (some .boolean)) (by decide) rfl (Nat.le_of_ble_eq_true rfl) ?_
  intro p e s m below meth c A ls E hP hD hS hl
  obtain ⟨hx, hb, hr, hml, hown, hts, hlocks, hin, hG, hA⟩ := E
  have hown : s.vm.findClass RX3 = some m.cls := hown
  have in3 : ∀ w ∈ u_ws RX3 TX3 17, w ∈ wsX3_isUp := fun _ h => List.mem_cons_of_mem _ (List.mem_append_right _ h)
  have hl : lv_has ls 2 [(0, .ref r), (1, .int x1)] := hl
  refine lv_iload_n hx hb dX3_isUp_0 rfl (lv_at hl 1 rfl) ?_
  refine lv_if_lt (tgt := 27) hx hb dX3_isUp_1 (by decide) (fun c1 => ?_) (fun c1 => ?_)
  · have fc1 := cx_lt_t (a := x1.toInt) (b := 0) rfl (by decide) c1
    refine lv_iconst (v := 0) hx hb dX3_isUp_27 (by decide) ?_
    exact hc_endZ hx hb hr hlocks rfl () ⟨iv_lit (by decide) (by decide), (by have q9 : (0 : Int32).toInt = 0 := (by decide); omega)⟩ hP hD hS dX3_isUp_28
  · have fc1 := cx_lt_f (a := x1.toInt) (b := 0) rfl (by decide) c1
    refine lv_iload_n hx hb dX3_isUp_4 rfl (lv_at hl 1 rfl) ?_
    refine lv_aload_n hx hb dX3_isUp_5 rfl (lv_at hl 0 rfl) ?_
    refine va_get (D := D) (ci := 2) (v := .int r_sitters) (C := RX3) (T := TX3) (N := 17) hx hb hts in3 hown hG.1 hP 0 rfl rfl 3 (by decide) (hts (.fieldLink RX3 22 "ChairCane$Room" "sitters" "I") (by decide +kernel)) (fun _ h9 => h9) rfl dX3_isUp_6 ?_
    refine lv_icmp_ge (tgt := 27) hx hb dX3_isUp_9 (by decide) (fun c2 => ?_) (fun c2 => ?_)
    · have fc2 := cx_ge_t (a := x1.toInt) (b := r_sitters.toInt) rfl rfl c2
      refine lv_iconst (v := 0) hx hb dX3_isUp_27 (by decide) ?_
      exact hc_endZ hx hb hr hlocks rfl () ⟨iv_lit (by decide) (by decide), (by have q9 : (0 : Int32).toInt = 0 := (by decide); omega)⟩ hP hD hS dX3_isUp_28
    · have fc2 := cx_ge_f (a := x1.toInt) (b := r_sitters.toInt) rfl rfl c2
      refine lv_aload_n hx hb dX3_isUp_12 rfl (lv_at hl 0 rfl) ?_
      refine va_get (D := D) (ci := 2) (v := .int r_dropped) (C := RX3) (T := TX3) (N := 17) hx hb hts in3 hown hG.1 hP 0 rfl rfl 11 (by decide) (hts (.fieldLink RX3 47 "ChairCane$Room" "dropped" "I") (by decide +kernel)) (fun _ h9 => h9) rfl dX3_isUp_13 ?_
      refine lv_iload_n hx hb dX3_isUp_16 rfl (lv_at hl 1 rfl) ?_
      refine lv_ishr hx hb dX3_isUp_17 ?_
      refine lv_topi (fun z3 ez3 => ?_)
      refine lv_iconst (v := 1) hx hb dX3_isUp_18 (by decide) ?_
      refine lv_iand hx hb dX3_isUp_19 ?_
      refine lv_topi (fun z4 ez4 => ?_)
      have bz4 : iv (0) (1) z4 := ai_mask 1 (by decide) (by decide) ez4
      have bz4_l := bz4.1
      have bz4_u := bz4.2
      refine lv_if_ne (tgt := 27) hx hb dX3_isUp_20 (by decide) (fun c5 => ?_) (fun c5 => ?_)
      · have fc5 := cx_ne_t (a := z4.toInt) (b := 0) rfl (by decide) c5
        refine lv_iconst (v := 0) hx hb dX3_isUp_27 (by decide) ?_
        exact hc_endZ hx hb hr hlocks rfl () ⟨iv_lit (by decide) (by decide), (by have q9 : (0 : Int32).toInt = 0 := (by decide); omega)⟩ hP hD hS dX3_isUp_28
      · have fc5 := cx_ne_f (a := z4.toInt) (b := 0) rfl (by decide) c5
        refine lv_iconst (v := 1) hx hb dX3_isUp_23 (by decide) ?_
        refine lv_goto (tgt := 28) hx hb dX3_isUp_24 (by decide) ?_
        exact hc_endZ hx hb hr hlocks rfl () ⟨iv_lit (by decide) (by decide), (by have q9 : (1 : Int32).toInt = 1 := (by decide); omega)⟩ hP hD hS dX3_isUp_28
set_option maxHeartbeats 4000000 in
set_option maxRecDepth 100000 in
theorem i_X3_isDown (l : Launch) (D : va_G) (k : Nat → ClassId) (sz : Nat) (x1 : Int32) (r : Nat) (r_told : Int32) (r_strands : Int32) (r_chairs : Int32) (r_sitters : Int32) (r_atoldCane : Nat) (r_aheight : Nat) (r_astrandOf : Nat) (r_achairOf : Nat) (r_aweight : Nat) (r_acane : Nat) (r_sits : Int32) (r_dropped : Int32) (r_minute : Int32) (r_aload : Nat) (r_aheads : Nat) (r_held : Int32) (r_heldDown : Int32) (h_r_told : iv (0) (1) r_told) (h_r_strands : iv (0) (4) r_strands) (h_r_chairs : iv (0) (8) r_chairs) (h_r_sitters : iv (0) (8) r_sitters) : CtI l yX3_isDown wsX3_isDown (rmK 1 0 0) [.ref r, .int x1] D k sz ([(r, .inr (2, [.int r_told, .int r_strands, .int r_chairs, .int r_sitters, .ref r_atoldCane, .ref r_aheight, .ref r_astrandOf, .ref r_achairOf, .ref r_aweight, .ref r_acane, .int r_sits, .int r_dropped, .int r_minute, .ref r_aload, .ref r_aheads, .int r_held, .int r_heldDown]))]) (fun (r : Int32) (u : Unit) => iv (0) (1) r ∧ (r.toInt = 0 ∨ 0 ≤ x1.toInt ∧ x1.toInt < r_sitters.toInt)) (fun u : Unit => [(r, .inr (2, [.int r_told, .int r_strands, .int r_chairs, .int r_sitters, .ref r_atoldCane, .ref r_aheight, .ref r_astrandOf, .ref r_achairOf, .ref r_aweight, .ref r_acane, .int r_sits, .int r_dropped, .int r_minute, .ref r_aload, .ref r_aheads, .int r_held, .int r_heldDown]))]) 0 0 := by
  have h_r_told_l := h_r_told.1
  have h_r_told_u := h_r_told.2
  have h_r_strands_l := h_r_strands.1
  have h_r_strands_u := h_r_strands.2
  have h_r_chairs_l := h_r_chairs.1
  have h_r_chairs_u := h_r_chairs.2
  have h_r_sitters_l := h_r_sitters.1
  have h_r_sitters_u := h_r_sitters.2
  refine CtI.mk (cc := cX3_isDown) (maxL := 2) (ret := (some .boolean)) (by decide) rfl (Nat.le_of_ble_eq_true rfl) ?_
  intro p e s m below meth c A ls E hP hD hS hl
  obtain ⟨hx, hb, hr, hml, hown, hts, hlocks, hin, hG, hA⟩ := E
  have hown : s.vm.findClass RX3 = some m.cls := hown
  have in3 : ∀ w ∈ u_ws RX3 TX3 17, w ∈ wsX3_isDown := fun _ h => List.mem_cons_of_mem _ (List.mem_append_right _ h)
  have hl : lv_has ls 2 [(0, .ref r), (1, .int x1)] := hl
  refine lv_iload_n hx hb dX3_isDown_0 rfl (lv_at hl 1 rfl) ?_
  refine lv_if_lt (tgt := 27) hx hb dX3_isDown_1 (by decide) (fun c1 => ?_) (fun c1 => ?_)
  · have fc1 := cx_lt_t (a := x1.toInt) (b := 0) rfl (by decide) c1
    refine lv_iconst (v := 0) hx hb dX3_isDown_27 (by decide) ?_
    exact hc_endZ hx hb hr hlocks rfl () ⟨iv_lit (by decide) (by decide), (by have q9 : (0 : Int32).toInt = 0 := (by decide); omega)⟩ hP hD hS dX3_isDown_28
  · have fc1 := cx_lt_f (a := x1.toInt) (b := 0) rfl (by decide) c1
    refine lv_iload_n hx hb dX3_isDown_4 rfl (lv_at hl 1 rfl) ?_
    refine lv_aload_n hx hb dX3_isDown_5 rfl (lv_at hl 0 rfl) ?_
    refine va_get (D := D) (ci := 2) (v := .int r_sitters) (C := RX3) (T := TX3) (N := 17) hx hb hts in3 hown hG.1 hP 0 rfl rfl 3 (by decide) (hts (.fieldLink RX3 22 "ChairCane$Room" "sitters" "I") (by decide +kernel)) (fun _ h9 => h9) rfl dX3_isDown_6 ?_
    refine lv_icmp_ge (tgt := 27) hx hb dX3_isDown_9 (by decide) (fun c2 => ?_) (fun c2 => ?_)
    · have fc2 := cx_ge_t (a := x1.toInt) (b := r_sitters.toInt) rfl rfl c2
      refine lv_iconst (v := 0) hx hb dX3_isDown_27 (by decide) ?_
      exact hc_endZ hx hb hr hlocks rfl () ⟨iv_lit (by decide) (by decide), (by have q9 : (0 : Int32).toInt = 0 := (by decide); omega)⟩ hP hD hS dX3_isDown_28
    · have fc2 := cx_ge_f (a := x1.toInt) (b := r_sitters.toInt) rfl rfl c2
      refine lv_aload_n hx hb dX3_isDown_12 rfl (lv_at hl 0 rfl) ?_
      refine va_get (D := D) (ci := 2) (v := .int r_sits) (C := RX3) (T := TX3) (N := 17) hx hb hts in3 hown hG.1 hP 0 rfl rfl 10 (by decide) (hts (.fieldLink RX3 44 "ChairCane$Room" "sits" "I") (by decide +kernel)) (fun _ h9 => h9) rfl dX3_isDown_13 ?_
      refine lv_iload_n hx hb dX3_isDown_16 rfl (lv_at hl 1 rfl) ?_
      refine lv_ishr hx hb dX3_isDown_17 ?_
      refine lv_topi (fun z3 ez3 => ?_)
      refine lv_iconst (v := 1) hx hb dX3_isDown_18 (by decide) ?_
      refine lv_iand hx hb dX3_isDown_19 ?_
      refine lv_topi (fun z4 ez4 => ?_)
      have bz4 : iv (0) (1) z4 := ai_mask 1 (by decide) (by decide) ez4
      have bz4_l := bz4.1
      have bz4_u := bz4.2
      refine lv_if_eq (tgt := 27) hx hb dX3_isDown_20 (by decide) (fun c5 => ?_) (fun c5 => ?_)
      · have fc5 := cx_eq_t (a := z4.toInt) (b := 0) rfl (by decide) c5
        refine lv_iconst (v := 0) hx hb dX3_isDown_27 (by decide) ?_
        exact hc_endZ hx hb hr hlocks rfl () ⟨iv_lit (by decide) (by decide), (by have q9 : (0 : Int32).toInt = 0 := (by decide); omega)⟩ hP hD hS dX3_isDown_28
      · have fc5 := cx_eq_f (a := z4.toInt) (b := 0) rfl (by decide) c5
        refine lv_iconst (v := 1) hx hb dX3_isDown_23 (by decide) ?_
        refine lv_goto (tgt := 28) hx hb dX3_isDown_24 (by decide) ?_
        exact hc_endZ hx hb hr hlocks rfl () ⟨iv_lit (by decide) (by decide), (by have q9 : (1 : Int32).toInt = 1 := (by decide); omega)⟩ hP hD hS dX3_isDown_28
set_option maxHeartbeats 4000000 in
set_option maxRecDepth 100000 in
theorem i_X3_stateOf (l : Launch) (D : va_G) (k : Nat → ClassId) (sz : Nat) (x1 : Int32) (r : Nat) (r_told : Int32) (r_strands : Int32) (r_chairs : Int32) (r_sitters : Int32) (r_atoldCane : Nat) (r_aheight : Nat) (r_astrandOf : Nat) (r_achairOf : Nat) (r_aweight : Nat) (r_acane : Nat) (r_sits : Int32) (r_dropped : Int32) (r_minute : Int32) (r_aload : Nat) (r_aheads : Nat) (r_held : Int32) (r_heldDown : Int32) (h_r_told : iv (0) (1) r_told) (h_r_strands : iv (0) (4) r_strands) (h_r_chairs : iv (0) (8) r_chairs) (h_r_sitters : iv (0) (8) r_sitters) : CtI l yX3_stateOf wsX3_stateOf (rmK 2 0 0) [.ref r, .int x1] D k sz ([(r, .inr (2, [.int r_told, .int r_strands, .int r_chairs, .int r_sitters, .ref r_atoldCane, .ref r_aheight, .ref r_astrandOf, .ref r_achairOf, .ref r_aweight, .ref r_acane, .int r_sits, .int r_dropped, .int r_minute, .ref r_aload, .ref r_aheads, .int r_held, .int r_heldDown]))]) (fun (r : Int32) (u : Unit) => iv (-1) (2) r) (fun u : Unit => [(r, .inr (2, [.int r_told, .int r_strands, .int r_chairs, .int r_sitters, .ref r_atoldCane, .ref r_aheight, .ref r_astrandOf, .ref r_achairOf, .ref r_aweight, .ref r_acane, .int r_sits, .int r_dropped, .int r_minute, .ref r_aload, .ref r_aheads, .int r_held, .int r_heldDown]))]) 0 0 := by
  have h_r_told_l := h_r_told.1
  have h_r_told_u := h_r_told.2
  have h_r_strands_l := h_r_strands.1
  have h_r_strands_u := h_r_strands.2
  have h_r_chairs_l := h_r_chairs.1
  have h_r_chairs_u := h_r_chairs.2
  have h_r_sitters_l := h_r_sitters.1
  have h_r_sitters_u := h_r_sitters.2
  refine CtI.mk (cc := cX3_stateOf) (maxL := 2) (ret := (some .int)) (by decide) rfl (Nat.le_of_ble_eq_true rfl) ?_
  intro p e s m below meth c A ls E hP hD hS hl
  obtain ⟨hx, hb, hr, hml, hown, hts, hlocks, hin, hG, hA⟩ := E
  have hown : s.vm.findClass RX3 = some m.cls := hown
  have in3 : ∀ w ∈ u_ws RX3 TX3 17, w ∈ wsX3_stateOf := fun _ h => List.mem_cons_of_mem _ (List.mem_append_right _ h)
  have hl : lv_has ls 2 [(0, .ref r), (1, .int x1)] := hl
  refine lv_aload_n hx hb dX3_stateOf_0 rfl (lv_at hl 0 rfl) ?_
  refine lv_iload_n hx hb dX3_stateOf_1 rfl (lv_at hl 1 rfl) ?_
  refine hc_Vi (As := [.int x1]) (rest := []) (n := 1) (wr := []) hx hb hml hown hts hG hA hP hD hS hl.1 [0] [] (i_X3_hasSitter l D k _ x1 r r_told r_strands r_chairs r_sitters r_atoldCane r_aheight r_astrandOf r_achairOf r_aweight r_acane r_sits r_dropped r_minute r_aload r_aheads r_held r_heldDown ⟨by omega, by omega⟩ ⟨by omega, by omega⟩ ⟨by omega, by omega⟩ ⟨by omega, by omega⟩) (ci := 2) (q0 := 0) rfl rfl gX3_stateOf_X3_hasSitter rfl ⟨rfl, rfl, Nat.le_of_ble_eq_true rfl, Nat.le_of_ble_eq_true rfl⟩ (by decide +kernel) rfl rfl ⟨by decide, by decide, by decide⟩ ⟨rfl, rfl, Nat.le_of_ble_eq_true rfl, Nat.le_of_ble_eq_true rfl, Nat.le_of_ble_eq_true rfl⟩ dX3_stateOf_2 (fun r2 u1 H locs hw hP hD hS => ?_)
  have hP : va_P D vwCl ([(r, .inr (2, [.int r_told, .int r_strands, .int r_chairs, .int r_sitters, .ref r_atoldCane, .ref r_aheight, .ref r_astrandOf, .ref r_achairOf, .ref r_aweight, .ref r_acane, .int r_sits, .int r_dropped, .int r_minute, .ref r_aload, .ref r_aheads, .int r_held, .int r_heldDown]))]) H := hP
  have hD : va_D A ([(r, .inr (2, [.int r_told, .int r_strands, .int r_chairs, .int r_sitters, .ref r_atoldCane, .ref r_aheight, .ref r_astrandOf, .ref r_achairOf, .ref r_aweight, .ref r_acane, .int r_sits, .int r_dropped, .int r_minute, .ref r_aload, .ref r_aheads, .int r_held, .int r_heldDown]))]) := hD
  obtain ⟨br2, rel3⟩ := hw
  have br2 : iv (0) (1) r2 := br2
  have br2_l := br2.1
  have br2_u := br2.2
  refine lv_if_ne (tgt := 10) hx hb dX3_stateOf_5 (by decide) (fun c4 => ?_) (fun c4 => ?_)
  · have fc4 := cx_ne_t (a := r2.toInt) (b := 0) rfl (by decide) c4
    refine lv_aload_n hx hb dX3_stateOf_10 rfl (lv_at hl 0 rfl) ?_
    refine va_get (D := D) (ci := 2) (v := .int r_dropped) (C := RX3) (T := TX3) (N := 17) hx hb hts in3 hown hG.1 hP 0 rfl rfl 11 (by decide) (hts (.fieldLink RX3 47 "ChairCane$Room" "dropped" "I") (by decide +kernel)) (fun _ h9 => h9) rfl dX3_stateOf_11 ?_
    refine lv_iload_n hx hb dX3_stateOf_14 rfl (lv_at hl 1 rfl) ?_
    refine lv_ishr hx hb dX3_stateOf_15 ?_
    refine lv_topi (fun z5 ez5 => ?_)
    refine lv_iconst (v := 1) hx hb dX3_stateOf_16 (by decide) ?_
    refine lv_iand hx hb dX3_stateOf_17 ?_
    refine lv_topi (fun z6 ez6 => ?_)
    have bz6 : iv (0) (1) z6 := ai_mask 1 (by decide) (by decide) ez6
    have bz6_l := bz6.1
    have bz6_u := bz6.2
    refine lv_if_eq (tgt := 23) hx hb dX3_stateOf_18 (by decide) (fun c7 => ?_) (fun c7 => ?_)
    · have fc7 := cx_eq_t (a := z6.toInt) (b := 0) rfl (by decide) c7
      refine lv_aload_n hx hb dX3_stateOf_23 rfl (lv_at hl 0 rfl) ?_
      refine va_get (D := D) (ci := 2) (v := .int r_sits) (C := RX3) (T := TX3) (N := 17) hx hb hts in3 hown hG.1 hP 0 rfl rfl 10 (by decide) (hts (.fieldLink RX3 44 "ChairCane$Room" "sits" "I") (by decide +kernel)) (fun _ h9 => h9) rfl dX3_stateOf_24 ?_
      refine lv_iload_n hx hb dX3_stateOf_27 rfl (lv_at hl 1 rfl) ?_
      refine lv_ishr hx hb dX3_stateOf_28 ?_
      refine lv_topi (fun z8 ez8 => ?_)
      refine lv_iconst (v := 1) hx hb dX3_stateOf_29 (by decide) ?_
      refine lv_iand hx hb dX3_stateOf_30 ?_
      refine lv_topi (fun z9 ez9 => ?_)
      have bz9 : iv (0) (1) z9 := ai_mask 1 (by decide) (by decide) ez9
      have bz9_l := bz9.1
      have bz9_u := bz9.2
      refine lv_if_eq (tgt := 38) hx hb dX3_stateOf_31 (by decide) (fun c10 => ?_) (fun c10 => ?_)
      · have fc10 := cx_eq_t (a := z9.toInt) (b := 0) rfl (by decide) c10
        refine lv_iconst (v := 0) hx hb dX3_stateOf_38 (by decide) ?_
        exact hc_end hx hb hr hlocks () (iv_lit (by decide) (by decide)) hP hD hS dX3_stateOf_39
      · have fc10 := cx_eq_f (a := z9.toInt) (b := 0) rfl (by decide) c10
        refine lv_iconst (v := 1) hx hb dX3_stateOf_34 (by decide) ?_
        refine lv_goto (tgt := 39) hx hb dX3_stateOf_35 (by decide) ?_
        exact hc_end hx hb hr hlocks () (iv_lit (by decide) (by decide)) hP hD hS dX3_stateOf_39
    · have fc7 := cx_eq_f (a := z6.toInt) (b := 0) rfl (by decide) c7
      refine lv_iconst (v := 2) hx hb dX3_stateOf_21 (by decide) ?_
      exact hc_end hx hb hr hlocks () (iv_lit (by decide) (by decide)) hP hD hS dX3_stateOf_22
  · have fc4 := cx_ne_f (a := r2.toInt) (b := 0) rfl (by decide) c4
    refine lv_iconst (v := (-1)) hx hb dX3_stateOf_8 (by decide) ?_
    exact hc_end hx hb hr hlocks () (iv_lit (by decide) (by decide)) hP hD hS dX3_stateOf_9
set_option maxHeartbeats 4000000 in
set_option maxRecDepth 100000 in
theorem i_X3_clear (l : Launch) (D : va_G) (k : Nat → ClassId) (sz : Nat) (r : Nat) (r_told : Int32) (r_strands : Int32) (r_chairs : Int32) (r_sitters : Int32) (r_atoldCane : Nat) (r_aheight : Nat) (r_astrandOf : Nat) (r_achairOf : Nat) (r_aweight : Nat) (r_acane : Nat) (r_sits : Int32) (r_dropped : Int32) (r_minute : Int32) (r_aload : Nat) (r_aheads : Nat) (r_held : Int32) (r_heldDown : Int32) (h_r_told : iv (0) (1) r_told) (h_r_strands : iv (0) (4) r_strands) (h_r_chairs : iv (0) (8) r_chairs) (h_r_sitters : iv (0) (8) r_sitters) : CtV l yX3_clear wsX3_clear (rmK 1 0 0) [.ref r] D k sz ([(r, .inr (2, [.int r_told, .int r_strands, .int r_chairs, .int r_sitters, .ref r_atoldCane, .ref r_aheight, .ref r_astrandOf, .ref r_achairOf, .ref r_aweight, .ref r_acane, .int r_sits, .int r_dropped, .int r_minute, .ref r_aload, .ref r_aheads, .int r_held, .int r_heldDown]))]) (fun u : (Int32) × (Int32) × (Int32) × (Int32) => iv (0) (1) (u.1) ∧ iv (0) (4) (u.2.1) ∧ iv (0) (8) (u.2.2.1) ∧ iv (0) (8) (u.2.2.2)) (fun u : (Int32) × (Int32) × (Int32) × (Int32) => [(r, .inr (2, [.int (u.1), .int (u.2.1), .int (u.2.2.1), .int (u.2.2.2), .ref r_atoldCane, .ref r_aheight, .ref r_astrandOf, .ref r_achairOf, .ref r_aweight, .ref r_acane, .int r_sits, .int r_dropped, .int r_minute, .ref r_aload, .ref r_aheads, .int r_held, .int r_heldDown]))]) 0 0 := by
  have h_r_told_l := h_r_told.1
  have h_r_told_u := h_r_told.2
  have h_r_strands_l := h_r_strands.1
  have h_r_strands_u := h_r_strands.2
  have h_r_chairs_l := h_r_chairs.1
  have h_r_chairs_u := h_r_chairs.2
  have h_r_sitters_l := h_r_sitters.1
  have h_r_sitters_u := h_r_sitters.2
  refine CtV.mk (cc := cX3_clear) (maxL := 1) (ret := none) (by decide) rfl (Nat.le_of_ble_eq_true rfl) ?_
  intro p e s m below meth c A ls E hP hD hS hl
  obtain ⟨hx, hb, hr, hml, hown, hts, hlocks, hin, hG, hA⟩ := E
  have hown : s.vm.findClass RX3 = some m.cls := hown
  have in3 : ∀ w ∈ u_ws RX3 TX3 17, w ∈ wsX3_clear := fun _ h => List.mem_cons_of_mem _ (List.mem_append_right _ h)
  have hl : lv_has ls 1 [(0, .ref r)] := hl
  refine lv_aload_n hx hb dX3_clear_0 rfl (lv_at hl 0 rfl) ?_
  refine lv_iconst (v := 0) hx hb dX3_clear_1 (by decide) ?_
  refine va_put (D := D) (ci := 2) (v := .int 0) (C := RX3) (T := TX3) (N := 17) hx hb hts in3 tyX3 tyX3_ok nmX3 hown hG.1 hP hD hS 0 rfl rfl 0 (by decide) (hts (.fieldLink RX3 9 "ChairCane$Room" "told" "Z") (by decide +kernel)) (fun _ h9 => h9) rfl (tyX3_ok 0 (by decide)) rfl rfl (Nat.le_of_ble_eq_true rfl) dX3_clear_2 (fun H locs hP hD hS => ?_)
  have hP : va_P D vwCl ([(r, .inr (2, [.int 0, .int r_strands, .int r_chairs, .int r_sitters, .ref r_atoldCane, .ref r_aheight, .ref r_astrandOf, .ref r_achairOf, .ref r_aweight, .ref r_acane, .int r_sits, .int r_dropped, .int r_minute, .ref r_aload, .ref r_aheads, .int r_held, .int r_heldDown]))]) H := hP
  have hD : va_D A ([(r, .inr (2, [.int 0, .int r_strands, .int r_chairs, .int r_sitters, .ref r_atoldCane, .ref r_aheight, .ref r_astrandOf, .ref r_achairOf, .ref r_aweight, .ref r_acane, .int r_sits, .int r_dropped, .int r_minute, .ref r_aload, .ref r_aheads, .int r_held, .int r_heldDown]))]) := hD
  refine lv_aload_n hx hb dX3_clear_5 rfl (lv_at hl 0 rfl) ?_
  refine lv_iconst (v := 0) hx hb dX3_clear_6 (by decide) ?_
  refine va_put (D := D) (ci := 2) (v := .int 0) (C := RX3) (T := TX3) (N := 17) hx hb hts in3 tyX3 tyX3_ok nmX3 hown hG.1 hP hD hS 0 rfl rfl 1 (by decide) (hts (.fieldLink RX3 15 "ChairCane$Room" "strands" "I") (by decide +kernel)) (fun _ h9 => h9) rfl (tyX3_ok 1 (by decide)) rfl rfl (Nat.le_of_ble_eq_true rfl) dX3_clear_7 (fun H locs hP hD hS => ?_)
  have hP : va_P D vwCl ([(r, .inr (2, [.int 0, .int 0, .int r_chairs, .int r_sitters, .ref r_atoldCane, .ref r_aheight, .ref r_astrandOf, .ref r_achairOf, .ref r_aweight, .ref r_acane, .int r_sits, .int r_dropped, .int r_minute, .ref r_aload, .ref r_aheads, .int r_held, .int r_heldDown]))]) H := hP
  have hD : va_D A ([(r, .inr (2, [.int 0, .int 0, .int r_chairs, .int r_sitters, .ref r_atoldCane, .ref r_aheight, .ref r_astrandOf, .ref r_achairOf, .ref r_aweight, .ref r_acane, .int r_sits, .int r_dropped, .int r_minute, .ref r_aload, .ref r_aheads, .int r_held, .int r_heldDown]))]) := hD
  refine lv_aload_n hx hb dX3_clear_10 rfl (lv_at hl 0 rfl) ?_
  refine lv_iconst (v := 0) hx hb dX3_clear_11 (by decide) ?_
  refine va_put (D := D) (ci := 2) (v := .int 0) (C := RX3) (T := TX3) (N := 17) hx hb hts in3 tyX3 tyX3_ok nmX3 hown hG.1 hP hD hS 0 rfl rfl 2 (by decide) (hts (.fieldLink RX3 19 "ChairCane$Room" "chairs" "I") (by decide +kernel)) (fun _ h9 => h9) rfl (tyX3_ok 2 (by decide)) rfl rfl (Nat.le_of_ble_eq_true rfl) dX3_clear_12 (fun H locs hP hD hS => ?_)
  have hP : va_P D vwCl ([(r, .inr (2, [.int 0, .int 0, .int 0, .int r_sitters, .ref r_atoldCane, .ref r_aheight, .ref r_astrandOf, .ref r_achairOf, .ref r_aweight, .ref r_acane, .int r_sits, .int r_dropped, .int r_minute, .ref r_aload, .ref r_aheads, .int r_held, .int r_heldDown]))]) H := hP
  have hD : va_D A ([(r, .inr (2, [.int 0, .int 0, .int 0, .int r_sitters, .ref r_atoldCane, .ref r_aheight, .ref r_astrandOf, .ref r_achairOf, .ref r_aweight, .ref r_acane, .int r_sits, .int r_dropped, .int r_minute, .ref r_aload, .ref r_aheads, .int r_held, .int r_heldDown]))]) := hD
  refine lv_aload_n hx hb dX3_clear_15 rfl (lv_at hl 0 rfl) ?_
  refine lv_iconst (v := 0) hx hb dX3_clear_16 (by decide) ?_
  refine va_put (D := D) (ci := 2) (v := .int 0) (C := RX3) (T := TX3) (N := 17) hx hb hts in3 tyX3 tyX3_ok nmX3 hown hG.1 hP hD hS 0 rfl rfl 3 (by decide) (hts (.fieldLink RX3 22 "ChairCane$Room" "sitters" "I") (by decide +kernel)) (fun _ h9 => h9) rfl (tyX3_ok 3 (by decide)) rfl rfl (Nat.le_of_ble_eq_true rfl) dX3_clear_17 (fun H locs hP hD hS => ?_)
  have hP : va_P D vwCl ([(r, .inr (2, [.int 0, .int 0, .int 0, .int 0, .ref r_atoldCane, .ref r_aheight, .ref r_astrandOf, .ref r_achairOf, .ref r_aweight, .ref r_acane, .int r_sits, .int r_dropped, .int r_minute, .ref r_aload, .ref r_aheads, .int r_held, .int r_heldDown]))]) H := hP
  have hD : va_D A ([(r, .inr (2, [.int 0, .int 0, .int 0, .int 0, .ref r_atoldCane, .ref r_aheight, .ref r_astrandOf, .ref r_achairOf, .ref r_aweight, .ref r_acane, .int r_sits, .int r_dropped, .int r_minute, .ref r_aload, .ref r_aheads, .int r_held, .int r_heldDown]))]) := hD
  exact hc_endV hx hb hr hlocks (0, 0, 0, 0) ⟨(show iv (0) (1) 0 from iv_lit (by decide) (by decide)), (show iv (0) (4) 0 from iv_lit (by decide) (by decide)), (show iv (0) (8) 0 from iv_lit (by decide) (by decide)), (show iv (0) (8) 0 from iv_lit (by decide) (by decide))⟩ hP hD hS dX3_clear_20
set_option maxHeartbeats 4000000 in
set_option maxRecDepth 100000 in
theorem i_X3_sitterOn (l : Launch) (D : va_G) (k : Nat → ClassId) (sz : Nat) (x1 : Int32) (r : Nat) (r_told : Int32) (r_strands : Int32) (r_chairs : Int32) (r_sitters : Int32) (r_atoldCane : Nat) (r_aheight : Nat) (r_astrandOf : Nat) (r_achairOf : Nat) (r_aweight : Nat) (r_acane : Nat) (r_sits : Int32) (r_dropped : Int32) (r_minute : Int32) (r_aload : Nat) (r_aheads : Nat) (r_held : Int32) (r_heldDown : Int32) (r_rchairOf : Nat → Int32) (h_r_told : iv (0) (1) r_told) (h_r_strands : iv (0) (4) r_strands) (h_r_chairs : iv (0) (8) r_chairs) (h_r_sitters : iv (0) (8) r_sitters) (h_r_rchairOf : rowIn (0) (7) r_rchairOf) : CtI l yX3_sitterOn wsX3_sitterOn (rmK 1 0 0) [.ref r, .int x1] D k sz ([(r, .inr (2, [.int r_told, .int r_strands, .int r_chairs, .int r_sitters, .ref r_atoldCane, .ref r_aheight, .ref r_astrandOf, .ref r_achairOf, .ref r_aweight, .ref r_acane, .int r_sits, .int r_dropped, .int r_minute, .ref r_aload, .ref r_aheads, .int r_held, .int r_heldDown])), (r_achairOf, hcI k 8 r_rchairOf)]) (fun (r : Int32) (u : Unit) => iv (-1) (7) r) (fun u : Unit => [(r, .inr (2, [.int r_told, .int r_strands, .int r_chairs, .int r_sitters, .ref r_atoldCane, .ref r_aheight, .ref r_astrandOf, .ref r_achairOf, .ref r_aweight, .ref r_acane, .int r_sits, .int r_dropped, .int r_minute, .ref r_aload, .ref r_aheads, .int r_held, .int r_heldDown])), (r_achairOf, hcI k 8 r_rchairOf)]) 0 0 := by
  have h_r_told_l := h_r_told.1
  have h_r_told_u := h_r_told.2
  have h_r_strands_l := h_r_strands.1
  have h_r_strands_u := h_r_strands.2
  have h_r_chairs_l := h_r_chairs.1
  have h_r_chairs_u := h_r_chairs.2
  have h_r_sitters_l := h_r_sitters.1
  have h_r_sitters_u := h_r_sitters.2
  refine CtI.mk (cc := cX3_sitterOn) (maxL := 3) (ret := (some .int)) (by decide) rfl (Nat.le_of_ble_eq_true rfl) ?_
  intro p e s m below meth c A ls E hP hD hS hl
  obtain ⟨hx, hb, hr, hml, hown, hts, hlocks, hin, hG, hA⟩ := E
  have hown : s.vm.findClass RX3 = some m.cls := hown
  have in3 : ∀ w ∈ u_ws RX3 TX3 17, w ∈ wsX3_sitterOn := fun _ h => List.mem_cons_of_mem _ (List.mem_append_right _ h)
  have hl : lv_has ls 3 [(0, .ref r), (1, .int x1)] := hl
  refine lv_iconst (v := 0) hx hb dX3_sitterOn_0 (by decide) ?_
  refine lv_istore_n (lv' := [(2, .int 0), (0, .ref r), (1, .int x1)]) hx hb dX3_sitterOn_1 rfl hl (by decide) rfl (fun ls hl => ?_)
  have loop1 : ∀ (fu : Nat) (L2_1 : Int32), iv (0) (8) L2_1 → 8 - L2_1.toInt < (fu : Int) → ∀ (H : Heap) (locs : List Loc) (ls : Array Slot), va_P D vwCl ([(r, .inr (2, [.int r_told, .int r_strands, .int r_chairs, .int r_sitters, .ref r_atoldCane, .ref r_aheight, .ref r_astrandOf, .ref r_achairOf, .ref r_aweight, .ref r_acane, .int r_sits, .int r_dropped, .int r_minute, .ref r_aload, .ref r_aheads, .int r_held, .int r_heldDown])), (r_achairOf, hcI k 8 r_rchairOf)]) H → va_D A ([(r, .inr (2, [.int r_told, .int r_strands, .int r_chairs, .int r_sitters, .ref r_atoldCane, .ref r_aheight, .ref r_astrandOf, .ref r_achairOf, .ref r_aweight, .ref r_acane, .int r_sits, .int r_dropped, .int r_minute, .ref r_aload, .ref r_aheads, .int r_held, .int r_heldDown])), (r_achairOf, hcI k 8 r_rchairOf)]) → va_S A s.heap H locs → lv_has ls 3 [(2, .int L2_1), (0, .ref r), (1, .int x1)] → W p l e (rmK 1 0 0) s m (List.toArray [.ref r, .int x1]) below meth c H locs 0 0 (MQ below (va_Qi (fun (r : Int32) (u : Unit) => iv (-1) (7) r) (hcB D (fun u : Unit => [(r, .inr (2, [.int r_told, .int r_strands, .int r_chairs, .int r_sitters, .ref r_atoldCane, .ref r_aheight, .ref r_astrandOf, .ref r_achairOf, .ref r_aweight, .ref r_acane, .int r_sits, .int r_dropped, .int r_minute, .ref r_aload, .ref r_aheads, .int r_held, .int r_heldDown])), (r_achairOf, hcI k 8 r_rchairOf)]) A) A) (List.toArray [.ref r, .int x1]) s 0 0 A) (F0 m 2 ls []) := by
    intro fu
    induction fu with
    | zero =>
      intro L2_1 bL2_1 hm
      have bL2_1_l := bL2_1.1
      have bL2_1_u := bL2_1.2
      exact absurd hm (by omega)
    | succ fu ih1 =>
      intro L2_1 bL2_1 hm H locs ls hP hD hS hl
      have bL2_1_l := bL2_1.1
      have bL2_1_u := bL2_1.2
      refine lv_iload_n hx hb dX3_sitterOn_2 rfl (lv_at hl 0 rfl) ?_
      refine lv_aload_n hx hb dX3_sitterOn_3 rfl (lv_at hl 1 rfl) ?_
      refine va_get (D := D) (ci := 2) (v := .int r_sitters) (C := RX3) (T := TX3) (N := 17) hx hb hts in3 hown hG.1 hP 0 rfl rfl 3 (by decide) (hts (.fieldLink RX3 22 "ChairCane$Room" "sitters" "I") (by decide +kernel)) (fun _ h9 => h9) rfl dX3_sitterOn_4 ?_
      refine lv_icmp_ge (tgt := 28) hx hb dX3_sitterOn_7 (by decide) (fun c2 => ?_) (fun c2 => ?_)
      · have fc2 := cx_ge_t (a := L2_1.toInt) (b := r_sitters.toInt) rfl rfl c2
        refine lv_iconst (v := (-1)) hx hb dX3_sitterOn_28 (by decide) ?_
        exact hc_end hx hb hr hlocks () (iv_lit (by decide) (by decide)) hP hD hS dX3_sitterOn_29
      · have fc2 := cx_ge_f (a := L2_1.toInt) (b := r_sitters.toInt) rfl rfl c2
        refine lv_aload_n hx hb dX3_sitterOn_10 rfl (lv_at hl 1 rfl) ?_
        refine va_get (D := D) (ci := 2) (v := .ref r_achairOf) (C := RX3) (T := TX3) (N := 17) hx hb hts in3 hown hG.1 hP 0 rfl rfl 7 (by decide) (hts (.fieldLink RX3 35 "ChairCane$Room" "chairOf" "[I") (by decide +kernel)) (fun _ h9 => h9) rfl dX3_sitterOn_11 ?_
        refine lv_iload_n hx hb dX3_sitterOn_14 rfl (lv_at hl 0 rfl) ?_
        refine va_iald hx hb hG.1 hP 1 0 rfl rfl (vp_in_iff.mpr ⟨by omega, by omega⟩) dX3_sitterOn_15 ?_
        refine lv_topi (fun z3 ez3 => ?_)
        have bz3 : iv (0) (7) z3 := by rw [ez3]; exact h_r_rchairOf _
        have bz3_l := bz3.1
        have bz3_u := bz3.2
        refine lv_iload_n hx hb dX3_sitterOn_16 rfl (lv_at hl 2 rfl) ?_
        refine lv_icmp_ne (tgt := 22) hx hb dX3_sitterOn_17 (by decide) (fun c4 => ?_) (fun c4 => ?_)
        · have fc4 := cx_ne_t (a := z3.toInt) (b := x1.toInt) rfl rfl c4
          obtain ⟨z5, ez5⟩ : ∃ z : Int32, z = L2_1 + 1 := ⟨_, rfl⟩
          have tz5 : z5.toInt = L2_1.toInt + (1) := ai_add rfl (by decide) ez5 (by omega) (by omega)
          refine lv_iinc (v := z5) (lv' := [(2, .int z5), (0, .ref r), (1, .int x1)]) hx hb dX3_sitterOn_22 hl (k := 0) rfl (by rw [ez5]; rfl) (by decide) rfl (fun ls hl => ?_)
          refine lv_goto (tgt := 2) hx hb dX3_sitterOn_25 (by decide) ?_
          exact ih1 z5 ⟨by omega, by omega⟩ (by omega) _ _ _ hP hD hS (lv_sub hl [0, 1, 2] rfl)
        · have fc4 := cx_ne_f (a := z3.toInt) (b := x1.toInt) rfl rfl c4
          refine lv_iload_n hx hb dX3_sitterOn_20 rfl (lv_at hl 0 rfl) ?_
          exact hc_end hx hb hr hlocks () (⟨by omega, by omega⟩) hP hD hS dX3_sitterOn_21
  exact loop1 100 0 (iv_lit (by decide) (by decide)) (by have q0 : (0 : Int32).toInt = 0 := (by decide); omega) _ _ _ hP hD hS hl
set_option maxHeartbeats 4000000 in
set_option maxRecDepth 100000 in
theorem i_X3_givesUnder (l : Launch) (D : va_G) (k : Nat → ClassId) (sz : Nat) (x1 : Int32) (r : Nat) (r_told : Int32) (r_strands : Int32) (r_chairs : Int32) (r_sitters : Int32) (r_atoldCane : Nat) (r_aheight : Nat) (r_astrandOf : Nat) (r_achairOf : Nat) (r_aweight : Nat) (r_acane : Nat) (r_sits : Int32) (r_dropped : Int32) (r_minute : Int32) (r_aload : Nat) (r_aheads : Nat) (r_held : Int32) (r_heldDown : Int32) (r_rstrandOf : Nat → Int32) (r_rchairOf : Nat → Int32) (r_rweight : Nat → Int32) (r_rcane : Nat → Int32) (r_rload : Nat → Int32) (h_r_told : iv (0) (1) r_told) (h_r_strands : iv (0) (4) r_strands) (h_r_chairs : iv (0) (8) r_chairs) (h_r_sitters : iv (0) (8) r_sitters) (h_r_rstrandOf : rowIn (0) (3) r_rstrandOf) (h_r_rchairOf : rowIn (0) (7) r_rchairOf) : CtI l yX3_givesUnder wsX3_givesUnder (rmK 1 0 0) [.ref r, .int x1] D k sz ([(r, .inr (2, [.int r_told, .int r_strands, .int r_chairs, .int r_sitters, .ref r_atoldCane, .ref r_aheight, .ref r_astrandOf, .ref r_achairOf, .ref r_aweight, .ref r_acane, .int r_sits, .int r_dropped, .int r_minute, .ref r_aload, .ref r_aheads, .int r_held, .int r_heldDown])), (r_astrandOf, hcI k 8 r_rstrandOf), (r_achairOf, hcI k 8 r_rchairOf), (r_aweight, hcI k 8 r_rweight), (r_acane, hcI k 4 r_rcane), (r_aload, hcI k 4 r_rload)]) (fun (r : Int32) (u : Unit) => True) (fun u : Unit => [(r, .inr (2, [.int r_told, .int r_strands, .int r_chairs, .int r_sitters, .ref r_atoldCane, .ref r_aheight, .ref r_astrandOf, .ref r_achairOf, .ref r_aweight, .ref r_acane, .int r_sits, .int r_dropped, .int r_minute, .ref r_aload, .ref r_aheads, .int r_held, .int r_heldDown])), (r_astrandOf, hcI k 8 r_rstrandOf), (r_achairOf, hcI k 8 r_rchairOf), (r_aweight, hcI k 8 r_rweight), (r_acane, hcI k 4 r_rcane), (r_aload, hcI k 4 r_rload)]) 0 0 := by
  have h_r_told_l := h_r_told.1
  have h_r_told_u := h_r_told.2
  have h_r_strands_l := h_r_strands.1
  have h_r_strands_u := h_r_strands.2
  have h_r_chairs_l := h_r_chairs.1
  have h_r_chairs_u := h_r_chairs.2
  have h_r_sitters_l := h_r_sitters.1
  have h_r_sitters_u := h_r_sitters.2
  refine CtI.mk (cc := cX3_givesUnder) (maxL := 3) (ret := (some .int)) (by decide) rfl (Nat.le_of_ble_eq_true rfl) ?_
  intro p e s m below meth c A ls E hP hD hS hl
  obtain ⟨hx, hb, hr, hml, hown, hts, hlocks, hin, hG, hA⟩ := E
  have hown : s.vm.findClass RX3 = some m.cls := hown
  have in3 : ∀ w ∈ u_ws RX3 TX3 17, w ∈ wsX3_givesUnder := fun _ h => List.mem_cons_of_mem _ (List.mem_append_right _ h)
  have hl : lv_has ls 3 [(0, .ref r), (1, .int x1)] := hl
  refine lv_iload_n hx hb dX3_givesUnder_0 rfl (lv_at hl 1 rfl) ?_
  refine lv_if_lt (tgt := 23) hx hb dX3_givesUnder_1 (by decide) (fun c1 => ?_) (fun c1 => ?_)
  · have fc1 := cx_lt_t (a := x1.toInt) (b := 0) rfl (by decide) c1
    refine lv_iconst (v := 0) hx hb dX3_givesUnder_23 (by decide) ?_
    exact hc_end hx hb hr hlocks () trivial hP hD hS dX3_givesUnder_24
  · have fc1 := cx_lt_f (a := x1.toInt) (b := 0) rfl (by decide) c1
    refine lv_iload_n hx hb dX3_givesUnder_4 rfl (lv_at hl 1 rfl) ?_
    refine lv_aload_n hx hb dX3_givesUnder_5 rfl (lv_at hl 0 rfl) ?_
    refine va_get (D := D) (ci := 2) (v := .int r_sitters) (C := RX3) (T := TX3) (N := 17) hx hb hts in3 hown hG.1 hP 0 rfl rfl 3 (by decide) (hts (.fieldLink RX3 22 "ChairCane$Room" "sitters" "I") (by decide +kernel)) (fun _ h9 => h9) rfl dX3_givesUnder_6 ?_
    refine lv_icmp_ge (tgt := 23) hx hb dX3_givesUnder_9 (by decide) (fun c2 => ?_) (fun c2 => ?_)
    · have fc2 := cx_ge_t (a := x1.toInt) (b := r_sitters.toInt) rfl rfl c2
      refine lv_iconst (v := 0) hx hb dX3_givesUnder_23 (by decide) ?_
      exact hc_end hx hb hr hlocks () trivial hP hD hS dX3_givesUnder_24
    · have fc2 := cx_ge_f (a := x1.toInt) (b := r_sitters.toInt) rfl rfl c2
      refine lv_aload_n hx hb dX3_givesUnder_12 rfl (lv_at hl 0 rfl) ?_
      refine va_get (D := D) (ci := 2) (v := .int r_sits) (C := RX3) (T := TX3) (N := 17) hx hb hts in3 hown hG.1 hP 0 rfl rfl 10 (by decide) (hts (.fieldLink RX3 44 "ChairCane$Room" "sits" "I") (by decide +kernel)) (fun _ h9 => h9) rfl dX3_givesUnder_13 ?_
      refine lv_iload_n hx hb dX3_givesUnder_16 rfl (lv_at hl 1 rfl) ?_
      refine lv_ishr hx hb dX3_givesUnder_17 ?_
      refine lv_topi (fun z3 ez3 => ?_)
      refine lv_iconst (v := 1) hx hb dX3_givesUnder_18 (by decide) ?_
      refine lv_iand hx hb dX3_givesUnder_19 ?_
      refine lv_topi (fun z4 ez4 => ?_)
      have bz4 : iv (0) (1) z4 := ai_mask 1 (by decide) (by decide) ez4
      have bz4_l := bz4.1
      have bz4_u := bz4.2
      refine lv_if_ne (tgt := 25) hx hb dX3_givesUnder_20 (by decide) (fun c5 => ?_) (fun c5 => ?_)
      · have fc5 := cx_ne_t (a := z4.toInt) (b := 0) rfl (by decide) c5
        refine lv_aload_n hx hb dX3_givesUnder_25 rfl (lv_at hl 0 rfl) ?_
        refine va_get (D := D) (ci := 2) (v := .ref r_astrandOf) (C := RX3) (T := TX3) (N := 17) hx hb hts in3 hown hG.1 hP 0 rfl rfl 6 (by decide) (hts (.fieldLink RX3 32 "ChairCane$Room" "strandOf" "[I") (by decide +kernel)) (fun _ h9 => h9) rfl dX3_givesUnder_26 ?_
        refine lv_aload_n hx hb dX3_givesUnder_29 rfl (lv_at hl 0 rfl) ?_
        refine va_get (D := D) (ci := 2) (v := .ref r_achairOf) (C := RX3) (T := TX3) (N := 17) hx hb hts in3 hown hG.1 hP 0 rfl rfl 7 (by decide) (hts (.fieldLink RX3 35 "ChairCane$Room" "chairOf" "[I") (by decide +kernel)) (fun _ h9 => h9) rfl dX3_givesUnder_30 ?_
        refine lv_iload_n hx hb dX3_givesUnder_33 rfl (lv_at hl 1 rfl) ?_
        refine va_iald hx hb hG.1 hP 2 0 rfl rfl (vp_in_iff.mpr ⟨by omega, by omega⟩) dX3_givesUnder_34 ?_
        refine lv_topi (fun z6 ez6 => ?_)
        have bz6 : iv (0) (7) z6 := by rw [ez6]; exact h_r_rchairOf _
        have bz6_l := bz6.1
        have bz6_u := bz6.2
        refine va_iald hx hb hG.1 hP 1 0 rfl rfl (vp_in_iff.mpr ⟨by omega, by omega⟩) dX3_givesUnder_35 ?_
        refine lv_topi (fun z7 ez7 => ?_)
        have bz7 : iv (0) (3) z7 := by rw [ez7]; exact h_r_rstrandOf _
        have bz7_l := bz7.1
        have bz7_u := bz7.2
        refine lv_istore_n (lv' := [(2, .int z7), (0, .ref r), (1, .int x1)]) hx hb dX3_givesUnder_36 rfl hl (by decide) rfl (fun ls hl => ?_)
        refine lv_aload_n hx hb dX3_givesUnder_37 rfl (lv_at hl 1 rfl) ?_
        refine va_get (D := D) (ci := 2) (v := .ref r_aload) (C := RX3) (T := TX3) (N := 17) hx hb hts in3 hown hG.1 hP 0 rfl rfl 13 (by decide) (hts (.fieldLink RX3 53 "ChairCane$Room" "load" "[I") (by decide +kernel)) (fun _ h9 => h9) rfl dX3_givesUnder_38 ?_
        refine lv_iload_n hx hb dX3_givesUnder_41 rfl (lv_at hl 0 rfl) ?_
        refine va_iald hx hb hG.1 hP 5 0 rfl rfl (vp_in_iff.mpr ⟨by omega, by omega⟩) dX3_givesUnder_42 ?_
        refine lv_topi (fun z8 ez8 => ?_)
        refine lv_if_le (tgt := 69) hx hb dX3_givesUnder_43 (by decide) (fun c9 => ?_) (fun c9 => ?_)
        · have fc9 := cx_le_t (a := z8.toInt) (b := 0) rfl (by decide) c9
          refine lv_iconst (v := 0) hx hb dX3_givesUnder_69 (by decide) ?_
          exact hc_end hx hb hr hlocks () trivial hP hD hS dX3_givesUnder_70
        · have fc9 := cx_le_f (a := z8.toInt) (b := 0) rfl (by decide) c9
          refine lv_aload_n hx hb dX3_givesUnder_46 rfl (lv_at hl 1 rfl) ?_
          refine va_get (D := D) (ci := 2) (v := .ref r_acane) (C := RX3) (T := TX3) (N := 17) hx hb hts in3 hown hG.1 hP 0 rfl rfl 9 (by decide) (hts (.fieldLink RX3 41 "ChairCane$Room" "cane" "[I") (by decide +kernel)) (fun _ h9 => h9) rfl dX3_givesUnder_47 ?_
          refine lv_iload_n hx hb dX3_givesUnder_50 rfl (lv_at hl 0 rfl) ?_
          refine va_iald hx hb hG.1 hP 4 0 rfl rfl (vp_in_iff.mpr ⟨by omega, by omega⟩) dX3_givesUnder_51 ?_
          refine lv_topi (fun z10 ez10 => ?_)
          refine lv_aload_n hx hb dX3_givesUnder_52 rfl (lv_at hl 1 rfl) ?_
          refine va_get (D := D) (ci := 2) (v := .ref r_aweight) (C := RX3) (T := TX3) (N := 17) hx hb hts in3 hown hG.1 hP 0 rfl rfl 8 (by decide) (hts (.fieldLink RX3 38 "ChairCane$Room" "weight" "[I") (by decide +kernel)) (fun _ h9 => h9) rfl dX3_givesUnder_53 ?_
          refine lv_iload_n hx hb dX3_givesUnder_56 rfl (lv_at hl 2 rfl) ?_
          refine va_iald hx hb hG.1 hP 3 0 rfl rfl (vp_in_iff.mpr ⟨by omega, by omega⟩) dX3_givesUnder_57 ?_
          refine lv_topi (fun z11 ez11 => ?_)
          refine lv_imul hx hb dX3_givesUnder_58 ?_
          refine lv_topi (fun z12 ez12 => ?_)
          refine lv_aload_n hx hb dX3_givesUnder_59 rfl (lv_at hl 1 rfl) ?_
          refine va_get (D := D) (ci := 2) (v := .ref r_aload) (C := RX3) (T := TX3) (N := 17) hx hb hts in3 hown hG.1 hP 0 rfl rfl 13 (by decide) (hts (.fieldLink RX3 53 "ChairCane$Room" "load" "[I") (by decide +kernel)) (fun _ h9 => h9) rfl dX3_givesUnder_60 ?_
          refine lv_iload_n hx hb dX3_givesUnder_63 rfl (lv_at hl 0 rfl) ?_
          refine va_iald hx hb hG.1 hP 5 0 rfl rfl (vp_in_iff.mpr ⟨by omega, by omega⟩) dX3_givesUnder_64 ?_
          refine hc_is (z := z8) ez8.symm ?_
          refine lv_idiv hx hb dX3_givesUnder_65 (cd_ne_t (a := z8.toInt) (b := 0) rfl (by decide) (by omega)) ?_
          refine lv_topi (fun z13 ez13 => ?_)
          refine lv_goto (tgt := 70) hx hb dX3_givesUnder_66 (by decide) ?_
          exact hc_end hx hb hr hlocks () trivial hP hD hS dX3_givesUnder_70
      · have fc5 := cx_ne_f (a := z4.toInt) (b := 0) rfl (by decide) c5
        refine lv_iconst (v := 0) hx hb dX3_givesUnder_23 (by decide) ?_
        exact hc_end hx hb hr hlocks () trivial hP hD hS dX3_givesUnder_24
set_option maxHeartbeats 4000000 in
set_option maxRecDepth 100000 in
theorem i_X3_givesInAll (l : Launch) (D : va_G) (k : Nat → ClassId) (sz : Nat) (r : Nat) (r_told : Int32) (r_strands : Int32) (r_chairs : Int32) (r_sitters : Int32) (r_atoldCane : Nat) (r_aheight : Nat) (r_astrandOf : Nat) (r_achairOf : Nat) (r_aweight : Nat) (r_acane : Nat) (r_sits : Int32) (r_dropped : Int32) (r_minute : Int32) (r_aload : Nat) (r_aheads : Nat) (r_held : Int32) (r_heldDown : Int32) (r_rstrandOf : Nat → Int32) (r_rchairOf : Nat → Int32) (r_rweight : Nat → Int32) (r_rcane : Nat → Int32) (r_rload : Nat → Int32) (h_r_told : iv (0) (1) r_told) (h_r_strands : iv (0) (4) r_strands) (h_r_chairs : iv (0) (8) r_chairs) (h_r_sitters : iv (0) (8) r_sitters) (h_r_rstrandOf : rowIn (0) (3) r_rstrandOf) (h_r_rchairOf : rowIn (0) (7) r_rchairOf) : CtI l yX3_givesInAll wsX3_givesInAll (rmK 2 0 0) [.ref r] D k sz ([(r, .inr (2, [.int r_told, .int r_strands, .int r_chairs, .int r_sitters, .ref r_atoldCane, .ref r_aheight, .ref r_astrandOf, .ref r_achairOf, .ref r_aweight, .ref r_acane, .int r_sits, .int r_dropped, .int r_minute, .ref r_aload, .ref r_aheads, .int r_held, .int r_heldDown])), (r_astrandOf, hcI k 8 r_rstrandOf), (r_achairOf, hcI k 8 r_rchairOf), (r_aweight, hcI k 8 r_rweight), (r_acane, hcI k 4 r_rcane), (r_aload, hcI k 4 r_rload)]) (fun (r : Int32) (u : Unit) => True) (fun u : Unit => [(r, .inr (2, [.int r_told, .int r_strands, .int r_chairs, .int r_sitters, .ref r_atoldCane, .ref r_aheight, .ref r_astrandOf, .ref r_achairOf, .ref r_aweight, .ref r_acane, .int r_sits, .int r_dropped, .int r_minute, .ref r_aload, .ref r_aheads, .int r_held, .int r_heldDown])), (r_astrandOf, hcI k 8 r_rstrandOf), (r_achairOf, hcI k 8 r_rchairOf), (r_aweight, hcI k 8 r_rweight), (r_acane, hcI k 4 r_rcane), (r_aload, hcI k 4 r_rload)]) 0 0 := by
  have h_r_told_l := h_r_told.1
  have h_r_told_u := h_r_told.2
  have h_r_strands_l := h_r_strands.1
  have h_r_strands_u := h_r_strands.2
  have h_r_chairs_l := h_r_chairs.1
  have h_r_chairs_u := h_r_chairs.2
  have h_r_sitters_l := h_r_sitters.1
  have h_r_sitters_u := h_r_sitters.2
  refine CtI.mk (cc := cX3_givesInAll) (maxL := 3) (ret := (some .int)) (by decide) rfl (Nat.le_of_ble_eq_true rfl) ?_
  intro p e s m below meth c A ls E hP hD hS hl
  obtain ⟨hx, hb, hr, hml, hown, hts, hlocks, hin, hG, hA⟩ := E
  have hown : s.vm.findClass RX3 = some m.cls := hown
  have in3 : ∀ w ∈ u_ws RX3 TX3 17, w ∈ wsX3_givesInAll := fun _ h => List.mem_cons_of_mem _ (List.mem_append_right _ h)
  have hl : lv_has ls 3 [(0, .ref r)] := hl
  refine lv_iconst (v := 0) hx hb dX3_givesInAll_0 (by decide) ?_
  refine lv_istore_n (lv' := [(1, .int 0), (0, .ref r)]) hx hb dX3_givesInAll_1 rfl hl (by decide) rfl (fun ls hl => ?_)
  refine lv_iconst (v := 0) hx hb dX3_givesInAll_2 (by decide) ?_
  refine lv_istore_n (lv' := [(2, .int 0), (1, .int 0), (0, .ref r)]) hx hb dX3_givesInAll_3 rfl hl (by decide) rfl (fun ls hl => ?_)
  have loop1 : ∀ (fu : Nat) (L1_1 : Int32) (L2_1 : Int32), iv (0) (8) L2_1 → 8 - L2_1.toInt < (fu : Int) → ∀ (H : Heap) (locs : List Loc) (ls : Array Slot), va_P D vwCl ([(r, .inr (2, [.int r_told, .int r_strands, .int r_chairs, .int r_sitters, .ref r_atoldCane, .ref r_aheight, .ref r_astrandOf, .ref r_achairOf, .ref r_aweight, .ref r_acane, .int r_sits, .int r_dropped, .int r_minute, .ref r_aload, .ref r_aheads, .int r_held, .int r_heldDown])), (r_astrandOf, hcI k 8 r_rstrandOf), (r_achairOf, hcI k 8 r_rchairOf), (r_aweight, hcI k 8 r_rweight), (r_acane, hcI k 4 r_rcane), (r_aload, hcI k 4 r_rload)]) H → va_D A ([(r, .inr (2, [.int r_told, .int r_strands, .int r_chairs, .int r_sitters, .ref r_atoldCane, .ref r_aheight, .ref r_astrandOf, .ref r_achairOf, .ref r_aweight, .ref r_acane, .int r_sits, .int r_dropped, .int r_minute, .ref r_aload, .ref r_aheads, .int r_held, .int r_heldDown])), (r_astrandOf, hcI k 8 r_rstrandOf), (r_achairOf, hcI k 8 r_rchairOf), (r_aweight, hcI k 8 r_rweight), (r_acane, hcI k 4 r_rcane), (r_aload, hcI k 4 r_rload)]) → va_S A s.heap H locs → lv_has ls 3 [(2, .int L2_1), (1, .int L1_1), (0, .ref r)] → W p l e (rmK 2 0 0) s m (List.toArray [.ref r]) below meth c H locs 0 0 (MQ below (va_Qi (fun (r : Int32) (u : Unit) => True) (hcB D (fun u : Unit => [(r, .inr (2, [.int r_told, .int r_strands, .int r_chairs, .int r_sitters, .ref r_atoldCane, .ref r_aheight, .ref r_astrandOf, .ref r_achairOf, .ref r_aweight, .ref r_acane, .int r_sits, .int r_dropped, .int r_minute, .ref r_aload, .ref r_aheads, .int r_held, .int r_heldDown])), (r_astrandOf, hcI k 8 r_rstrandOf), (r_achairOf, hcI k 8 r_rchairOf), (r_aweight, hcI k 8 r_rweight), (r_acane, hcI k 4 r_rcane), (r_aload, hcI k 4 r_rload)]) A) A) (List.toArray [.ref r]) s 0 0 A) (F0 m 4 ls []) := by
    intro fu
    induction fu with
    | zero =>
      intro L1_1 L2_1 bL2_1 hm
      have bL2_1_l := bL2_1.1
      have bL2_1_u := bL2_1.2
      exact absurd hm (by omega)
    | succ fu ih1 =>
      intro L1_1 L2_1 bL2_1 hm H locs ls hP hD hS hl
      have bL2_1_l := bL2_1.1
      have bL2_1_u := bL2_1.2
      refine lv_iload_n hx hb dX3_givesInAll_4 rfl (lv_at hl 0 rfl) ?_
      refine lv_aload_n hx hb dX3_givesInAll_5 rfl (lv_at hl 2 rfl) ?_
      refine va_get (D := D) (ci := 2) (v := .int r_sitters) (C := RX3) (T := TX3) (N := 17) hx hb hts in3 hown hG.1 hP 0 rfl rfl 3 (by decide) (hts (.fieldLink RX3 22 "ChairCane$Room" "sitters" "I") (by decide +kernel)) (fun _ h9 => h9) rfl dX3_givesInAll_6 ?_
      refine lv_icmp_ge (tgt := 26) hx hb dX3_givesInAll_9 (by decide) (fun c2 => ?_) (fun c2 => ?_)
      · have fc2 := cx_ge_t (a := L2_1.toInt) (b := r_sitters.toInt) rfl rfl c2
        refine lv_iload_n hx hb dX3_givesInAll_26 rfl (lv_at hl 1 rfl) ?_
        exact hc_end hx hb hr hlocks () trivial hP hD hS dX3_givesInAll_27
      · have fc2 := cx_ge_f (a := L2_1.toInt) (b := r_sitters.toInt) rfl rfl c2
        refine lv_iload_n hx hb dX3_givesInAll_12 rfl (lv_at hl 1 rfl) ?_
        refine lv_aload_n hx hb dX3_givesInAll_13 rfl (lv_at hl 2 rfl) ?_
        refine lv_iload_n hx hb dX3_givesInAll_14 rfl (lv_at hl 0 rfl) ?_
        refine hc_Vi (As := [.int L2_1]) (rest := [.int L1_1]) (n := 1) (wr := []) hx hb hml hown hts hG hA hP hD hS hl.1 [0, 1, 2, 3, 4, 5] [] (i_X3_givesUnder l D k _ L2_1 r r_told r_strands r_chairs r_sitters r_atoldCane r_aheight r_astrandOf r_achairOf r_aweight r_acane r_sits r_dropped r_minute r_aload r_aheads r_held r_heldDown r_rstrandOf r_rchairOf r_rweight r_rcane r_rload ⟨by omega, by omega⟩ ⟨by omega, by omega⟩ ⟨by omega, by omega⟩ ⟨by omega, by omega⟩ h_r_rstrandOf h_r_rchairOf) (ci := 2) (q0 := 0) rfl rfl gX3_givesInAll_X3_givesUnder rfl ⟨rfl, rfl, Nat.le_of_ble_eq_true rfl, Nat.le_of_ble_eq_true rfl⟩ (by decide +kernel) rfl rfl ⟨by decide, by decide, by decide⟩ ⟨rfl, rfl, Nat.le_of_ble_eq_true rfl, Nat.le_of_ble_eq_true rfl, Nat.le_of_ble_eq_true rfl⟩ dX3_givesInAll_15 (fun r4 u3 H locs hw hP hD hS => ?_)
        have hP : va_P D vwCl ([(r, .inr (2, [.int r_told, .int r_strands, .int r_chairs, .int r_sitters, .ref r_atoldCane, .ref r_aheight, .ref r_astrandOf, .ref r_achairOf, .ref r_aweight, .ref r_acane, .int r_sits, .int r_dropped, .int r_minute, .ref r_aload, .ref r_aheads, .int r_held, .int r_heldDown])), (r_astrandOf, hcI k 8 r_rstrandOf), (r_achairOf, hcI k 8 r_rchairOf), (r_aweight, hcI k 8 r_rweight), (r_acane, hcI k 4 r_rcane), (r_aload, hcI k 4 r_rload)]) H := hP
        have hD : va_D A ([(r, .inr (2, [.int r_told, .int r_strands, .int r_chairs, .int r_sitters, .ref r_atoldCane, .ref r_aheight, .ref r_astrandOf, .ref r_achairOf, .ref r_aweight, .ref r_acane, .int r_sits, .int r_dropped, .int r_minute, .ref r_aload, .ref r_aheads, .int r_held, .int r_heldDown])), (r_astrandOf, hcI k 8 r_rstrandOf), (r_achairOf, hcI k 8 r_rchairOf), (r_aweight, hcI k 8 r_rweight), (r_acane, hcI k 4 r_rcane), (r_aload, hcI k 4 r_rload)]) := hD
        refine lv_iadd hx hb dX3_givesInAll_18 ?_
        refine lv_topi (fun z5 ez5 => ?_)
        refine lv_istore_n (lv' := [(1, .int z5), (2, .int L2_1), (0, .ref r)]) hx hb dX3_givesInAll_19 rfl hl (by decide) rfl (fun ls hl => ?_)
        obtain ⟨z6, ez6⟩ : ∃ z : Int32, z = L2_1 + 1 := ⟨_, rfl⟩
        have tz6 : z6.toInt = L2_1.toInt + (1) := ai_add rfl (by decide) ez6 (by omega) (by omega)
        refine lv_iinc (v := z6) (lv' := [(2, .int z6), (1, .int z5), (0, .ref r)]) hx hb dX3_givesInAll_20 hl (k := 1) rfl (by rw [ez6]; rfl) (by decide) rfl (fun ls hl => ?_)
        refine lv_goto (tgt := 4) hx hb dX3_givesInAll_23 (by decide) ?_
        exact ih1 z5 z6 ⟨by omega, by omega⟩ (by omega) _ _ _ hP hD hS (lv_sub hl [0, 1, 2] rfl)
  exact loop1 100 0 0 (iv_lit (by decide) (by decide)) (by have q0 : (0 : Int32).toInt = 0 := (by decide); have q1 : (0 : Int32).toInt = 0 := (by decide); omega) _ _ _ hP hD hS hl
set_option maxHeartbeats 4000000 in
set_option maxRecDepth 100000 in
theorem i_X3_worthTo (l : Launch) (D : va_G) (k : Nat → ClassId) (sz : Nat) (x1 : Int32) (r : Nat) (r_told : Int32) (r_strands : Int32) (r_chairs : Int32) (r_sitters : Int32) (r_atoldCane : Nat) (r_aheight : Nat) (r_astrandOf : Nat) (r_achairOf : Nat) (r_aweight : Nat) (r_acane : Nat) (r_sits : Int32) (r_dropped : Int32) (r_minute : Int32) (r_aload : Nat) (r_aheads : Nat) (r_held : Int32) (r_heldDown : Int32) (r_rstrandOf : Nat → Int32) (r_rchairOf : Nat → Int32) (r_rweight : Nat → Int32) (r_rcane : Nat → Int32) (r_rload : Nat → Int32) (h_r_told : iv (0) (1) r_told) (h_r_strands : iv (0) (4) r_strands) (h_r_chairs : iv (0) (8) r_chairs) (h_r_sitters : iv (0) (8) r_sitters) (h_r_rstrandOf : rowIn (0) (3) r_rstrandOf) (h_r_rchairOf : rowIn (0) (7) r_rchairOf) : CtI l yX3_worthTo wsX3_worthTo (rmK 2 0 0) [.ref r, .int x1] D k sz ([(r, .inr (2, [.int r_told, .int r_strands, .int r_chairs, .int r_sitters, .ref r_atoldCane, .ref r_aheight, .ref r_astrandOf, .ref r_achairOf, .ref r_aweight, .ref r_acane, .int r_sits, .int r_dropped, .int r_minute, .ref r_aload, .ref r_aheads, .int r_held, .int r_heldDown])), (r_astrandOf, hcI k 8 r_rstrandOf), (r_achairOf, hcI k 8 r_rchairOf), (r_aweight, hcI k 8 r_rweight), (r_acane, hcI k 4 r_rcane), (r_aload, hcI k 4 r_rload)]) (fun (r : Int32) (u : Unit) => True) (fun u : Unit => [(r, .inr (2, [.int r_told, .int r_strands, .int r_chairs, .int r_sitters, .ref r_atoldCane, .ref r_aheight, .ref r_astrandOf, .ref r_achairOf, .ref r_aweight, .ref r_acane, .int r_sits, .int r_dropped, .int r_minute, .ref r_aload, .ref r_aheads, .int r_held, .int r_heldDown])), (r_astrandOf, hcI k 8 r_rstrandOf), (r_achairOf, hcI k 8 r_rchairOf), (r_aweight, hcI k 8 r_rweight), (r_acane, hcI k 4 r_rcane), (r_aload, hcI k 4 r_rload)]) 0 0 := by
  have h_r_told_l := h_r_told.1
  have h_r_told_u := h_r_told.2
  have h_r_strands_l := h_r_strands.1
  have h_r_strands_u := h_r_strands.2
  have h_r_chairs_l := h_r_chairs.1
  have h_r_chairs_u := h_r_chairs.2
  have h_r_sitters_l := h_r_sitters.1
  have h_r_sitters_u := h_r_sitters.2
  refine CtI.mk (cc := cX3_worthTo) (maxL := 2) (ret := (some .int)) (by decide) rfl (Nat.le_of_ble_eq_true rfl) ?_
  intro p e s m below meth c A ls E hP hD hS hl
  obtain ⟨hx, hb, hr, hml, hown, hts, hlocks, hin, hG, hA⟩ := E
  have hown : s.vm.findClass RX3 = some m.cls := hown
  have in3 : ∀ w ∈ u_ws RX3 TX3 17, w ∈ wsX3_worthTo := fun _ h => List.mem_cons_of_mem _ (List.mem_append_right _ h)
  have hl : lv_has ls 2 [(0, .ref r), (1, .int x1)] := hl
  refine lv_aload_n hx hb dX3_worthTo_0 rfl (lv_at hl 0 rfl) ?_
  refine lv_iload_n hx hb dX3_worthTo_1 rfl (lv_at hl 1 rfl) ?_
  refine hc_Vi (As := [.int x1]) (rest := []) (n := 1) (wr := [(r_astrandOf, hcI k 8 r_rstrandOf), (r_achairOf, hcI k 8 r_rchairOf), (r_aweight, hcI k 8 r_rweight), (r_acane, hcI k 4 r_rcane), (r_aload, hcI k 4 r_rload)]) hx hb hml hown hts hG hA hP hD hS hl.1 [0] [1, 2, 3, 4, 5] (i_X3_isDown l D k _ x1 r r_told r_strands r_chairs r_sitters r_atoldCane r_aheight r_astrandOf r_achairOf r_aweight r_acane r_sits r_dropped r_minute r_aload r_aheads r_held r_heldDown ⟨by omega, by omega⟩ ⟨by omega, by omega⟩ ⟨by omega, by omega⟩ ⟨by omega, by omega⟩) (ci := 2) (q0 := 0) rfl rfl gX3_worthTo_X3_isDown rfl ⟨rfl, rfl, Nat.le_of_ble_eq_true rfl, Nat.le_of_ble_eq_true rfl⟩ (by decide +kernel) rfl rfl ⟨by decide, by decide, by decide⟩ ⟨rfl, rfl, Nat.le_of_ble_eq_true rfl, Nat.le_of_ble_eq_true rfl, Nat.le_of_ble_eq_true rfl⟩ dX3_worthTo_2 (fun r2 u1 H locs hw hP hD hS => ?_)
  have hP : va_P D vwCl ([(r_astrandOf, hcI k 8 r_rstrandOf), (r_achairOf, hcI k 8 r_rchairOf), (r_aweight, hcI k 8 r_rweight), (r_acane, hcI k 4 r_rcane), (r_aload, hcI k 4 r_rload), (r, .inr (2, [.int r_told, .int r_strands, .int r_chairs, .int r_sitters, .ref r_atoldCane, .ref r_aheight, .ref r_astrandOf, .ref r_achairOf, .ref r_aweight, .ref r_acane, .int r_sits, .int r_dropped, .int r_minute, .ref r_aload, .ref r_aheads, .int r_held, .int r_heldDown]))]) H := hP
  have hD : va_D A ([(r_astrandOf, hcI k 8 r_rstrandOf), (r_achairOf, hcI k 8 r_rchairOf), (r_aweight, hcI k 8 r_rweight), (r_acane, hcI k 4 r_rcane), (r_aload, hcI k 4 r_rload), (r, .inr (2, [.int r_told, .int r_strands, .int r_chairs, .int r_sitters, .ref r_atoldCane, .ref r_aheight, .ref r_astrandOf, .ref r_achairOf, .ref r_aweight, .ref r_acane, .int r_sits, .int r_dropped, .int r_minute, .ref r_aload, .ref r_aheads, .int r_held, .int r_heldDown]))]) := hD
  obtain ⟨br2, rel3⟩ := hw
  have br2 : iv (0) (1) r2 := br2
  have br2_l := br2.1
  have br2_u := br2.2
  refine lv_if_eq (tgt := 21) hx hb dX3_worthTo_5 (by decide) (fun c4 => ?_) (fun c4 => ?_)
  · have fc4 := cx_eq_t (a := r2.toInt) (b := 0) rfl (by decide) c4
    refine lv_iconst (v := 0) hx hb dX3_worthTo_21 (by decide) ?_
    exact hc_end hx hb hr hlocks () trivial (hP.sub [5, 0, 1, 2, 3, 4] rfl) (hD.sub [5, 0, 1, 2, 3, 4] (by decide) rfl) hS dX3_worthTo_22
  · have fc4 := cx_eq_f (a := r2.toInt) (b := 0) rfl (by decide) c4
    refine lv_iconst (v := 1) hx hb dX3_worthTo_8 (by decide) ?_
    refine lv_aload_n hx hb dX3_worthTo_9 rfl (lv_at hl 0 rfl) ?_
    refine lv_iload_n hx hb dX3_worthTo_10 rfl (lv_at hl 1 rfl) ?_
    refine hc_Vi (As := [.int x1]) (rest := [.int 1]) (n := 1) (wr := []) hx hb hml hown hts hG hA hP hD hS hl.1 [5, 0, 1, 2, 3, 4] [] (i_X3_givesUnder l D k _ x1 r r_told r_strands r_chairs r_sitters r_atoldCane r_aheight r_astrandOf r_achairOf r_aweight r_acane r_sits r_dropped r_minute r_aload r_aheads r_held r_heldDown r_rstrandOf r_rchairOf r_rweight r_rcane r_rload ⟨by omega, by omega⟩ ⟨by omega, by omega⟩ ⟨by omega, by omega⟩ ⟨by omega, by omega⟩ h_r_rstrandOf h_r_rchairOf) (ci := 2) (q0 := 5) rfl rfl gX3_worthTo_X3_givesUnder rfl ⟨rfl, rfl, Nat.le_of_ble_eq_true rfl, Nat.le_of_ble_eq_true rfl⟩ (by decide +kernel) rfl rfl ⟨by decide, by decide, by decide⟩ ⟨rfl, rfl, Nat.le_of_ble_eq_true rfl, Nat.le_of_ble_eq_true rfl, Nat.le_of_ble_eq_true rfl⟩ dX3_worthTo_11 (fun r6 u5 H locs hw hP hD hS => ?_)
    have hP : va_P D vwCl ([(r, .inr (2, [.int r_told, .int r_strands, .int r_chairs, .int r_sitters, .ref r_atoldCane, .ref r_aheight, .ref r_astrandOf, .ref r_achairOf, .ref r_aweight, .ref r_acane, .int r_sits, .int r_dropped, .int r_minute, .ref r_aload, .ref r_aheads, .int r_held, .int r_heldDown])), (r_astrandOf, hcI k 8 r_rstrandOf), (r_achairOf, hcI k 8 r_rchairOf), (r_aweight, hcI k 8 r_rweight), (r_acane, hcI k 4 r_rcane), (r_aload, hcI k 4 r_rload)]) H := hP
    have hD : va_D A ([(r, .inr (2, [.int r_told, .int r_strands, .int r_chairs, .int r_sitters, .ref r_atoldCane, .ref r_aheight, .ref r_astrandOf, .ref r_achairOf, .ref r_aweight, .ref r_acane, .int r_sits, .int r_dropped, .int r_minute, .ref r_aload, .ref r_aheads, .int r_held, .int r_heldDown])), (r_astrandOf, hcI k 8 r_rstrandOf), (r_achairOf, hcI k 8 r_rchairOf), (r_aweight, hcI k 8 r_rweight), (r_acane, hcI k 4 r_rcane), (r_aload, hcI k 4 r_rload)]) := hD
    refine lv_bipush (v := 10) hx hb dX3_worthTo_14 (by decide) ?_
    refine lv_idiv hx hb dX3_worthTo_16 (by decide) ?_
    refine lv_topi (fun z7 ez7 => ?_)
    refine lv_iadd hx hb dX3_worthTo_17 ?_
    refine lv_topi (fun z8 ez8 => ?_)
    refine lv_goto (tgt := 22) hx hb dX3_worthTo_18 (by decide) ?_
    exact hc_end hx hb hr hlocks () trivial hP hD hS dX3_worthTo_22
set_option maxHeartbeats 4000000 in
set_option maxRecDepth 100000 in
theorem i_X3_seat (l : Launch) (D : va_G) (k : Nat → ClassId) (sz : Nat) (x1 : Int32) (x2 : Int32) (r : Nat) (r_told : Int32) (r_strands : Int32) (r_chairs : Int32) (r_sitters : Int32) (r_atoldCane : Nat) (r_aheight : Nat) (r_astrandOf : Nat) (r_achairOf : Nat) (r_aweight : Nat) (r_acane : Nat) (r_sits : Int32) (r_dropped : Int32) (r_minute : Int32) (r_aload : Nat) (r_aheads : Nat) (r_held : Int32) (r_heldDown : Int32) (r_rstrandOf : Nat → Int32) (r_rchairOf : Nat → Int32) (r_rweight : Nat → Int32) (r_rload : Nat → Int32) (r_rheads : Nat → Int32) (h_x2 : iv (0) (1) x2) (h_r_told : iv (0) (1) r_told) (h_r_strands : iv (0) (4) r_strands) (h_r_chairs : iv (0) (8) r_chairs) (h_r_sitters : iv (0) (8) r_sitters) (h_r_rstrandOf : rowIn (0) (3) r_rstrandOf) (h_r_rchairOf : rowIn (0) (7) r_rchairOf) : CtV l yX3_seat wsX3_seat (rmK 2 0 0) [.ref r, .int x1, .int x2] D k sz ([(r, .inr (2, [.int r_told, .int r_strands, .int r_chairs, .int r_sitters, .ref r_atoldCane, .ref r_aheight, .ref r_astrandOf, .ref r_achairOf, .ref r_aweight, .ref r_acane, .int r_sits, .int r_dropped, .int r_minute, .ref r_aload, .ref r_aheads, .int r_held, .int r_heldDown])), (r_astrandOf, hcI k 8 r_rstrandOf), (r_achairOf, hcI k 8 r_rchairOf), (r_aweight, hcI k 8 r_rweight), (r_aload, hcI k 4 r_rload), (r_aheads, hcI k 4 r_rheads)]) (fun u : (Int32) × (Nat → Int32) × (Nat → Int32) => True) (fun u : (Int32) × (Nat → Int32) × (Nat → Int32) => [(r, .inr (2, [.int r_told, .int r_strands, .int r_chairs, .int r_sitters, .ref r_atoldCane, .ref r_aheight, .ref r_astrandOf, .ref r_achairOf, .ref r_aweight, .ref r_acane, .int (u.1), .int r_dropped, .int r_minute, .ref r_aload, .ref r_aheads, .int r_held, .int r_heldDown])), (r_astrandOf, hcI k 8 r_rstrandOf), (r_achairOf, hcI k 8 r_rchairOf), (r_aweight, hcI k 8 r_rweight), (r_aload, hcI k 4 (u.2.1)), (r_aheads, hcI k 4 (u.2.2))]) 0 0 := by
  have h_x2_l := h_x2.1
  have h_x2_u := h_x2.2
  have h_r_told_l := h_r_told.1
  have h_r_told_u := h_r_told.2
  have h_r_strands_l := h_r_strands.1
  have h_r_strands_u := h_r_strands.2
  have h_r_chairs_l := h_r_chairs.1
  have h_r_chairs_u := h_r_chairs.2
  have h_r_sitters_l := h_r_sitters.1
  have h_r_sitters_u := h_r_sitters.2
  refine CtV.mk (cc := cX3_seat) (maxL := 4) (ret := none) (by decide) rfl (Nat.le_of_ble_eq_true rfl) ?_
  intro p e s m below meth c A ls E hP hD hS hl
  obtain ⟨hx, hb, hr, hml, hown, hts, hlocks, hin, hG, hA⟩ := E
  have hown : s.vm.findClass RX3 = some m.cls := hown
  have in3 : ∀ w ∈ u_ws RX3 TX3 17, w ∈ wsX3_seat := fun _ h => List.mem_cons_of_mem _ (List.mem_append_right _ h)
  have hl : lv_has ls 4 [(0, .ref r), (1, .int x1), (2, .int x2)] := hl
  refine lv_aload_n hx hb dX3_seat_0 rfl (lv_at hl 0 rfl) ?_
  refine lv_iload_n hx hb dX3_seat_1 rfl (lv_at hl 1 rfl) ?_
  refine hc_Vi (As := [.int x1]) (rest := []) (n := 1) (wr := [(r_astrandOf, hcI k 8 r_rstrandOf), (r_achairOf, hcI k 8 r_rchairOf), (r_aweight, hcI k 8 r_rweight), (r_aload, hcI k 4 r_rload), (r_aheads, hcI k 4 r_rheads)]) hx hb hml hown hts hG hA hP hD hS hl.1 [0] [1, 2, 3, 4, 5] (i_X3_isUp l D k _ x1 r r_told r_strands r_chairs r_sitters r_atoldCane r_aheight r_astrandOf r_achairOf r_aweight r_acane r_sits r_dropped r_minute r_aload r_aheads r_held r_heldDown ⟨by omega, by omega⟩ ⟨by omega, by omega⟩ ⟨by omega, by omega⟩ ⟨by omega, by omega⟩) (ci := 2) (q0 := 0) rfl rfl gX3_seat_X3_isUp rfl ⟨rfl, rfl, Nat.le_of_ble_eq_true rfl, Nat.le_of_ble_eq_true rfl⟩ (by decide +kernel) rfl rfl ⟨by decide, by decide, by decide⟩ ⟨rfl, rfl, Nat.le_of_ble_eq_true rfl, Nat.le_of_ble_eq_true rfl, Nat.le_of_ble_eq_true rfl⟩ dX3_seat_2 (fun r2 u1 H locs hw hP hD hS => ?_)
  have hP : va_P D vwCl ([(r_astrandOf, hcI k 8 r_rstrandOf), (r_achairOf, hcI k 8 r_rchairOf), (r_aweight, hcI k 8 r_rweight), (r_aload, hcI k 4 r_rload), (r_aheads, hcI k 4 r_rheads), (r, .inr (2, [.int r_told, .int r_strands, .int r_chairs, .int r_sitters, .ref r_atoldCane, .ref r_aheight, .ref r_astrandOf, .ref r_achairOf, .ref r_aweight, .ref r_acane, .int r_sits, .int r_dropped, .int r_minute, .ref r_aload, .ref r_aheads, .int r_held, .int r_heldDown]))]) H := hP
  have hD : va_D A ([(r_astrandOf, hcI k 8 r_rstrandOf), (r_achairOf, hcI k 8 r_rchairOf), (r_aweight, hcI k 8 r_rweight), (r_aload, hcI k 4 r_rload), (r_aheads, hcI k 4 r_rheads), (r, .inr (2, [.int r_told, .int r_strands, .int r_chairs, .int r_sitters, .ref r_atoldCane, .ref r_aheight, .ref r_astrandOf, .ref r_achairOf, .ref r_aweight, .ref r_acane, .int r_sits, .int r_dropped, .int r_minute, .ref r_aload, .ref r_aheads, .int r_held, .int r_heldDown]))]) := hD
  obtain ⟨br2, rel3⟩ := hw
  have br2 : iv (0) (1) r2 := br2
  have br2_l := br2.1
  have br2_u := br2.2
  refine lv_if_eq (tgt := 17) hx hb dX3_seat_5 (by decide) (fun c4 => ?_) (fun c4 => ?_)
  · have fc4 := cx_eq_t (a := r2.toInt) (b := 0) rfl (by decide) c4
    exact hc_endV hx hb hr hlocks (r_sits, r_rload, r_rheads) trivial (hP.sub [5, 0, 1, 2, 3, 4] rfl) (hD.sub [5, 0, 1, 2, 3, 4] (by decide) rfl) hS dX3_seat_17
  · have fc4 := cx_eq_f (a := r2.toInt) (b := 0) rfl (by decide) c4
    refine lv_aload_n hx hb dX3_seat_8 rfl (lv_at hl 0 rfl) ?_
    refine lv_iload_n hx hb dX3_seat_9 rfl (lv_at hl 1 rfl) ?_
    refine hc_Vi (As := [.int x1]) (rest := []) (n := 1) (wr := [(r_astrandOf, hcI k 8 r_rstrandOf), (r_achairOf, hcI k 8 r_rchairOf), (r_aweight, hcI k 8 r_rweight), (r_aload, hcI k 4 r_rload), (r_aheads, hcI k 4 r_rheads)]) hx hb hml hown hts hG hA hP hD hS hl.1 [5] [0, 1, 2, 3, 4] (i_X3_isDown l D k _ x1 r r_told r_strands r_chairs r_sitters r_atoldCane r_aheight r_astrandOf r_achairOf r_aweight r_acane r_sits r_dropped r_minute r_aload r_aheads r_held r_heldDown ⟨by omega, by omega⟩ ⟨by omega, by omega⟩ ⟨by omega, by omega⟩ ⟨by omega, by omega⟩) (ci := 2) (q0 := 5) rfl rfl gX3_seat_X3_isDown rfl ⟨rfl, rfl, Nat.le_of_ble_eq_true rfl, Nat.le_of_ble_eq_true rfl⟩ (by decide +kernel) rfl rfl ⟨by decide, by decide, by decide⟩ ⟨rfl, rfl, Nat.le_of_ble_eq_true rfl, Nat.le_of_ble_eq_true rfl, Nat.le_of_ble_eq_true rfl⟩ dX3_seat_10 (fun r6 u5 H locs hw hP hD hS => ?_)
    have hP : va_P D vwCl ([(r_astrandOf, hcI k 8 r_rstrandOf), (r_achairOf, hcI k 8 r_rchairOf), (r_aweight, hcI k 8 r_rweight), (r_aload, hcI k 4 r_rload), (r_aheads, hcI k 4 r_rheads), (r, .inr (2, [.int r_told, .int r_strands, .int r_chairs, .int r_sitters, .ref r_atoldCane, .ref r_aheight, .ref r_astrandOf, .ref r_achairOf, .ref r_aweight, .ref r_acane, .int r_sits, .int r_dropped, .int r_minute, .ref r_aload, .ref r_aheads, .int r_held, .int r_heldDown]))]) H := hP
    have hD : va_D A ([(r_astrandOf, hcI k 8 r_rstrandOf), (r_achairOf, hcI k 8 r_rchairOf), (r_aweight, hcI k 8 r_rweight), (r_aload, hcI k 4 r_rload), (r_aheads, hcI k 4 r_rheads), (r, .inr (2, [.int r_told, .int r_strands, .int r_chairs, .int r_sitters, .ref r_atoldCane, .ref r_aheight, .ref r_astrandOf, .ref r_achairOf, .ref r_aweight, .ref r_acane, .int r_sits, .int r_dropped, .int r_minute, .ref r_aload, .ref r_aheads, .int r_held, .int r_heldDown]))]) := hD
    obtain ⟨br6, rel7⟩ := hw
    have br6 : iv (0) (1) r6 := br6
    have br6_l := br6.1
    have br6_u := br6.2
    refine lv_iload_n hx hb dX3_seat_13 rfl (lv_at hl 2 rfl) ?_
    refine lv_icmp_ne (tgt := 18) hx hb dX3_seat_14 (by decide) (fun c8 => ?_) (fun c8 => ?_)
    · have fc8 := cx_ne_t (a := r6.toInt) (b := x2.toInt) rfl rfl c8
      refine lv_aload_n hx hb dX3_seat_18 rfl (lv_at hl 0 rfl) ?_
      refine va_get (D := D) (ci := 2) (v := .ref r_astrandOf) (C := RX3) (T := TX3) (N := 17) hx hb hts in3 hown hG.1 hP 5 rfl rfl 6 (by decide) (hts (.fieldLink RX3 32 "ChairCane$Room" "strandOf" "[I") (by decide +kernel)) (fun _ h9 => h9) rfl dX3_seat_19 ?_
      refine lv_aload_n hx hb dX3_seat_22 rfl (lv_at hl 0 rfl) ?_
      refine va_get (D := D) (ci := 2) (v := .ref r_achairOf) (C := RX3) (T := TX3) (N := 17) hx hb hts in3 hown hG.1 hP 5 rfl rfl 7 (by decide) (hts (.fieldLink RX3 35 "ChairCane$Room" "chairOf" "[I") (by decide +kernel)) (fun _ h9 => h9) rfl dX3_seat_23 ?_
      refine lv_iload_n hx hb dX3_seat_26 rfl (lv_at hl 1 rfl) ?_
      refine va_iald hx hb hG.1 hP 1 0 rfl rfl (vp_in_iff.mpr ⟨by omega, by omega⟩) dX3_seat_27 ?_
      refine lv_topi (fun z9 ez9 => ?_)
      have bz9 : iv (0) (7) z9 := by rw [ez9]; exact h_r_rchairOf _
      have bz9_l := bz9.1
      have bz9_u := bz9.2
      refine va_iald hx hb hG.1 hP 0 0 rfl rfl (vp_in_iff.mpr ⟨by omega, by omega⟩) dX3_seat_28 ?_
      refine lv_topi (fun z10 ez10 => ?_)
      have bz10 : iv (0) (3) z10 := by rw [ez10]; exact h_r_rstrandOf _
      have bz10_l := bz10.1
      have bz10_u := bz10.2
      refine lv_istore_n (lv' := [(3, .int z10), (0, .ref r), (1, .int x1), (2, .int x2)]) hx hb dX3_seat_29 rfl hl (by decide) rfl (fun ls hl => ?_)
      refine lv_aload_n hx hb dX3_seat_30 rfl (lv_at hl 1 rfl) ?_
      refine lv_dup hx hb dX3_seat_31 rfl ?_
      refine va_get (D := D) (ci := 2) (v := .int r_sits) (C := RX3) (T := TX3) (N := 17) hx hb hts in3 hown hG.1 hP 5 rfl rfl 10 (by decide) (hts (.fieldLink RX3 44 "ChairCane$Room" "sits" "I") (by decide +kernel)) (fun _ h9 => h9) rfl dX3_seat_32 ?_
      refine lv_iconst (v := 1) hx hb dX3_seat_35 (by decide) ?_
      refine lv_iload_n hx hb dX3_seat_36 rfl (lv_at hl 2 rfl) ?_
      refine lv_ishl hx hb dX3_seat_37 ?_
      refine lv_topi (fun z11 ez11 => ?_)
      refine lv_ixor hx hb dX3_seat_38 ?_
      refine lv_topi (fun z12 ez12 => ?_)
      refine va_put (D := D) (ci := 2) (v := .int z12) (C := RX3) (T := TX3) (N := 17) hx hb hts in3 tyX3 tyX3_ok nmX3 hown hG.1 hP hD hS 5 rfl rfl 10 (by decide) (hts (.fieldLink RX3 44 "ChairCane$Room" "sits" "I") (by decide +kernel)) (fun _ h9 => h9) rfl (tyX3_ok 10 (by decide)) rfl rfl (Nat.le_of_ble_eq_true rfl) dX3_seat_39 (fun H locs hP hD hS => ?_)
      have hP : va_P D vwCl ([(r_astrandOf, hcI k 8 r_rstrandOf), (r_achairOf, hcI k 8 r_rchairOf), (r_aweight, hcI k 8 r_rweight), (r_aload, hcI k 4 r_rload), (r_aheads, hcI k 4 r_rheads), (r, .inr (2, [.int r_told, .int r_strands, .int r_chairs, .int r_sitters, .ref r_atoldCane, .ref r_aheight, .ref r_astrandOf, .ref r_achairOf, .ref r_aweight, .ref r_acane, .int z12, .int r_dropped, .int r_minute, .ref r_aload, .ref r_aheads, .int r_held, .int r_heldDown]))]) H := hP
      have hD : va_D A ([(r_astrandOf, hcI k 8 r_rstrandOf), (r_achairOf, hcI k 8 r_rchairOf), (r_aweight, hcI k 8 r_rweight), (r_aload, hcI k 4 r_rload), (r_aheads, hcI k 4 r_rheads), (r, .inr (2, [.int r_told, .int r_strands, .int r_chairs, .int r_sitters, .ref r_atoldCane, .ref r_aheight, .ref r_astrandOf, .ref r_achairOf, .ref r_aweight, .ref r_acane, .int z12, .int r_dropped, .int r_minute, .ref r_aload, .ref r_aheads, .int r_held, .int r_heldDown]))]) := hD
      refine lv_aload_n hx hb dX3_seat_42 rfl (lv_at hl 1 rfl) ?_
      refine va_get (D := D) (ci := 2) (v := .ref r_aload) (C := RX3) (T := TX3) (N := 17) hx hb hts in3 hown hG.1 hP 5 rfl rfl 13 (by decide) (hts (.fieldLink RX3 53 "ChairCane$Room" "load" "[I") (by decide +kernel)) (fun _ h9 => h9) rfl dX3_seat_43 ?_
      refine lv_iload_n hx hb dX3_seat_46 rfl (lv_at hl 0 rfl) ?_
      refine lv_dup2_11 hx hb dX3_seat_47 rfl rfl ?_
      refine va_iald hx hb hG.1 hP 3 0 rfl rfl (vp_in_iff.mpr ⟨by omega, by omega⟩) dX3_seat_48 ?_
      refine lv_topi (fun z13 ez13 => ?_)
      refine lv_iload_n hx hb dX3_seat_49 rfl (lv_at hl 3 rfl) ?_
      refine lv_if_eq (tgt := 62) hx hb dX3_seat_50 (by decide) (fun c14 => ?_) (fun c14 => ?_)
      · have fc14 := cx_eq_t (a := x2.toInt) (b := 0) rfl (by decide) c14
        refine lv_aload_n hx hb dX3_seat_62 rfl (lv_at hl 1 rfl) ?_
        refine va_get (D := D) (ci := 2) (v := .ref r_aweight) (C := RX3) (T := TX3) (N := 17) hx hb hts in3 hown hG.1 hP 5 rfl rfl 8 (by decide) (hts (.fieldLink RX3 38 "ChairCane$Room" "weight" "[I") (by decide +kernel)) (fun _ h9 => h9) rfl dX3_seat_63 ?_
        refine lv_iload_n hx hb dX3_seat_66 rfl (lv_at hl 2 rfl) ?_
        refine va_iald hx hb hG.1 hP 2 0 rfl rfl (vp_in_iff.mpr ⟨by omega, by omega⟩) dX3_seat_67 ?_
        refine lv_topi (fun z15 ez15 => ?_)
        refine lv_ineg hx hb dX3_seat_68 ?_
        refine lv_topi (fun z16 ez16 => ?_)
        refine lv_iadd hx hb dX3_seat_69 ?_
        refine lv_topi (fun z17 ez17 => ?_)
        refine va_iast hx hb hG.1 hP hD hS 3 0 rfl rfl (vp_in_iff.mpr ⟨by omega, by omega⟩) dX3_seat_70 (fun H locs hP hD hS => ?_)
        obtain ⟨f18, ef18⟩ : ∃ f, f = upd r_rload (Int32.toNatClampNeg z10) (z17) := ⟨_, rfl⟩
        rw [← ef18] at hP hD
        have hP : va_P D vwCl ([(r_astrandOf, hcI k 8 r_rstrandOf), (r_achairOf, hcI k 8 r_rchairOf), (r_aweight, hcI k 8 r_rweight), (r_aload, hcI k 4 f18), (r_aheads, hcI k 4 r_rheads), (r, .inr (2, [.int r_told, .int r_strands, .int r_chairs, .int r_sitters, .ref r_atoldCane, .ref r_aheight, .ref r_astrandOf, .ref r_achairOf, .ref r_aweight, .ref r_acane, .int z12, .int r_dropped, .int r_minute, .ref r_aload, .ref r_aheads, .int r_held, .int r_heldDown]))]) H := hP
        have hD : va_D A ([(r_astrandOf, hcI k 8 r_rstrandOf), (r_achairOf, hcI k 8 r_rchairOf), (r_aweight, hcI k 8 r_rweight), (r_aload, hcI k 4 f18), (r_aheads, hcI k 4 r_rheads), (r, .inr (2, [.int r_told, .int r_strands, .int r_chairs, .int r_sitters, .ref r_atoldCane, .ref r_aheight, .ref r_astrandOf, .ref r_achairOf, .ref r_aweight, .ref r_acane, .int z12, .int r_dropped, .int r_minute, .ref r_aload, .ref r_aheads, .int r_held, .int r_heldDown]))]) := hD
        refine lv_aload_n hx hb dX3_seat_71 rfl (lv_at hl 1 rfl) ?_
        refine va_get (D := D) (ci := 2) (v := .ref r_aheads) (C := RX3) (T := TX3) (N := 17) hx hb hts in3 hown hG.1 hP 5 rfl rfl 14 (by decide) (hts (.fieldLink RX3 56 "ChairCane$Room" "heads" "[I") (by decide +kernel)) (fun _ h9 => h9) rfl dX3_seat_72 ?_
        refine lv_iload_n hx hb dX3_seat_75 rfl (lv_at hl 0 rfl) ?_
        refine lv_dup2_11 hx hb dX3_seat_76 rfl rfl ?_
        refine va_iald hx hb hG.1 hP 4 0 rfl rfl (vp_in_iff.mpr ⟨by omega, by omega⟩) dX3_seat_77 ?_
        refine lv_topi (fun z19 ez19 => ?_)
        refine lv_iload_n hx hb dX3_seat_78 rfl (lv_at hl 3 rfl) ?_
        refine lv_if_eq (tgt := 86) hx hb dX3_seat_79 (by decide) (fun c20 => ?_) (fun c20 => ?_)
        · have fc20 := cx_eq_t (a := x2.toInt) (b := 0) rfl (by decide) c20
          refine lv_iconst (v := (-1)) hx hb dX3_seat_86 (by decide) ?_
          refine lv_iadd hx hb dX3_seat_87 ?_
          refine lv_topi (fun z21 ez21 => ?_)
          refine va_iast hx hb hG.1 hP hD hS 4 0 rfl rfl (vp_in_iff.mpr ⟨by omega, by omega⟩) dX3_seat_88 (fun H locs hP hD hS => ?_)
          obtain ⟨f22, ef22⟩ : ∃ f, f = upd r_rheads (Int32.toNatClampNeg z10) (z21) := ⟨_, rfl⟩
          rw [← ef22] at hP hD
          have hP : va_P D vwCl ([(r_astrandOf, hcI k 8 r_rstrandOf), (r_achairOf, hcI k 8 r_rchairOf), (r_aweight, hcI k 8 r_rweight), (r_aload, hcI k 4 f18), (r_aheads, hcI k 4 f22), (r, .inr (2, [.int r_told, .int r_strands, .int r_chairs, .int r_sitters, .ref r_atoldCane, .ref r_aheight, .ref r_astrandOf, .ref r_achairOf, .ref r_aweight, .ref r_acane, .int z12, .int r_dropped, .int r_minute, .ref r_aload, .ref r_aheads, .int r_held, .int r_heldDown]))]) H := hP
          have hD : va_D A ([(r_astrandOf, hcI k 8 r_rstrandOf), (r_achairOf, hcI k 8 r_rchairOf), (r_aweight, hcI k 8 r_rweight), (r_aload, hcI k 4 f18), (r_aheads, hcI k 4 f22), (r, .inr (2, [.int r_told, .int r_strands, .int r_chairs, .int r_sitters, .ref r_atoldCane, .ref r_aheight, .ref r_astrandOf, .ref r_achairOf, .ref r_aweight, .ref r_acane, .int z12, .int r_dropped, .int r_minute, .ref r_aload, .ref r_aheads, .int r_held, .int r_heldDown]))]) := hD
          exact hc_endV hx hb hr hlocks (z12, f18, f22) trivial (hP.sub [5, 0, 1, 2, 3, 4] rfl) (hD.sub [5, 0, 1, 2, 3, 4] (by decide) rfl) hS dX3_seat_89
        · have fc20 := cx_eq_f (a := x2.toInt) (b := 0) rfl (by decide) c20
          refine lv_iconst (v := 1) hx hb dX3_seat_82 (by decide) ?_
          refine lv_goto (tgt := 87) hx hb dX3_seat_83 (by decide) ?_
          refine lv_iadd hx hb dX3_seat_87 ?_
          refine lv_topi (fun z23 ez23 => ?_)
          refine va_iast hx hb hG.1 hP hD hS 4 0 rfl rfl (vp_in_iff.mpr ⟨by omega, by omega⟩) dX3_seat_88 (fun H locs hP hD hS => ?_)
          obtain ⟨f24, ef24⟩ : ∃ f, f = upd r_rheads (Int32.toNatClampNeg z10) (z23) := ⟨_, rfl⟩
          rw [← ef24] at hP hD
          have hP : va_P D vwCl ([(r_astrandOf, hcI k 8 r_rstrandOf), (r_achairOf, hcI k 8 r_rchairOf), (r_aweight, hcI k 8 r_rweight), (r_aload, hcI k 4 f18), (r_aheads, hcI k 4 f24), (r, .inr (2, [.int r_told, .int r_strands, .int r_chairs, .int r_sitters, .ref r_atoldCane, .ref r_aheight, .ref r_astrandOf, .ref r_achairOf, .ref r_aweight, .ref r_acane, .int z12, .int r_dropped, .int r_minute, .ref r_aload, .ref r_aheads, .int r_held, .int r_heldDown]))]) H := hP
          have hD : va_D A ([(r_astrandOf, hcI k 8 r_rstrandOf), (r_achairOf, hcI k 8 r_rchairOf), (r_aweight, hcI k 8 r_rweight), (r_aload, hcI k 4 f18), (r_aheads, hcI k 4 f24), (r, .inr (2, [.int r_told, .int r_strands, .int r_chairs, .int r_sitters, .ref r_atoldCane, .ref r_aheight, .ref r_astrandOf, .ref r_achairOf, .ref r_aweight, .ref r_acane, .int z12, .int r_dropped, .int r_minute, .ref r_aload, .ref r_aheads, .int r_held, .int r_heldDown]))]) := hD
          exact hc_endV hx hb hr hlocks (z12, f18, f24) trivial (hP.sub [5, 0, 1, 2, 3, 4] rfl) (hD.sub [5, 0, 1, 2, 3, 4] (by decide) rfl) hS dX3_seat_89
      · have fc14 := cx_eq_f (a := x2.toInt) (b := 0) rfl (by decide) c14
        refine lv_aload_n hx hb dX3_seat_53 rfl (lv_at hl 1 rfl) ?_
        refine va_get (D := D) (ci := 2) (v := .ref r_aweight) (C := RX3) (T := TX3) (N := 17) hx hb hts in3 hown hG.1 hP 5 rfl rfl 8 (by decide) (hts (.fieldLink RX3 38 "ChairCane$Room" "weight" "[I") (by decide +kernel)) (fun _ h9 => h9) rfl dX3_seat_54 ?_
        refine lv_iload_n hx hb dX3_seat_57 rfl (lv_at hl 2 rfl) ?_
        refine va_iald hx hb hG.1 hP 2 0 rfl rfl (vp_in_iff.mpr ⟨by omega, by omega⟩) dX3_seat_58 ?_
        refine lv_topi (fun z25 ez25 => ?_)
        refine lv_goto (tgt := 69) hx hb dX3_seat_59 (by decide) ?_
        refine lv_iadd hx hb dX3_seat_69 ?_
        refine lv_topi (fun z26 ez26 => ?_)
        refine va_iast hx hb hG.1 hP hD hS 3 0 rfl rfl (vp_in_iff.mpr ⟨by omega, by omega⟩) dX3_seat_70 (fun H locs hP hD hS => ?_)
        obtain ⟨f27, ef27⟩ : ∃ f, f = upd r_rload (Int32.toNatClampNeg z10) (z26) := ⟨_, rfl⟩
        rw [← ef27] at hP hD
        have hP : va_P D vwCl ([(r_astrandOf, hcI k 8 r_rstrandOf), (r_achairOf, hcI k 8 r_rchairOf), (r_aweight, hcI k 8 r_rweight), (r_aload, hcI k 4 f27), (r_aheads, hcI k 4 r_rheads), (r, .inr (2, [.int r_told, .int r_strands, .int r_chairs, .int r_sitters, .ref r_atoldCane, .ref r_aheight, .ref r_astrandOf, .ref r_achairOf, .ref r_aweight, .ref r_acane, .int z12, .int r_dropped, .int r_minute, .ref r_aload, .ref r_aheads, .int r_held, .int r_heldDown]))]) H := hP
        have hD : va_D A ([(r_astrandOf, hcI k 8 r_rstrandOf), (r_achairOf, hcI k 8 r_rchairOf), (r_aweight, hcI k 8 r_rweight), (r_aload, hcI k 4 f27), (r_aheads, hcI k 4 r_rheads), (r, .inr (2, [.int r_told, .int r_strands, .int r_chairs, .int r_sitters, .ref r_atoldCane, .ref r_aheight, .ref r_astrandOf, .ref r_achairOf, .ref r_aweight, .ref r_acane, .int z12, .int r_dropped, .int r_minute, .ref r_aload, .ref r_aheads, .int r_held, .int r_heldDown]))]) := hD
        refine lv_aload_n hx hb dX3_seat_71 rfl (lv_at hl 1 rfl) ?_
        refine va_get (D := D) (ci := 2) (v := .ref r_aheads) (C := RX3) (T := TX3) (N := 17) hx hb hts in3 hown hG.1 hP 5 rfl rfl 14 (by decide) (hts (.fieldLink RX3 56 "ChairCane$Room" "heads" "[I") (by decide +kernel)) (fun _ h9 => h9) rfl dX3_seat_72 ?_
        refine lv_iload_n hx hb dX3_seat_75 rfl (lv_at hl 0 rfl) ?_
        refine lv_dup2_11 hx hb dX3_seat_76 rfl rfl ?_
        refine va_iald hx hb hG.1 hP 4 0 rfl rfl (vp_in_iff.mpr ⟨by omega, by omega⟩) dX3_seat_77 ?_
        refine lv_topi (fun z28 ez28 => ?_)
        refine lv_iload_n hx hb dX3_seat_78 rfl (lv_at hl 3 rfl) ?_
        refine lv_if_eq (tgt := 86) hx hb dX3_seat_79 (by decide) (fun c29 => ?_) (fun c29 => ?_)
        · have fc29 := cx_eq_t (a := x2.toInt) (b := 0) rfl (by decide) c29
          refine lv_iconst (v := (-1)) hx hb dX3_seat_86 (by decide) ?_
          refine lv_iadd hx hb dX3_seat_87 ?_
          refine lv_topi (fun z30 ez30 => ?_)
          refine va_iast hx hb hG.1 hP hD hS 4 0 rfl rfl (vp_in_iff.mpr ⟨by omega, by omega⟩) dX3_seat_88 (fun H locs hP hD hS => ?_)
          obtain ⟨f31, ef31⟩ : ∃ f, f = upd r_rheads (Int32.toNatClampNeg z10) (z30) := ⟨_, rfl⟩
          rw [← ef31] at hP hD
          have hP : va_P D vwCl ([(r_astrandOf, hcI k 8 r_rstrandOf), (r_achairOf, hcI k 8 r_rchairOf), (r_aweight, hcI k 8 r_rweight), (r_aload, hcI k 4 f27), (r_aheads, hcI k 4 f31), (r, .inr (2, [.int r_told, .int r_strands, .int r_chairs, .int r_sitters, .ref r_atoldCane, .ref r_aheight, .ref r_astrandOf, .ref r_achairOf, .ref r_aweight, .ref r_acane, .int z12, .int r_dropped, .int r_minute, .ref r_aload, .ref r_aheads, .int r_held, .int r_heldDown]))]) H := hP
          have hD : va_D A ([(r_astrandOf, hcI k 8 r_rstrandOf), (r_achairOf, hcI k 8 r_rchairOf), (r_aweight, hcI k 8 r_rweight), (r_aload, hcI k 4 f27), (r_aheads, hcI k 4 f31), (r, .inr (2, [.int r_told, .int r_strands, .int r_chairs, .int r_sitters, .ref r_atoldCane, .ref r_aheight, .ref r_astrandOf, .ref r_achairOf, .ref r_aweight, .ref r_acane, .int z12, .int r_dropped, .int r_minute, .ref r_aload, .ref r_aheads, .int r_held, .int r_heldDown]))]) := hD
          exact hc_endV hx hb hr hlocks (z12, f27, f31) trivial (hP.sub [5, 0, 1, 2, 3, 4] rfl) (hD.sub [5, 0, 1, 2, 3, 4] (by decide) rfl) hS dX3_seat_89
        · have fc29 := cx_eq_f (a := x2.toInt) (b := 0) rfl (by decide) c29
          refine lv_iconst (v := 1) hx hb dX3_seat_82 (by decide) ?_
          refine lv_goto (tgt := 87) hx hb dX3_seat_83 (by decide) ?_
          refine lv_iadd hx hb dX3_seat_87 ?_
          refine lv_topi (fun z32 ez32 => ?_)
          refine va_iast hx hb hG.1 hP hD hS 4 0 rfl rfl (vp_in_iff.mpr ⟨by omega, by omega⟩) dX3_seat_88 (fun H locs hP hD hS => ?_)
          obtain ⟨f33, ef33⟩ : ∃ f, f = upd r_rheads (Int32.toNatClampNeg z10) (z32) := ⟨_, rfl⟩
          rw [← ef33] at hP hD
          have hP : va_P D vwCl ([(r_astrandOf, hcI k 8 r_rstrandOf), (r_achairOf, hcI k 8 r_rchairOf), (r_aweight, hcI k 8 r_rweight), (r_aload, hcI k 4 f27), (r_aheads, hcI k 4 f33), (r, .inr (2, [.int r_told, .int r_strands, .int r_chairs, .int r_sitters, .ref r_atoldCane, .ref r_aheight, .ref r_astrandOf, .ref r_achairOf, .ref r_aweight, .ref r_acane, .int z12, .int r_dropped, .int r_minute, .ref r_aload, .ref r_aheads, .int r_held, .int r_heldDown]))]) H := hP
          have hD : va_D A ([(r_astrandOf, hcI k 8 r_rstrandOf), (r_achairOf, hcI k 8 r_rchairOf), (r_aweight, hcI k 8 r_rweight), (r_aload, hcI k 4 f27), (r_aheads, hcI k 4 f33), (r, .inr (2, [.int r_told, .int r_strands, .int r_chairs, .int r_sitters, .ref r_atoldCane, .ref r_aheight, .ref r_astrandOf, .ref r_achairOf, .ref r_aweight, .ref r_acane, .int z12, .int r_dropped, .int r_minute, .ref r_aload, .ref r_aheads, .int r_held, .int r_heldDown]))]) := hD
          exact hc_endV hx hb hr hlocks (z12, f27, f33) trivial (hP.sub [5, 0, 1, 2, 3, 4] rfl) (hD.sub [5, 0, 1, 2, 3, 4] (by decide) rfl) hS dX3_seat_89
    · have fc8 := cx_ne_f (a := r6.toInt) (b := x2.toInt) rfl rfl c8
      exact hc_endV hx hb hr hlocks (r_sits, r_rload, r_rheads) trivial (hP.sub [5, 0, 1, 2, 3, 4] rfl) (hD.sub [5, 0, 1, 2, 3, 4] (by decide) rfl) hS dX3_seat_17
set_option maxHeartbeats 4000000 in
set_option maxRecDepth 100000 in
theorem i_J7_fill_53178 (l : Launch) (D : va_G) (k : Nat → ClassId) (sz : Nat) (x1 : Int32) (a : Nat) (a_r : Nat → Int32)  : CtV l yJ7_fill_53178 wsJ7_fill_53178 (rmK 1 0 0) [.ref a, .int x1] D k sz ([(a, hcI k 4 a_r)]) (fun u : (Nat → Int32) => True) (fun u : (Nat → Int32) => [(a, hcI k 4 (u))]) 0 0 := by
  refine CtV.mk (cc := cJ7_fill_53178) (maxL := 4) (ret := none) (by decide) rfl (Nat.le_of_ble_eq_true rfl) ?_
  intro p e s m below meth c A ls E hP hD hS hl
  obtain ⟨hx, hb, hr, hml, hown, hts, hlocks, hin, hG, hA⟩ := E
  have hown : s.vm.findClass RJ7 = some m.cls := hown
  have hl : lv_has ls 4 [(0, .ref a), (1, .int x1)] := hl
  refine lv_iconst (v := 0) hx hb dJ7_fill_53178_0 (by decide) ?_
  refine lv_istore_n (lv' := [(2, .int 0), (0, .ref a), (1, .int x1)]) hx hb dJ7_fill_53178_1 rfl hl (by decide) rfl (fun ls hl => ?_)
  refine lv_aload_n hx hb dJ7_fill_53178_2 rfl (lv_at hl 1 rfl) ?_
  refine va_alen hx hb hG.1 hP 0 0 rfl rfl (v := 4) rfl dJ7_fill_53178_3 ?_
  refine lv_istore_n (lv' := [(3, .int 4), (2, .int 0), (0, .ref a), (1, .int x1)]) hx hb dJ7_fill_53178_4 rfl hl (by decide) rfl (fun ls hl => ?_)
  have loop1 : ∀ (fu : Nat) (L2_1 : Int32) (g_1a : Nat → Int32), iv (0) (4) L2_1 → 4 - L2_1.toInt < (fu : Int) → ∀ (H : Heap) (locs : List Loc) (ls : Array Slot), va_P D vwCl ([(a, hcI k 4 g_1a)]) H → va_D A ([(a, hcI k 4 g_1a)]) → va_S A s.heap H locs → lv_has ls 4 [(3, .int 4), (2, .int L2_1), (0, .ref a), (1, .int x1)] → W p l e (rmK 1 0 0) s m (List.toArray [.ref a, .int x1]) below meth c H locs 0 0 (MQ below (va_Qv (fun u : (Nat → Int32) => True) (hcB D (fun u : (Nat → Int32) => [(a, hcI k 4 (u))]) A) A) (List.toArray [.ref a, .int x1]) s 0 0 A) (F0 m 5 ls []) := by
    intro fu
    induction fu with
    | zero =>
      intro L2_1 g_1a bL2_1 hm
      have bL2_1_l := bL2_1.1
      have bL2_1_u := bL2_1.2
      exact absurd hm (by omega)
    | succ fu ih1 =>
      intro L2_1 g_1a bL2_1 hm H locs ls hP hD hS hl
      have bL2_1_l := bL2_1.1
      have bL2_1_u := bL2_1.2
      refine lv_iload_n hx hb dJ7_fill_53178_5 rfl (lv_at hl 1 rfl) ?_
      refine lv_iload_n hx hb dJ7_fill_53178_6 rfl (lv_at hl 0 rfl) ?_
      refine lv_icmp_ge (tgt := 20) hx hb dJ7_fill_53178_7 (by decide) (fun c2 => ?_) (fun c2 => ?_)
      · have fc2 := cx_ge_t (a := L2_1.toInt) (b := 4) rfl (by decide) c2
        exact hc_endV hx hb hr hlocks (g_1a) trivial hP hD hS dJ7_fill_53178_20
      · have fc2 := cx_ge_f (a := L2_1.toInt) (b := 4) rfl (by decide) c2
        refine lv_aload_n hx hb dJ7_fill_53178_10 rfl (lv_at hl 2 rfl) ?_
        refine lv_iload_n hx hb dJ7_fill_53178_11 rfl (lv_at hl 1 rfl) ?_
        refine lv_iload_n hx hb dJ7_fill_53178_12 rfl (lv_at hl 3 rfl) ?_
        refine va_iast hx hb hG.1 hP hD hS 0 0 rfl rfl (vp_in_iff.mpr ⟨by omega, by omega⟩) dJ7_fill_53178_13 (fun H locs hP hD hS => ?_)
        obtain ⟨f3, ef3⟩ : ∃ f, f = upd g_1a (Int32.toNatClampNeg L2_1) (x1) := ⟨_, rfl⟩
        rw [← ef3] at hP hD
        have hP : va_P D vwCl ([(a, hcI k 4 f3)]) H := hP
        have hD : va_D A ([(a, hcI k 4 f3)]) := hD
        obtain ⟨z4, ez4⟩ : ∃ z : Int32, z = L2_1 + 1 := ⟨_, rfl⟩
        have tz4 : z4.toInt = L2_1.toInt + (1) := ai_add rfl (by decide) ez4 (by omega) (by omega)
        refine lv_iinc (v := z4) (lv' := [(2, .int z4), (3, .int 4), (0, .ref a), (1, .int x1)]) hx hb dJ7_fill_53178_14 hl (k := 1) rfl (by rw [ez4]; rfl) (by decide) rfl (fun ls hl => ?_)
        refine lv_goto (tgt := 5) hx hb dJ7_fill_53178_17 (by decide) ?_
        exact ih1 z4 f3 ⟨by omega, by omega⟩ (by omega) _ _ _ hP hD hS (lv_sub hl [1, 0, 2, 3] rfl)
  exact loop1 100 0 a_r (iv_lit (by decide) (by decide)) (by have q0 : (0 : Int32).toInt = 0 := (by decide); omega) _ _ _ hP hD hS hl
set_option maxHeartbeats 4000000 in
set_option maxRecDepth 100000 in
theorem i_X3_weigh (l : Launch) (D : va_G) (k : Nat → ClassId) (sz : Nat) (r : Nat) (r_told : Int32) (r_strands : Int32) (r_chairs : Int32) (r_sitters : Int32) (r_atoldCane : Nat) (r_aheight : Nat) (r_astrandOf : Nat) (r_achairOf : Nat) (r_aweight : Nat) (r_acane : Nat) (r_sits : Int32) (r_dropped : Int32) (r_minute : Int32) (r_aload : Nat) (r_aheads : Nat) (r_held : Int32) (r_heldDown : Int32) (r_rstrandOf : Nat → Int32) (r_rchairOf : Nat → Int32) (r_rweight : Nat → Int32) (r_rload : Nat → Int32) (r_rheads : Nat → Int32) (h_r_told : iv (0) (1) r_told) (h_r_strands : iv (0) (4) r_strands) (h_r_chairs : iv (0) (8) r_chairs) (h_r_sitters : iv (0) (8) r_sitters) (h_r_rstrandOf : rowIn (0) (3) r_rstrandOf) (h_r_rchairOf : rowIn (0) (7) r_rchairOf) : CtV l yX3_weigh wsX3_weigh (rmK 2 0 0) [.ref r] D k sz ([(r, .inr (2, [.int r_told, .int r_strands, .int r_chairs, .int r_sitters, .ref r_atoldCane, .ref r_aheight, .ref r_astrandOf, .ref r_achairOf, .ref r_aweight, .ref r_acane, .int r_sits, .int r_dropped, .int r_minute, .ref r_aload, .ref r_aheads, .int r_held, .int r_heldDown])), (r_astrandOf, hcI k 8 r_rstrandOf), (r_achairOf, hcI k 8 r_rchairOf), (r_aweight, hcI k 8 r_rweight), (r_aload, hcI k 4 r_rload), (r_aheads, hcI k 4 r_rheads)]) (fun u : (Nat → Int32) × (Nat → Int32) => True) (fun u : (Nat → Int32) × (Nat → Int32) => [(r, .inr (2, [.int r_told, .int r_strands, .int r_chairs, .int r_sitters, .ref r_atoldCane, .ref r_aheight, .ref r_astrandOf, .ref r_achairOf, .ref r_aweight, .ref r_acane, .int r_sits, .int r_dropped, .int r_minute, .ref r_aload, .ref r_aheads, .int r_held, .int r_heldDown])), (r_astrandOf, hcI k 8 r_rstrandOf), (r_achairOf, hcI k 8 r_rchairOf), (r_aweight, hcI k 8 r_rweight), (r_aload, hcI k 4 (u.1)), (r_aheads, hcI k 4 (u.2))]) 0 0 := by
  have h_r_told_l := h_r_told.1
  have h_r_told_u := h_r_told.2
  have h_r_strands_l := h_r_strands.1
  have h_r_strands_u := h_r_strands.2
  have h_r_chairs_l := h_r_chairs.1
  have h_r_chairs_u := h_r_chairs.2
  have h_r_sitters_l := h_r_sitters.1
  have h_r_sitters_u := h_r_sitters.2
  refine CtV.mk (cc := cX3_weigh) (maxL := 3) (ret := none) (by decide) rfl (Nat.le_of_ble_eq_true rfl) ?_
  intro p e s m below meth c A ls E hP hD hS hl
  obtain ⟨hx, hb, hr, hml, hown, hts, hlocks, hin, hG, hA⟩ := E
  have hown : s.vm.findClass RX3 = some m.cls := hown
  have in3 : ∀ w ∈ u_ws RX3 TX3 17, w ∈ wsX3_weigh := fun _ h => List.mem_cons_of_mem _ (List.mem_append_right _ h)
  have hl : lv_has ls 3 [(0, .ref r)] := hl
  refine lv_aload_n hx hb dX3_weigh_0 rfl (lv_at hl 0 rfl) ?_
  refine va_get (D := D) (ci := 2) (v := .ref r_aload) (C := RX3) (T := TX3) (N := 17) hx hb hts in3 hown hG.1 hP 0 rfl rfl 13 (by decide) (hts (.fieldLink RX3 53 "ChairCane$Room" "load" "[I") (by decide +kernel)) (fun _ h9 => h9) rfl dX3_weigh_1 ?_
  refine lv_iconst (v := 0) hx hb dX3_weigh_4 (by decide) ?_
  refine hc_Sv (As := [.ref r_aload, .int 0]) (rest := []) (n := 2) (wr := [(r, .inr (2, [.int r_told, .int r_strands, .int r_chairs, .int r_sitters, .ref r_atoldCane, .ref r_aheight, .ref r_astrandOf, .ref r_achairOf, .ref r_aweight, .ref r_acane, .int r_sits, .int r_dropped, .int r_minute, .ref r_aload, .ref r_aheads, .int r_held, .int r_heldDown])), (r_astrandOf, hcI k 8 r_rstrandOf), (r_achairOf, hcI k 8 r_rchairOf), (r_aweight, hcI k 8 r_rweight), (r_aheads, hcI k 4 r_rheads)]) hx hb hml hown hts hG hA hP hD hS hl.1 [4] [0, 1, 2, 3, 5] (i_J7_fill_53178 l D k _ 0 r_aload r_rload ) gX3_weigh_J7_fill_53178 rfl ⟨rfl, rfl, Nat.le_of_ble_eq_true rfl, Nat.le_of_ble_eq_true rfl⟩ (by decide +kernel) rfl rfl ⟨by decide, by decide, by decide⟩ ⟨rfl, rfl, Nat.le_of_ble_eq_true rfl, Nat.le_of_ble_eq_true rfl, Nat.le_of_ble_eq_true rfl⟩ dX3_weigh_5 (fun u1 H locs hw hP hD hS => ?_)
  obtain ⟨w3, rfl⟩ : ∃ z, z = u1 := ⟨_, rfl⟩
  have hP : va_P D vwCl ([(r, .inr (2, [.int r_told, .int r_strands, .int r_chairs, .int r_sitters, .ref r_atoldCane, .ref r_aheight, .ref r_astrandOf, .ref r_achairOf, .ref r_aweight, .ref r_acane, .int r_sits, .int r_dropped, .int r_minute, .ref r_aload, .ref r_aheads, .int r_held, .int r_heldDown])), (r_astrandOf, hcI k 8 r_rstrandOf), (r_achairOf, hcI k 8 r_rchairOf), (r_aweight, hcI k 8 r_rweight), (r_aheads, hcI k 4 r_rheads), (r_aload, hcI k 4 w3)]) H := hP
  have hD : va_D A ([(r, .inr (2, [.int r_told, .int r_strands, .int r_chairs, .int r_sitters, .ref r_atoldCane, .ref r_aheight, .ref r_astrandOf, .ref r_achairOf, .ref r_aweight, .ref r_acane, .int r_sits, .int r_dropped, .int r_minute, .ref r_aload, .ref r_aheads, .int r_held, .int r_heldDown])), (r_astrandOf, hcI k 8 r_rstrandOf), (r_achairOf, hcI k 8 r_rchairOf), (r_aweight, hcI k 8 r_rweight), (r_aheads, hcI k 4 r_rheads), (r_aload, hcI k 4 w3)]) := hD
  refine lv_aload_n hx hb dX3_weigh_8 rfl (lv_at hl 0 rfl) ?_
  refine va_get (D := D) (ci := 2) (v := .ref r_aheads) (C := RX3) (T := TX3) (N := 17) hx hb hts in3 hown hG.1 hP 0 rfl rfl 14 (by decide) (hts (.fieldLink RX3 56 "ChairCane$Room" "heads" "[I") (by decide +kernel)) (fun _ h9 => h9) rfl dX3_weigh_9 ?_
  refine lv_iconst (v := 0) hx hb dX3_weigh_12 (by decide) ?_
  refine hc_Sv (As := [.ref r_aheads, .int 0]) (rest := []) (n := 2) (wr := [(r, .inr (2, [.int r_told, .int r_strands, .int r_chairs, .int r_sitters, .ref r_atoldCane, .ref r_aheight, .ref r_astrandOf, .ref r_achairOf, .ref r_aweight, .ref r_acane, .int r_sits, .int r_dropped, .int r_minute, .ref r_aload, .ref r_aheads, .int r_held, .int r_heldDown])), (r_astrandOf, hcI k 8 r_rstrandOf), (r_achairOf, hcI k 8 r_rchairOf), (r_aweight, hcI k 8 r_rweight), (r_aload, hcI k 4 w3)]) hx hb hml hown hts hG hA hP hD hS hl.1 [4] [0, 1, 2, 3, 5] (i_J7_fill_53178 l D k _ 0 r_aheads r_rheads ) gX3_weigh_J7_fill_53178 rfl ⟨rfl, rfl, Nat.le_of_ble_eq_true rfl, Nat.le_of_ble_eq_true rfl⟩ (by decide +kernel) rfl rfl ⟨by decide, by decide, by decide⟩ ⟨rfl, rfl, Nat.le_of_ble_eq_true rfl, Nat.le_of_ble_eq_true rfl, Nat.le_of_ble_eq_true rfl⟩ dX3_weigh_13 (fun u4 H locs hw hP hD hS => ?_)
  obtain ⟨w6, rfl⟩ : ∃ z, z = u4 := ⟨_, rfl⟩
  have hP : va_P D vwCl ([(r, .inr (2, [.int r_told, .int r_strands, .int r_chairs, .int r_sitters, .ref r_atoldCane, .ref r_aheight, .ref r_astrandOf, .ref r_achairOf, .ref r_aweight, .ref r_acane, .int r_sits, .int r_dropped, .int r_minute, .ref r_aload, .ref r_aheads, .int r_held, .int r_heldDown])), (r_astrandOf, hcI k 8 r_rstrandOf), (r_achairOf, hcI k 8 r_rchairOf), (r_aweight, hcI k 8 r_rweight), (r_aload, hcI k 4 w3), (r_aheads, hcI k 4 w6)]) H := hP
  have hD : va_D A ([(r, .inr (2, [.int r_told, .int r_strands, .int r_chairs, .int r_sitters, .ref r_atoldCane, .ref r_aheight, .ref r_astrandOf, .ref r_achairOf, .ref r_aweight, .ref r_acane, .int r_sits, .int r_dropped, .int r_minute, .ref r_aload, .ref r_aheads, .int r_held, .int r_heldDown])), (r_astrandOf, hcI k 8 r_rstrandOf), (r_achairOf, hcI k 8 r_rchairOf), (r_aweight, hcI k 8 r_rweight), (r_aload, hcI k 4 w3), (r_aheads, hcI k 4 w6)]) := hD
  refine lv_iconst (v := 0) hx hb dX3_weigh_16 (by decide) ?_
  refine lv_istore_n (lv' := [(1, .int 0), (0, .ref r)]) hx hb dX3_weigh_17 rfl hl (by decide) rfl (fun ls hl => ?_)
  have loop7 : ∀ (fu : Nat) (L1_7 : Int32) (g_7r_aload : Nat → Int32) (g_7r_aheads : Nat → Int32), iv (0) (8) L1_7 → 8 - L1_7.toInt < (fu : Int) → ∀ (H : Heap) (locs : List Loc) (ls : Array Slot), va_P D vwCl ([(r, .inr (2, [.int r_told, .int r_strands, .int r_chairs, .int r_sitters, .ref r_atoldCane, .ref r_aheight, .ref r_astrandOf, .ref r_achairOf, .ref r_aweight, .ref r_acane, .int r_sits, .int r_dropped, .int r_minute, .ref r_aload, .ref r_aheads, .int r_held, .int r_heldDown])), (r_astrandOf, hcI k 8 r_rstrandOf), (r_achairOf, hcI k 8 r_rchairOf), (r_aweight, hcI k 8 r_rweight), (r_aload, hcI k 4 g_7r_aload), (r_aheads, hcI k 4 g_7r_aheads)]) H → va_D A ([(r, .inr (2, [.int r_told, .int r_strands, .int r_chairs, .int r_sitters, .ref r_atoldCane, .ref r_aheight, .ref r_astrandOf, .ref r_achairOf, .ref r_aweight, .ref r_acane, .int r_sits, .int r_dropped, .int r_minute, .ref r_aload, .ref r_aheads, .int r_held, .int r_heldDown])), (r_astrandOf, hcI k 8 r_rstrandOf), (r_achairOf, hcI k 8 r_rchairOf), (r_aweight, hcI k 8 r_rweight), (r_aload, hcI k 4 g_7r_aload), (r_aheads, hcI k 4 g_7r_aheads)]) → va_S A s.heap H locs → lv_has ls 3 [(1, .int L1_7), (0, .ref r)] → W p l e (rmK 2 0 0) s m (List.toArray [.ref r]) below meth c H locs 0 0 (MQ below (va_Qv (fun u : (Nat → Int32) × (Nat → Int32) => True) (hcB D (fun u : (Nat → Int32) × (Nat → Int32) => [(r, .inr (2, [.int r_told, .int r_strands, .int r_chairs, .int r_sitters, .ref r_atoldCane, .ref r_aheight, .ref r_astrandOf, .ref r_achairOf, .ref r_aweight, .ref r_acane, .int r_sits, .int r_dropped, .int r_minute, .ref r_aload, .ref r_aheads, .int r_held, .int r_heldDown])), (r_astrandOf, hcI k 8 r_rstrandOf), (r_achairOf, hcI k 8 r_rchairOf), (r_aweight, hcI k 8 r_rweight), (r_aload, hcI k 4 (u.1)), (r_aheads, hcI k 4 (u.2))]) A) A) (List.toArray [.ref r]) s 0 0 A) (F0 m 18 ls []) := by
    intro fu
    induction fu with
    | zero =>
      intro L1_7 g_7r_aload g_7r_aheads bL1_7 hm
      have bL1_7_l := bL1_7.1
      have bL1_7_u := bL1_7.2
      exact absurd hm (by omega)
    | succ fu ih7 =>
      intro L1_7 g_7r_aload g_7r_aheads bL1_7 hm H locs ls hP hD hS hl
      have bL1_7_l := bL1_7.1
      have bL1_7_u := bL1_7.2
      refine lv_iload_n hx hb dX3_weigh_18 rfl (lv_at hl 0 rfl) ?_
      refine lv_aload_n hx hb dX3_weigh_19 rfl (lv_at hl 1 rfl) ?_
      refine va_get (D := D) (ci := 2) (v := .int r_sitters) (C := RX3) (T := TX3) (N := 17) hx hb hts in3 hown hG.1 hP 0 rfl rfl 3 (by decide) (hts (.fieldLink RX3 22 "ChairCane$Room" "sitters" "I") (by decide +kernel)) (fun _ h9 => h9) rfl dX3_weigh_20 ?_
      refine lv_icmp_ge (tgt := 77) hx hb dX3_weigh_23 (by decide) (fun c8 => ?_) (fun c8 => ?_)
      · have fc8 := cx_ge_t (a := L1_7.toInt) (b := r_sitters.toInt) rfl rfl c8
        exact hc_endV hx hb hr hlocks (g_7r_aload, g_7r_aheads) trivial hP hD hS dX3_weigh_77
      · have fc8 := cx_ge_f (a := L1_7.toInt) (b := r_sitters.toInt) rfl rfl c8
        refine lv_aload_n hx hb dX3_weigh_26 rfl (lv_at hl 1 rfl) ?_
        refine lv_iload_n hx hb dX3_weigh_27 rfl (lv_at hl 0 rfl) ?_
        refine hc_Vi (As := [.int L1_7]) (rest := []) (n := 1) (wr := [(r_astrandOf, hcI k 8 r_rstrandOf), (r_achairOf, hcI k 8 r_rchairOf), (r_aweight, hcI k 8 r_rweight), (r_aload, hcI k 4 g_7r_aload), (r_aheads, hcI k 4 g_7r_aheads)]) hx hb hml hown hts hG hA hP hD hS hl.1 [0] [1, 2, 3, 4, 5] (i_X3_isDown l D k _ L1_7 r r_told r_strands r_chairs r_sitters r_atoldCane r_aheight r_astrandOf r_achairOf r_aweight r_acane r_sits r_dropped r_minute r_aload r_aheads r_held r_heldDown ⟨by omega, by omega⟩ ⟨by omega, by omega⟩ ⟨by omega, by omega⟩ ⟨by omega, by omega⟩) (ci := 2) (q0 := 0) rfl rfl gX3_weigh_X3_isDown rfl ⟨rfl, rfl, Nat.le_of_ble_eq_true rfl, Nat.le_of_ble_eq_true rfl⟩ (by decide +kernel) rfl rfl ⟨by decide, by decide, by decide⟩ ⟨rfl, rfl, Nat.le_of_ble_eq_true rfl, Nat.le_of_ble_eq_true rfl, Nat.le_of_ble_eq_true rfl⟩ dX3_weigh_28 (fun r10 u9 H locs hw hP hD hS => ?_)
        have hP : va_P D vwCl ([(r_astrandOf, hcI k 8 r_rstrandOf), (r_achairOf, hcI k 8 r_rchairOf), (r_aweight, hcI k 8 r_rweight), (r_aload, hcI k 4 g_7r_aload), (r_aheads, hcI k 4 g_7r_aheads), (r, .inr (2, [.int r_told, .int r_strands, .int r_chairs, .int r_sitters, .ref r_atoldCane, .ref r_aheight, .ref r_astrandOf, .ref r_achairOf, .ref r_aweight, .ref r_acane, .int r_sits, .int r_dropped, .int r_minute, .ref r_aload, .ref r_aheads, .int r_held, .int r_heldDown]))]) H := hP
        have hD : va_D A ([(r_astrandOf, hcI k 8 r_rstrandOf), (r_achairOf, hcI k 8 r_rchairOf), (r_aweight, hcI k 8 r_rweight), (r_aload, hcI k 4 g_7r_aload), (r_aheads, hcI k 4 g_7r_aheads), (r, .inr (2, [.int r_told, .int r_strands, .int r_chairs, .int r_sitters, .ref r_atoldCane, .ref r_aheight, .ref r_astrandOf, .ref r_achairOf, .ref r_aweight, .ref r_acane, .int r_sits, .int r_dropped, .int r_minute, .ref r_aload, .ref r_aheads, .int r_held, .int r_heldDown]))]) := hD
        obtain ⟨br10, rel11⟩ := hw
        have br10 : iv (0) (1) r10 := br10
        have br10_l := br10.1
        have br10_u := br10.2
        refine lv_if_eq (tgt := 71) hx hb dX3_weigh_31 (by decide) (fun c12 => ?_) (fun c12 => ?_)
        · have fc12 := cx_eq_t (a := r10.toInt) (b := 0) rfl (by decide) c12
          obtain ⟨z13, ez13⟩ : ∃ z : Int32, z = L1_7 + 1 := ⟨_, rfl⟩
          have tz13 : z13.toInt = L1_7.toInt + (1) := ai_add rfl (by decide) ez13 (by omega) (by omega)
          refine lv_iinc (v := z13) (lv' := [(1, .int z13), (0, .ref r)]) hx hb dX3_weigh_71 hl (k := 0) rfl (by rw [ez13]; rfl) (by decide) rfl (fun ls hl => ?_)
          refine lv_goto (tgt := 18) hx hb dX3_weigh_74 (by decide) ?_
          exact ih7 z13 g_7r_aload g_7r_aheads ⟨by omega, by omega⟩ (by omega) _ _ _ (hP.sub [5, 0, 1, 2, 3, 4] rfl) (hD.sub [5, 0, 1, 2, 3, 4] (by decide) rfl) hS (lv_sub hl [0, 1] rfl)
        · have fc12 := cx_eq_f (a := r10.toInt) (b := 0) rfl (by decide) c12
          refine lv_aload_n hx hb dX3_weigh_34 rfl (lv_at hl 1 rfl) ?_
          refine va_get (D := D) (ci := 2) (v := .ref r_astrandOf) (C := RX3) (T := TX3) (N := 17) hx hb hts in3 hown hG.1 hP 5 rfl rfl 6 (by decide) (hts (.fieldLink RX3 32 "ChairCane$Room" "strandOf" "[I") (by decide +kernel)) (fun _ h9 => h9) rfl dX3_weigh_35 ?_
          refine lv_aload_n hx hb dX3_weigh_38 rfl (lv_at hl 1 rfl) ?_
          refine va_get (D := D) (ci := 2) (v := .ref r_achairOf) (C := RX3) (T := TX3) (N := 17) hx hb hts in3 hown hG.1 hP 5 rfl rfl 7 (by decide) (hts (.fieldLink RX3 35 "ChairCane$Room" "chairOf" "[I") (by decide +kernel)) (fun _ h9 => h9) rfl dX3_weigh_39 ?_
          refine lv_iload_n hx hb dX3_weigh_42 rfl (lv_at hl 0 rfl) ?_
          refine va_iald hx hb hG.1 hP 1 0 rfl rfl (vp_in_iff.mpr ⟨by omega, by omega⟩) dX3_weigh_43 ?_
          refine lv_topi (fun z14 ez14 => ?_)
          have bz14 : iv (0) (7) z14 := by rw [ez14]; exact h_r_rchairOf _
          have bz14_l := bz14.1
          have bz14_u := bz14.2
          refine va_iald hx hb hG.1 hP 0 0 rfl rfl (vp_in_iff.mpr ⟨by omega, by omega⟩) dX3_weigh_44 ?_
          refine lv_topi (fun z15 ez15 => ?_)
          have bz15 : iv (0) (3) z15 := by rw [ez15]; exact h_r_rstrandOf _
          have bz15_l := bz15.1
          have bz15_u := bz15.2
          refine lv_istore_n (lv' := [(2, .int z15), (1, .int L1_7), (0, .ref r)]) hx hb dX3_weigh_45 rfl hl (by decide) rfl (fun ls hl => ?_)
          refine lv_aload_n hx hb dX3_weigh_46 rfl (lv_at hl 2 rfl) ?_
          refine va_get (D := D) (ci := 2) (v := .ref r_aload) (C := RX3) (T := TX3) (N := 17) hx hb hts in3 hown hG.1 hP 5 rfl rfl 13 (by decide) (hts (.fieldLink RX3 53 "ChairCane$Room" "load" "[I") (by decide +kernel)) (fun _ h9 => h9) rfl dX3_weigh_47 ?_
          refine lv_iload_n hx hb dX3_weigh_50 rfl (lv_at hl 0 rfl) ?_
          refine lv_dup2_11 hx hb dX3_weigh_51 rfl rfl ?_
          refine va_iald hx hb hG.1 hP 3 0 rfl rfl (vp_in_iff.mpr ⟨by omega, by omega⟩) dX3_weigh_52 ?_
          refine lv_topi (fun z16 ez16 => ?_)
          refine lv_aload_n hx hb dX3_weigh_53 rfl (lv_at hl 2 rfl) ?_
          refine va_get (D := D) (ci := 2) (v := .ref r_aweight) (C := RX3) (T := TX3) (N := 17) hx hb hts in3 hown hG.1 hP 5 rfl rfl 8 (by decide) (hts (.fieldLink RX3 38 "ChairCane$Room" "weight" "[I") (by decide +kernel)) (fun _ h9 => h9) rfl dX3_weigh_54 ?_
          refine lv_iload_n hx hb dX3_weigh_57 rfl (lv_at hl 1 rfl) ?_
          refine va_iald hx hb hG.1 hP 2 0 rfl rfl (vp_in_iff.mpr ⟨by omega, by omega⟩) dX3_weigh_58 ?_
          refine lv_topi (fun z17 ez17 => ?_)
          refine lv_iadd hx hb dX3_weigh_59 ?_
          refine lv_topi (fun z18 ez18 => ?_)
          refine va_iast hx hb hG.1 hP hD hS 3 0 rfl rfl (vp_in_iff.mpr ⟨by omega, by omega⟩) dX3_weigh_60 (fun H locs hP hD hS => ?_)
          obtain ⟨f19, ef19⟩ : ∃ f, f = upd g_7r_aload (Int32.toNatClampNeg z15) (z18) := ⟨_, rfl⟩
          rw [← ef19] at hP hD
          have hP : va_P D vwCl ([(r_astrandOf, hcI k 8 r_rstrandOf), (r_achairOf, hcI k 8 r_rchairOf), (r_aweight, hcI k 8 r_rweight), (r_aload, hcI k 4 f19), (r_aheads, hcI k 4 g_7r_aheads), (r, .inr (2, [.int r_told, .int r_strands, .int r_chairs, .int r_sitters, .ref r_atoldCane, .ref r_aheight, .ref r_astrandOf, .ref r_achairOf, .ref r_aweight, .ref r_acane, .int r_sits, .int r_dropped, .int r_minute, .ref r_aload, .ref r_aheads, .int r_held, .int r_heldDown]))]) H := hP
          have hD : va_D A ([(r_astrandOf, hcI k 8 r_rstrandOf), (r_achairOf, hcI k 8 r_rchairOf), (r_aweight, hcI k 8 r_rweight), (r_aload, hcI k 4 f19), (r_aheads, hcI k 4 g_7r_aheads), (r, .inr (2, [.int r_told, .int r_strands, .int r_chairs, .int r_sitters, .ref r_atoldCane, .ref r_aheight, .ref r_astrandOf, .ref r_achairOf, .ref r_aweight, .ref r_acane, .int r_sits, .int r_dropped, .int r_minute, .ref r_aload, .ref r_aheads, .int r_held, .int r_heldDown]))]) := hD
          refine lv_aload_n hx hb dX3_weigh_61 rfl (lv_at hl 2 rfl) ?_
          refine va_get (D := D) (ci := 2) (v := .ref r_aheads) (C := RX3) (T := TX3) (N := 17) hx hb hts in3 hown hG.1 hP 5 rfl rfl 14 (by decide) (hts (.fieldLink RX3 56 "ChairCane$Room" "heads" "[I") (by decide +kernel)) (fun _ h9 => h9) rfl dX3_weigh_62 ?_
          refine lv_iload_n hx hb dX3_weigh_65 rfl (lv_at hl 0 rfl) ?_
          refine lv_dup2_11 hx hb dX3_weigh_66 rfl rfl ?_
          refine va_iald hx hb hG.1 hP 4 0 rfl rfl (vp_in_iff.mpr ⟨by omega, by omega⟩) dX3_weigh_67 ?_
          refine lv_topi (fun z20 ez20 => ?_)
          refine lv_iconst (v := 1) hx hb dX3_weigh_68 (by decide) ?_
          refine lv_iadd hx hb dX3_weigh_69 ?_
          refine lv_topi (fun z21 ez21 => ?_)
          refine va_iast hx hb hG.1 hP hD hS 4 0 rfl rfl (vp_in_iff.mpr ⟨by omega, by omega⟩) dX3_weigh_70 (fun H locs hP hD hS => ?_)
          obtain ⟨f22, ef22⟩ : ∃ f, f = upd g_7r_aheads (Int32.toNatClampNeg z15) (z21) := ⟨_, rfl⟩
          rw [← ef22] at hP hD
          have hP : va_P D vwCl ([(r_astrandOf, hcI k 8 r_rstrandOf), (r_achairOf, hcI k 8 r_rchairOf), (r_aweight, hcI k 8 r_rweight), (r_aload, hcI k 4 f19), (r_aheads, hcI k 4 f22), (r, .inr (2, [.int r_told, .int r_strands, .int r_chairs, .int r_sitters, .ref r_atoldCane, .ref r_aheight, .ref r_astrandOf, .ref r_achairOf, .ref r_aweight, .ref r_acane, .int r_sits, .int r_dropped, .int r_minute, .ref r_aload, .ref r_aheads, .int r_held, .int r_heldDown]))]) H := hP
          have hD : va_D A ([(r_astrandOf, hcI k 8 r_rstrandOf), (r_achairOf, hcI k 8 r_rchairOf), (r_aweight, hcI k 8 r_rweight), (r_aload, hcI k 4 f19), (r_aheads, hcI k 4 f22), (r, .inr (2, [.int r_told, .int r_strands, .int r_chairs, .int r_sitters, .ref r_atoldCane, .ref r_aheight, .ref r_astrandOf, .ref r_achairOf, .ref r_aweight, .ref r_acane, .int r_sits, .int r_dropped, .int r_minute, .ref r_aload, .ref r_aheads, .int r_held, .int r_heldDown]))]) := hD
          obtain ⟨z23, ez23⟩ : ∃ z : Int32, z = L1_7 + 1 := ⟨_, rfl⟩
          have tz23 : z23.toInt = L1_7.toInt + (1) := ai_add rfl (by decide) ez23 (by omega) (by omega)
          refine lv_iinc (v := z23) (lv' := [(1, .int z23), (2, .int z15), (0, .ref r)]) hx hb dX3_weigh_71 hl (k := 1) rfl (by rw [ez23]; rfl) (by decide) rfl (fun ls hl => ?_)
          refine lv_goto (tgt := 18) hx hb dX3_weigh_74 (by decide) ?_
          exact ih7 z23 f19 f22 ⟨by omega, by omega⟩ (by omega) _ _ _ (hP.sub [5, 0, 1, 2, 3, 4] rfl) (hD.sub [5, 0, 1, 2, 3, 4] (by decide) rfl) hS (lv_sub hl [0, 2] rfl)
  exact loop7 100 0 w3 w6 (iv_lit (by decide) (by decide)) (by have q0 : (0 : Int32).toInt = 0 := (by decide); omega) _ _ _ hP hD hS hl
set_option maxHeartbeats 4000000 in
set_option maxRecDepth 100000 in
theorem i_X3_givenOut (l : Launch) (D : va_G) (k : Nat → ClassId) (sz : Nat) (r : Nat) (r_told : Int32) (r_strands : Int32) (r_chairs : Int32) (r_sitters : Int32) (r_atoldCane : Nat) (r_aheight : Nat) (r_astrandOf : Nat) (r_achairOf : Nat) (r_aweight : Nat) (r_acane : Nat) (r_sits : Int32) (r_dropped : Int32) (r_minute : Int32) (r_aload : Nat) (r_aheads : Nat) (r_held : Int32) (r_heldDown : Int32) (r_rheight : Nat → Int32) (r_rstrandOf : Nat → Int32) (r_rchairOf : Nat → Int32) (r_rweight : Nat → Int32) (r_rcane : Nat → Int32) (r_rload : Nat → Int32) (h_r_told : iv (0) (1) r_told) (h_r_strands : iv (0) (4) r_strands) (h_r_chairs : iv (0) (8) r_chairs) (h_r_sitters : iv (0) (8) r_sitters) (h_r_rstrandOf : rowIn (0) (3) r_rstrandOf) (h_r_rchairOf : rowIn (0) (7) r_rchairOf) : CtI l yX3_givenOut wsX3_givenOut (rmK 2 0 0) [.ref r] D k sz ([(r, .inr (2, [.int r_told, .int r_strands, .int r_chairs, .int r_sitters, .ref r_atoldCane, .ref r_aheight, .ref r_astrandOf, .ref r_achairOf, .ref r_aweight, .ref r_acane, .int r_sits, .int r_dropped, .int r_minute, .ref r_aload, .ref r_aheads, .int r_held, .int r_heldDown])), (r_aheight, hcI k 8 r_rheight), (r_astrandOf, hcI k 8 r_rstrandOf), (r_achairOf, hcI k 8 r_rchairOf), (r_aweight, hcI k 8 r_rweight), (r_acane, hcI k 4 r_rcane), (r_aload, hcI k 4 r_rload)]) (fun (r : Int32) (u : Unit) => True) (fun u : Unit => [(r, .inr (2, [.int r_told, .int r_strands, .int r_chairs, .int r_sitters, .ref r_atoldCane, .ref r_aheight, .ref r_astrandOf, .ref r_achairOf, .ref r_aweight, .ref r_acane, .int r_sits, .int r_dropped, .int r_minute, .ref r_aload, .ref r_aheads, .int r_held, .int r_heldDown])), (r_aheight, hcI k 8 r_rheight), (r_astrandOf, hcI k 8 r_rstrandOf), (r_achairOf, hcI k 8 r_rchairOf), (r_aweight, hcI k 8 r_rweight), (r_acane, hcI k 4 r_rcane), (r_aload, hcI k 4 r_rload)]) 0 0 := by
  have h_r_told_l := h_r_told.1
  have h_r_told_u := h_r_told.2
  have h_r_strands_l := h_r_strands.1
  have h_r_strands_u := h_r_strands.2
  have h_r_chairs_l := h_r_chairs.1
  have h_r_chairs_u := h_r_chairs.2
  have h_r_sitters_l := h_r_sitters.1
  have h_r_sitters_u := h_r_sitters.2
  refine CtI.mk (cc := cX3_givenOut) (maxL := 3) (ret := (some .int)) (by decide) rfl (Nat.le_of_ble_eq_true rfl) ?_
  intro p e s m below meth c A ls E hP hD hS hl
  obtain ⟨hx, hb, hr, hml, hown, hts, hlocks, hin, hG, hA⟩ := E
  have hown : s.vm.findClass RX3 = some m.cls := hown
  have in3 : ∀ w ∈ u_ws RX3 TX3 17, w ∈ wsX3_givenOut := fun _ h => List.mem_cons_of_mem _ (List.mem_append_right _ h)
  have hl : lv_has ls 3 [(0, .ref r)] := hl
  refine lv_iconst (v := 0) hx hb dX3_givenOut_0 (by decide) ?_
  refine lv_istore_n (lv' := [(1, .int 0), (0, .ref r)]) hx hb dX3_givenOut_1 rfl hl (by decide) rfl (fun ls hl => ?_)
  refine lv_iconst (v := 0) hx hb dX3_givenOut_2 (by decide) ?_
  refine lv_istore_n (lv' := [(2, .int 0), (1, .int 0), (0, .ref r)]) hx hb dX3_givenOut_3 rfl hl (by decide) rfl (fun ls hl => ?_)
  have loop1 : ∀ (fu : Nat) (L1_1 : Int32) (L2_1 : Int32), iv (0) (8) L2_1 → 8 - L2_1.toInt < (fu : Int) → ∀ (H : Heap) (locs : List Loc) (ls : Array Slot), va_P D vwCl ([(r, .inr (2, [.int r_told, .int r_strands, .int r_chairs, .int r_sitters, .ref r_atoldCane, .ref r_aheight, .ref r_astrandOf, .ref r_achairOf, .ref r_aweight, .ref r_acane, .int r_sits, .int r_dropped, .int r_minute, .ref r_aload, .ref r_aheads, .int r_held, .int r_heldDown])), (r_aheight, hcI k 8 r_rheight), (r_astrandOf, hcI k 8 r_rstrandOf), (r_achairOf, hcI k 8 r_rchairOf), (r_aweight, hcI k 8 r_rweight), (r_acane, hcI k 4 r_rcane), (r_aload, hcI k 4 r_rload)]) H → va_D A ([(r, .inr (2, [.int r_told, .int r_strands, .int r_chairs, .int r_sitters, .ref r_atoldCane, .ref r_aheight, .ref r_astrandOf, .ref r_achairOf, .ref r_aweight, .ref r_acane, .int r_sits, .int r_dropped, .int r_minute, .ref r_aload, .ref r_aheads, .int r_held, .int r_heldDown])), (r_aheight, hcI k 8 r_rheight), (r_astrandOf, hcI k 8 r_rstrandOf), (r_achairOf, hcI k 8 r_rchairOf), (r_aweight, hcI k 8 r_rweight), (r_acane, hcI k 4 r_rcane), (r_aload, hcI k 4 r_rload)]) → va_S A s.heap H locs → lv_has ls 3 [(2, .int L2_1), (1, .int L1_1), (0, .ref r)] → W p l e (rmK 2 0 0) s m (List.toArray [.ref r]) below meth c H locs 0 0 (MQ below (va_Qi (fun (r : Int32) (u : Unit) => True) (hcB D (fun u : Unit => [(r, .inr (2, [.int r_told, .int r_strands, .int r_chairs, .int r_sitters, .ref r_atoldCane, .ref r_aheight, .ref r_astrandOf, .ref r_achairOf, .ref r_aweight, .ref r_acane, .int r_sits, .int r_dropped, .int r_minute, .ref r_aload, .ref r_aheads, .int r_held, .int r_heldDown])), (r_aheight, hcI k 8 r_rheight), (r_astrandOf, hcI k 8 r_rstrandOf), (r_achairOf, hcI k 8 r_rchairOf), (r_aweight, hcI k 8 r_rweight), (r_acane, hcI k 4 r_rcane), (r_aload, hcI k 4 r_rload)]) A) A) (List.toArray [.ref r]) s 0 0 A) (F0 m 4 ls []) := by
    intro fu
    induction fu with
    | zero =>
      intro L1_1 L2_1 bL2_1 hm
      have bL2_1_l := bL2_1.1
      have bL2_1_u := bL2_1.2
      exact absurd hm (by omega)
    | succ fu ih1 =>
      intro L1_1 L2_1 bL2_1 hm H locs ls hP hD hS hl
      have bL2_1_l := bL2_1.1
      have bL2_1_u := bL2_1.2
      refine lv_iload_n hx hb dX3_givenOut_4 rfl (lv_at hl 0 rfl) ?_
      refine lv_aload_n hx hb dX3_givenOut_5 rfl (lv_at hl 2 rfl) ?_
      refine va_get (D := D) (ci := 2) (v := .int r_sitters) (C := RX3) (T := TX3) (N := 17) hx hb hts in3 hown hG.1 hP 0 rfl rfl 3 (by decide) (hts (.fieldLink RX3 22 "ChairCane$Room" "sitters" "I") (by decide +kernel)) (fun _ h9 => h9) rfl dX3_givenOut_6 ?_
      refine lv_icmp_ge (tgt := 43) hx hb dX3_givenOut_9 (by decide) (fun c2 => ?_) (fun c2 => ?_)
      · have fc2 := cx_ge_t (a := L2_1.toInt) (b := r_sitters.toInt) rfl rfl c2
        refine lv_iload_n hx hb dX3_givenOut_43 rfl (lv_at hl 1 rfl) ?_
        exact hc_end hx hb hr hlocks () trivial hP hD hS dX3_givenOut_44
      · have fc2 := cx_ge_f (a := L2_1.toInt) (b := r_sitters.toInt) rfl rfl c2
        refine lv_aload_n hx hb dX3_givenOut_12 rfl (lv_at hl 2 rfl) ?_
        refine lv_iload_n hx hb dX3_givenOut_13 rfl (lv_at hl 0 rfl) ?_
        refine hc_Vi (As := [.int L2_1]) (rest := []) (n := 1) (wr := [(r_aheight, hcI k 8 r_rheight)]) hx hb hml hown hts hG hA hP hD hS hl.1 [0, 2, 3, 4, 5, 6] [1] (i_X3_givesUnder l D k _ L2_1 r r_told r_strands r_chairs r_sitters r_atoldCane r_aheight r_astrandOf r_achairOf r_aweight r_acane r_sits r_dropped r_minute r_aload r_aheads r_held r_heldDown r_rstrandOf r_rchairOf r_rweight r_rcane r_rload ⟨by omega, by omega⟩ ⟨by omega, by omega⟩ ⟨by omega, by omega⟩ ⟨by omega, by omega⟩ h_r_rstrandOf h_r_rchairOf) (ci := 2) (q0 := 0) rfl rfl gX3_givenOut_X3_givesUnder rfl ⟨rfl, rfl, Nat.le_of_ble_eq_true rfl, Nat.le_of_ble_eq_true rfl⟩ (by decide +kernel) rfl rfl ⟨by decide, by decide, by decide⟩ ⟨rfl, rfl, Nat.le_of_ble_eq_true rfl, Nat.le_of_ble_eq_true rfl, Nat.le_of_ble_eq_true rfl⟩ dX3_givenOut_14 (fun r4 u3 H locs hw hP hD hS => ?_)
        have hP : va_P D vwCl ([(r_aheight, hcI k 8 r_rheight), (r, .inr (2, [.int r_told, .int r_strands, .int r_chairs, .int r_sitters, .ref r_atoldCane, .ref r_aheight, .ref r_astrandOf, .ref r_achairOf, .ref r_aweight, .ref r_acane, .int r_sits, .int r_dropped, .int r_minute, .ref r_aload, .ref r_aheads, .int r_held, .int r_heldDown])), (r_astrandOf, hcI k 8 r_rstrandOf), (r_achairOf, hcI k 8 r_rchairOf), (r_aweight, hcI k 8 r_rweight), (r_acane, hcI k 4 r_rcane), (r_aload, hcI k 4 r_rload)]) H := hP
        have hD : va_D A ([(r_aheight, hcI k 8 r_rheight), (r, .inr (2, [.int r_told, .int r_strands, .int r_chairs, .int r_sitters, .ref r_atoldCane, .ref r_aheight, .ref r_astrandOf, .ref r_achairOf, .ref r_aweight, .ref r_acane, .int r_sits, .int r_dropped, .int r_minute, .ref r_aload, .ref r_aheads, .int r_held, .int r_heldDown])), (r_astrandOf, hcI k 8 r_rstrandOf), (r_achairOf, hcI k 8 r_rchairOf), (r_aweight, hcI k 8 r_rweight), (r_acane, hcI k 4 r_rcane), (r_aload, hcI k 4 r_rload)]) := hD
        refine lv_aload_n hx hb dX3_givenOut_17 rfl (lv_at hl 2 rfl) ?_
        refine va_get (D := D) (ci := 2) (v := .ref r_aheight) (C := RX3) (T := TX3) (N := 17) hx hb hts in3 hown hG.1 hP 1 rfl rfl 5 (by decide) (hts (.fieldLink RX3 29 "ChairCane$Room" "height" "[I") (by decide +kernel)) (fun _ h9 => h9) rfl dX3_givenOut_18 ?_
        refine lv_aload_n hx hb dX3_givenOut_21 rfl (lv_at hl 2 rfl) ?_
        refine va_get (D := D) (ci := 2) (v := .ref r_achairOf) (C := RX3) (T := TX3) (N := 17) hx hb hts in3 hown hG.1 hP 1 rfl rfl 7 (by decide) (hts (.fieldLink RX3 35 "ChairCane$Room" "chairOf" "[I") (by decide +kernel)) (fun _ h9 => h9) rfl dX3_givenOut_22 ?_
        refine lv_iload_n hx hb dX3_givenOut_25 rfl (lv_at hl 0 rfl) ?_
        refine va_iald hx hb hG.1 hP 3 0 rfl rfl (vp_in_iff.mpr ⟨by omega, by omega⟩) dX3_givenOut_26 ?_
        refine lv_topi (fun z5 ez5 => ?_)
        have bz5 : iv (0) (7) z5 := by rw [ez5]; exact h_r_rchairOf _
        have bz5_l := bz5.1
        have bz5_u := bz5.2
        refine va_iald hx hb hG.1 hP 0 0 rfl rfl (vp_in_iff.mpr ⟨by omega, by omega⟩) dX3_givenOut_27 ?_
        refine lv_topi (fun z6 ez6 => ?_)
        refine lv_icmp_lt (tgt := 37) hx hb dX3_givenOut_28 (by decide) (fun c7 => ?_) (fun c7 => ?_)
        · have fc7 := cx_lt_t (a := r4.toInt) (b := z6.toInt) rfl rfl c7
          obtain ⟨z8, ez8⟩ : ∃ z : Int32, z = L2_1 + 1 := ⟨_, rfl⟩
          have tz8 : z8.toInt = L2_1.toInt + (1) := ai_add rfl (by decide) ez8 (by omega) (by omega)
          refine lv_iinc (v := z8) (lv' := [(2, .int z8), (1, .int L1_1), (0, .ref r)]) hx hb dX3_givenOut_37 hl (k := 0) rfl (by rw [ez8]; rfl) (by decide) rfl (fun ls hl => ?_)
          refine lv_goto (tgt := 4) hx hb dX3_givenOut_40 (by decide) ?_
          exact ih1 L1_1 z8 ⟨by omega, by omega⟩ (by omega) _ _ _ (hP.sub [1, 0, 2, 3, 4, 5, 6] rfl) (hD.sub [1, 0, 2, 3, 4, 5, 6] (by decide) rfl) hS (lv_sub hl [0, 1, 2] rfl)
        · have fc7 := cx_lt_f (a := r4.toInt) (b := z6.toInt) rfl rfl c7
          refine lv_iload_n hx hb dX3_givenOut_31 rfl (lv_at hl 1 rfl) ?_
          refine lv_iconst (v := 1) hx hb dX3_givenOut_32 (by decide) ?_
          refine lv_iload_n hx hb dX3_givenOut_33 rfl (lv_at hl 0 rfl) ?_
          refine lv_ishl hx hb dX3_givenOut_34 ?_
          refine lv_topi (fun z9 ez9 => ?_)
          refine lv_ior hx hb dX3_givenOut_35 ?_
          refine lv_topi (fun z10 ez10 => ?_)
          refine lv_istore_n (lv' := [(1, .int z10), (2, .int L2_1), (0, .ref r)]) hx hb dX3_givenOut_36 rfl hl (by decide) rfl (fun ls hl => ?_)
          obtain ⟨z11, ez11⟩ : ∃ z : Int32, z = L2_1 + 1 := ⟨_, rfl⟩
          have tz11 : z11.toInt = L2_1.toInt + (1) := ai_add rfl (by decide) ez11 (by omega) (by omega)
          refine lv_iinc (v := z11) (lv' := [(2, .int z11), (1, .int z10), (0, .ref r)]) hx hb dX3_givenOut_37 hl (k := 1) rfl (by rw [ez11]; rfl) (by decide) rfl (fun ls hl => ?_)
          refine lv_goto (tgt := 4) hx hb dX3_givenOut_40 (by decide) ?_
          exact ih1 z10 z11 ⟨by omega, by omega⟩ (by omega) _ _ _ (hP.sub [1, 0, 2, 3, 4, 5, 6] rfl) (hD.sub [1, 0, 2, 3, 4, 5, 6] (by decide) rfl) hS (lv_sub hl [0, 1, 2] rfl)
  exact loop1 100 0 0 (iv_lit (by decide) (by decide)) (by have q0 : (0 : Int32).toInt = 0 := (by decide); have q1 : (0 : Int32).toInt = 0 := (by decide); omega) _ _ _ hP hD hS hl
set_option maxHeartbeats 4000000 in
set_option maxRecDepth 100000 in
theorem i_X3_bears (l : Launch) (D : va_G) (k : Nat → ClassId) (sz : Nat) (x1 : Int32) (r : Nat) (r_told : Int32) (r_strands : Int32) (r_chairs : Int32) (r_sitters : Int32) (r_atoldCane : Nat) (r_aheight : Nat) (r_astrandOf : Nat) (r_achairOf : Nat) (r_aweight : Nat) (r_acane : Nat) (r_sits : Int32) (r_dropped : Int32) (r_minute : Int32) (r_aload : Nat) (r_aheads : Nat) (r_held : Int32) (r_heldDown : Int32) (r_rheight : Nat → Int32) (r_rstrandOf : Nat → Int32) (r_rchairOf : Nat → Int32) (r_rweight : Nat → Int32) (r_rcane : Nat → Int32) (r_rload : Nat → Int32) (r_rheads : Nat → Int32) (h_r_told : iv (0) (1) r_told) (h_r_strands : iv (0) (4) r_strands) (h_r_chairs : iv (0) (8) r_chairs) (h_r_sitters : iv (0) (8) r_sitters) (h_r_rstrandOf : rowIn (0) (3) r_rstrandOf) (h_r_rchairOf : rowIn (0) (7) r_rchairOf) : CtI l yX3_bears wsX3_bears (rmK 3 0 0) [.ref r, .int x1] D k sz ([(r, .inr (2, [.int r_told, .int r_strands, .int r_chairs, .int r_sitters, .ref r_atoldCane, .ref r_aheight, .ref r_astrandOf, .ref r_achairOf, .ref r_aweight, .ref r_acane, .int r_sits, .int r_dropped, .int r_minute, .ref r_aload, .ref r_aheads, .int r_held, .int r_heldDown])), (r_aheight, hcI k 8 r_rheight), (r_astrandOf, hcI k 8 r_rstrandOf), (r_achairOf, hcI k 8 r_rchairOf), (r_aweight, hcI k 8 r_rweight), (r_acane, hcI k 4 r_rcane), (r_aload, hcI k 4 r_rload), (r_aheads, hcI k 4 r_rheads)]) (fun (r : Int32) (u : (Int32) × (Nat → Int32) × (Nat → Int32)) => iv (0) (1) r) (fun u : (Int32) × (Nat → Int32) × (Nat → Int32) => [(r, .inr (2, [.int r_told, .int r_strands, .int r_chairs, .int r_sitters, .ref r_atoldCane, .ref r_aheight, .ref r_astrandOf, .ref r_achairOf, .ref r_aweight, .ref r_acane, .int (u.1), .int r_dropped, .int r_minute, .ref r_aload, .ref r_aheads, .int r_held, .int r_heldDown])), (r_aheight, hcI k 8 r_rheight), (r_astrandOf, hcI k 8 r_rstrandOf), (r_achairOf, hcI k 8 r_rchairOf), (r_aweight, hcI k 8 r_rweight), (r_acane, hcI k 4 r_rcane), (r_aload, hcI k 4 (u.2.1)), (r_aheads, hcI k 4 (u.2.2))]) 0 0 := by
  have h_r_told_l := h_r_told.1
  have h_r_told_u := h_r_told.2
  have h_r_strands_l := h_r_strands.1
  have h_r_strands_u := h_r_strands.2
  have h_r_chairs_l := h_r_chairs.1
  have h_r_chairs_u := h_r_chairs.2
  have h_r_sitters_l := h_r_sitters.1
  have h_r_sitters_u := h_r_sitters.2
  refine CtI.mk (cc := cX3_bears) (maxL := 2) (ret := (some .boolean)) (by decide) rfl (Nat.le_of_ble_eq_true rfl) ?_
  intro p e s m below meth c A ls E hP hD hS hl
  obtain ⟨hx, hb, hr, hml, hown, hts, hlocks, hin, hG, hA⟩ := E
  have hown : s.vm.findClass RX3 = some m.cls := hown
  have in3 : ∀ w ∈ u_ws RX3 TX3 17, w ∈ wsX3_bears := fun _ h => List.mem_cons_of_mem _ (List.mem_append_right _ h)
  have hl : lv_has ls 2 [(0, .ref r), (1, .int x1)] := hl
  refine lv_aload_n hx hb dX3_bears_0 rfl (lv_at hl 0 rfl) ?_
  refine lv_iload_n hx hb dX3_bears_1 rfl (lv_at hl 1 rfl) ?_
  refine va_put (D := D) (ci := 2) (v := .int x1) (C := RX3) (T := TX3) (N := 17) hx hb hts in3 tyX3 tyX3_ok nmX3 hown hG.1 hP hD hS 0 rfl rfl 10 (by decide) (hts (.fieldLink RX3 44 "ChairCane$Room" "sits" "I") (by decide +kernel)) (fun _ h9 => h9) rfl (tyX3_ok 10 (by decide)) rfl rfl (Nat.le_of_ble_eq_true rfl) dX3_bears_2 (fun H locs hP hD hS => ?_)
  have hP : va_P D vwCl ([(r, .inr (2, [.int r_told, .int r_strands, .int r_chairs, .int r_sitters, .ref r_atoldCane, .ref r_aheight, .ref r_astrandOf, .ref r_achairOf, .ref r_aweight, .ref r_acane, .int x1, .int r_dropped, .int r_minute, .ref r_aload, .ref r_aheads, .int r_held, .int r_heldDown])), (r_aheight, hcI k 8 r_rheight), (r_astrandOf, hcI k 8 r_rstrandOf), (r_achairOf, hcI k 8 r_rchairOf), (r_aweight, hcI k 8 r_rweight), (r_acane, hcI k 4 r_rcane), (r_aload, hcI k 4 r_rload), (r_aheads, hcI k 4 r_rheads)]) H := hP
  have hD : va_D A ([(r, .inr (2, [.int r_told, .int r_strands, .int r_chairs, .int r_sitters, .ref r_atoldCane, .ref r_aheight, .ref r_astrandOf, .ref r_achairOf, .ref r_aweight, .ref r_acane, .int x1, .int r_dropped, .int r_minute, .ref r_aload, .ref r_aheads, .int r_held, .int r_heldDown])), (r_aheight, hcI k 8 r_rheight), (r_astrandOf, hcI k 8 r_rstrandOf), (r_achairOf, hcI k 8 r_rchairOf), (r_aweight, hcI k 8 r_rweight), (r_acane, hcI k 4 r_rcane), (r_aload, hcI k 4 r_rload), (r_aheads, hcI k 4 r_rheads)]) := hD
  refine lv_aload_n hx hb dX3_bears_5 rfl (lv_at hl 0 rfl) ?_
  refine hc_Vv (As := []) (rest := []) (n := 0) (wr := [(r_aheight, hcI k 8 r_rheight), (r_acane, hcI k 4 r_rcane)]) hx hb hml hown hts hG hA hP hD hS hl.1 [0, 2, 3, 4, 6, 7] [1, 5] (i_X3_weigh l D k _ r r_told r_strands r_chairs r_sitters r_atoldCane r_aheight r_astrandOf r_achairOf r_aweight r_acane x1 r_dropped r_minute r_aload r_aheads r_held r_heldDown r_rstrandOf r_rchairOf r_rweight r_rload r_rheads ⟨by omega, by omega⟩ ⟨by omega, by omega⟩ ⟨by omega, by omega⟩ ⟨by omega, by omega⟩ h_r_rstrandOf h_r_rchairOf) (ci := 2) (q0 := 0) rfl rfl gX3_bears_X3_weigh rfl ⟨rfl, rfl, Nat.le_of_ble_eq_true rfl, Nat.le_of_ble_eq_true rfl⟩ (by decide +kernel) rfl rfl ⟨by decide, by decide, by decide⟩ ⟨rfl, rfl, Nat.le_of_ble_eq_true rfl, Nat.le_of_ble_eq_true rfl, Nat.le_of_ble_eq_true rfl⟩ dX3_bears_6 (fun u1 H locs hw hP hD hS => ?_)
  obtain ⟨w3, w4⟩ := u1
  have hP : va_P D vwCl ([(r_aheight, hcI k 8 r_rheight), (r_acane, hcI k 4 r_rcane), (r, .inr (2, [.int r_told, .int r_strands, .int r_chairs, .int r_sitters, .ref r_atoldCane, .ref r_aheight, .ref r_astrandOf, .ref r_achairOf, .ref r_aweight, .ref r_acane, .int x1, .int r_dropped, .int r_minute, .ref r_aload, .ref r_aheads, .int r_held, .int r_heldDown])), (r_astrandOf, hcI k 8 r_rstrandOf), (r_achairOf, hcI k 8 r_rchairOf), (r_aweight, hcI k 8 r_rweight), (r_aload, hcI k 4 w3), (r_aheads, hcI k 4 w4)]) H := hP
  have hD : va_D A ([(r_aheight, hcI k 8 r_rheight), (r_acane, hcI k 4 r_rcane), (r, .inr (2, [.int r_told, .int r_strands, .int r_chairs, .int r_sitters, .ref r_atoldCane, .ref r_aheight, .ref r_astrandOf, .ref r_achairOf, .ref r_aweight, .ref r_acane, .int x1, .int r_dropped, .int r_minute, .ref r_aload, .ref r_aheads, .int r_held, .int r_heldDown])), (r_astrandOf, hcI k 8 r_rstrandOf), (r_achairOf, hcI k 8 r_rchairOf), (r_aweight, hcI k 8 r_rweight), (r_aload, hcI k 4 w3), (r_aheads, hcI k 4 w4)]) := hD
  refine lv_aload_n hx hb dX3_bears_9 rfl (lv_at hl 0 rfl) ?_
  refine hc_Vi (As := []) (rest := []) (n := 0) (wr := [(r_aheads, hcI k 4 w4)]) hx hb hml hown hts hG hA hP hD hS hl.1 [2, 0, 3, 4, 5, 1, 6] [7] (i_X3_givenOut l D k _ r r_told r_strands r_chairs r_sitters r_atoldCane r_aheight r_astrandOf r_achairOf r_aweight r_acane x1 r_dropped r_minute r_aload r_aheads r_held r_heldDown r_rheight r_rstrandOf r_rchairOf r_rweight r_rcane w3 ⟨by omega, by omega⟩ ⟨by omega, by omega⟩ ⟨by omega, by omega⟩ ⟨by omega, by omega⟩ h_r_rstrandOf h_r_rchairOf) (ci := 2) (q0 := 2) rfl rfl gX3_bears_X3_givenOut rfl ⟨rfl, rfl, Nat.le_of_ble_eq_true rfl, Nat.le_of_ble_eq_true rfl⟩ (by decide +kernel) rfl rfl ⟨by decide, by decide, by decide⟩ ⟨rfl, rfl, Nat.le_of_ble_eq_true rfl, Nat.le_of_ble_eq_true rfl, Nat.le_of_ble_eq_true rfl⟩ dX3_bears_10 (fun r6 u5 H locs hw hP hD hS => ?_)
  have hP : va_P D vwCl ([(r_aheads, hcI k 4 w4), (r, .inr (2, [.int r_told, .int r_strands, .int r_chairs, .int r_sitters, .ref r_atoldCane, .ref r_aheight, .ref r_astrandOf, .ref r_achairOf, .ref r_aweight, .ref r_acane, .int x1, .int r_dropped, .int r_minute, .ref r_aload, .ref r_aheads, .int r_held, .int r_heldDown])), (r_aheight, hcI k 8 r_rheight), (r_astrandOf, hcI k 8 r_rstrandOf), (r_achairOf, hcI k 8 r_rchairOf), (r_aweight, hcI k 8 r_rweight), (r_acane, hcI k 4 r_rcane), (r_aload, hcI k 4 w3)]) H := hP
  have hD : va_D A ([(r_aheads, hcI k 4 w4), (r, .inr (2, [.int r_told, .int r_strands, .int r_chairs, .int r_sitters, .ref r_atoldCane, .ref r_aheight, .ref r_astrandOf, .ref r_achairOf, .ref r_aweight, .ref r_acane, .int x1, .int r_dropped, .int r_minute, .ref r_aload, .ref r_aheads, .int r_held, .int r_heldDown])), (r_aheight, hcI k 8 r_rheight), (r_astrandOf, hcI k 8 r_rstrandOf), (r_achairOf, hcI k 8 r_rchairOf), (r_aweight, hcI k 8 r_rweight), (r_acane, hcI k 4 r_rcane), (r_aload, hcI k 4 w3)]) := hD
  refine lv_if_ne (tgt := 20) hx hb dX3_bears_13 (by decide) (fun c7 => ?_) (fun c7 => ?_)
  · have fc7 := cx_ne_t (a := r6.toInt) (b := 0) rfl (by decide) c7
    refine lv_iconst (v := 0) hx hb dX3_bears_20 (by decide) ?_
    exact hc_endZ hx hb hr hlocks rfl (x1, w3, w4) (iv_lit (by decide) (by decide)) (hP.sub [1, 2, 3, 4, 5, 6, 7, 0] rfl) (hD.sub [1, 2, 3, 4, 5, 6, 7, 0] (by decide) rfl) hS dX3_bears_21
  · have fc7 := cx_ne_f (a := r6.toInt) (b := 0) rfl (by decide) c7
    refine lv_iconst (v := 1) hx hb dX3_bears_16 (by decide) ?_
    refine lv_goto (tgt := 21) hx hb dX3_bears_17 (by decide) ?_
    exact hc_endZ hx hb hr hlocks rfl (x1, w3, w4) (iv_lit (by decide) (by decide)) (hP.sub [1, 2, 3, 4, 5, 6, 7, 0] rfl) (hD.sub [1, 2, 3, 4, 5, 6, 7, 0] (by decide) rfl) hS dX3_bears_21
set_option maxHeartbeats 4000000 in
set_option maxRecDepth 100000 in
theorem i_X3_settle (l : Launch) (D : va_G) (k : Nat → ClassId) (sz : Nat) (r : Nat) (r_told : Int32) (r_strands : Int32) (r_chairs : Int32) (r_sitters : Int32) (r_atoldCane : Nat) (r_aheight : Nat) (r_astrandOf : Nat) (r_achairOf : Nat) (r_aweight : Nat) (r_acane : Nat) (r_sits : Int32) (r_dropped : Int32) (r_minute : Int32) (r_aload : Nat) (r_aheads : Nat) (r_held : Int32) (r_heldDown : Int32) (r_rheight : Nat → Int32) (r_rstrandOf : Nat → Int32) (r_rchairOf : Nat → Int32) (r_rweight : Nat → Int32) (r_rcane : Nat → Int32) (r_rload : Nat → Int32) (r_rheads : Nat → Int32) (h_r_told : iv (0) (1) r_told) (h_r_strands : iv (0) (4) r_strands) (h_r_chairs : iv (0) (8) r_chairs) (h_r_sitters : iv (0) (8) r_sitters) (h_r_rstrandOf : rowIn (0) (3) r_rstrandOf) (h_r_rchairOf : rowIn (0) (7) r_rchairOf) : CtI l yX3_settle wsX3_settle (rmK 3 0 0) [.ref r] D k sz ([(r, .inr (2, [.int r_told, .int r_strands, .int r_chairs, .int r_sitters, .ref r_atoldCane, .ref r_aheight, .ref r_astrandOf, .ref r_achairOf, .ref r_aweight, .ref r_acane, .int r_sits, .int r_dropped, .int r_minute, .ref r_aload, .ref r_aheads, .int r_held, .int r_heldDown])), (r_aheight, hcI k 8 r_rheight), (r_astrandOf, hcI k 8 r_rstrandOf), (r_achairOf, hcI k 8 r_rchairOf), (r_aweight, hcI k 8 r_rweight), (r_acane, hcI k 4 r_rcane), (r_aload, hcI k 4 r_rload), (r_aheads, hcI k 4 r_rheads)]) (fun (r : Int32) (u : (Int32) × (Int32) × (Nat → Int32) × (Nat → Int32)) => True) (fun u : (Int32) × (Int32) × (Nat → Int32) × (Nat → Int32) => [(r, .inr (2, [.int r_told, .int r_strands, .int r_chairs, .int r_sitters, .ref r_atoldCane, .ref r_aheight, .ref r_astrandOf, .ref r_achairOf, .ref r_aweight, .ref r_acane, .int (u.1), .int (u.2.1), .int r_minute, .ref r_aload, .ref r_aheads, .int r_held, .int r_heldDown])), (r_aheight, hcI k 8 r_rheight), (r_astrandOf, hcI k 8 r_rstrandOf), (r_achairOf, hcI k 8 r_rchairOf), (r_aweight, hcI k 8 r_rweight), (r_acane, hcI k 4 r_rcane), (r_aload, hcI k 4 (u.2.2.1)), (r_aheads, hcI k 4 (u.2.2.2))]) 0 0 := by
  have h_r_told_l := h_r_told.1
  have h_r_told_u := h_r_told.2
  have h_r_strands_l := h_r_strands.1
  have h_r_strands_u := h_r_strands.2
  have h_r_chairs_l := h_r_chairs.1
  have h_r_chairs_u := h_r_chairs.2
  have h_r_sitters_l := h_r_sitters.1
  have h_r_sitters_u := h_r_sitters.2
  refine CtI.mk (cc := cX3_settle) (maxL := 4) (ret := (some .int)) (by decide) rfl (Nat.le_of_ble_eq_true rfl) ?_
  intro p e s m below meth c A ls E hP hD hS hl
  obtain ⟨hx, hb, hr, hml, hown, hts, hlocks, hin, hG, hA⟩ := E
  have hown : s.vm.findClass RX3 = some m.cls := hown
  have in3 : ∀ w ∈ u_ws RX3 TX3 17, w ∈ wsX3_settle := fun _ h => List.mem_cons_of_mem _ (List.mem_append_right _ h)
  have hl : lv_has ls 4 [(0, .ref r)] := hl
  refine lv_iconst (v := 0) hx hb dX3_settle_0 (by decide) ?_
  refine lv_istore_n (lv' := [(1, .int 0), (0, .ref r)]) hx hb dX3_settle_1 rfl hl (by decide) rfl (fun ls hl => ?_)
  refine lv_iconst (v := 0) hx hb dX3_settle_2 (by decide) ?_
  refine lv_istore_n (lv' := [(2, .int 0), (1, .int 0), (0, .ref r)]) hx hb dX3_settle_3 rfl hl (by decide) rfl (fun ls hl => ?_)
  have loop1 : ∀ (fu : Nat) (L1_1 : Int32) (L2_1 : Int32) (K10_1r : Int32) (K11_1r : Int32) (g_1r_aload : Nat → Int32) (g_1r_aheads : Nat → Int32), iv (0) (9) L2_1 → 9 - L2_1.toInt < (fu : Int) → ∀ (H : Heap) (locs : List Loc) (ls : Array Slot), va_P D vwCl ([(r, .inr (2, [.int r_told, .int r_strands, .int r_chairs, .int r_sitters, .ref r_atoldCane, .ref r_aheight, .ref r_astrandOf, .ref r_achairOf, .ref r_aweight, .ref r_acane, .int K10_1r, .int K11_1r, .int r_minute, .ref r_aload, .ref r_aheads, .int r_held, .int r_heldDown])), (r_aheight, hcI k 8 r_rheight), (r_astrandOf, hcI k 8 r_rstrandOf), (r_achairOf, hcI k 8 r_rchairOf), (r_aweight, hcI k 8 r_rweight), (r_acane, hcI k 4 r_rcane), (r_aload, hcI k 4 g_1r_aload), (r_aheads, hcI k 4 g_1r_aheads)]) H → va_D A ([(r, .inr (2, [.int r_told, .int r_strands, .int r_chairs, .int r_sitters, .ref r_atoldCane, .ref r_aheight, .ref r_astrandOf, .ref r_achairOf, .ref r_aweight, .ref r_acane, .int K10_1r, .int K11_1r, .int r_minute, .ref r_aload, .ref r_aheads, .int r_held, .int r_heldDown])), (r_aheight, hcI k 8 r_rheight), (r_astrandOf, hcI k 8 r_rstrandOf), (r_achairOf, hcI k 8 r_rchairOf), (r_aweight, hcI k 8 r_rweight), (r_acane, hcI k 4 r_rcane), (r_aload, hcI k 4 g_1r_aload), (r_aheads, hcI k 4 g_1r_aheads)]) → va_S A s.heap H locs → lv_has ls 4 [(2, .int L2_1), (1, .int L1_1), (0, .ref r)] → W p l e (rmK 3 0 0) s m (List.toArray [.ref r]) below meth c H locs 0 0 (MQ below (va_Qi (fun (r : Int32) (u : (Int32) × (Int32) × (Nat → Int32) × (Nat → Int32)) => True) (hcB D (fun u : (Int32) × (Int32) × (Nat → Int32) × (Nat → Int32) => [(r, .inr (2, [.int r_told, .int r_strands, .int r_chairs, .int r_sitters, .ref r_atoldCane, .ref r_aheight, .ref r_astrandOf, .ref r_achairOf, .ref r_aweight, .ref r_acane, .int (u.1), .int (u.2.1), .int r_minute, .ref r_aload, .ref r_aheads, .int r_held, .int r_heldDown])), (r_aheight, hcI k 8 r_rheight), (r_astrandOf, hcI k 8 r_rstrandOf), (r_achairOf, hcI k 8 r_rchairOf), (r_aweight, hcI k 8 r_rweight), (r_acane, hcI k 4 r_rcane), (r_aload, hcI k 4 (u.2.2.1)), (r_aheads, hcI k 4 (u.2.2.2))]) A) A) (List.toArray [.ref r]) s 0 0 A) (F0 m 4 ls []) := by
    intro fu
    induction fu with
    | zero =>
      intro L1_1 L2_1 K10_1r K11_1r g_1r_aload g_1r_aheads bL2_1 hm
      have bL2_1_l := bL2_1.1
      have bL2_1_u := bL2_1.2
      exact absurd hm (by omega)
    | succ fu ih1 =>
      intro L1_1 L2_1 K10_1r K11_1r g_1r_aload g_1r_aheads bL2_1 hm H locs ls hP hD hS hl
      have bL2_1_l := bL2_1.1
      have bL2_1_u := bL2_1.2
      refine lv_iload_n hx hb dX3_settle_4 rfl (lv_at hl 0 rfl) ?_
      refine lv_bipush (v := 8) hx hb dX3_settle_5 (by decide) ?_
      refine lv_icmp_gt (tgt := 57) hx hb dX3_settle_7 (by decide) (fun c2 => ?_) (fun c2 => ?_)
      · have fc2 := cx_gt_t (a := L2_1.toInt) (b := 8) rfl (by decide) c2
        refine lv_iload_n hx hb dX3_settle_57 rfl (lv_at hl 1 rfl) ?_
        exact hc_end hx hb hr hlocks (K10_1r, K11_1r, g_1r_aload, g_1r_aheads) trivial hP hD hS dX3_settle_58
      · have fc2 := cx_gt_f (a := L2_1.toInt) (b := 8) rfl (by decide) c2
        refine lv_aload_n hx hb dX3_settle_10 rfl (lv_at hl 2 rfl) ?_
        refine hc_Vi (As := []) (rest := []) (n := 0) (wr := [(r_aheads, hcI k 4 g_1r_aheads)]) hx hb hml hown hts hG hA hP hD hS hl.1 [0, 1, 2, 3, 4, 5, 6] [7] (i_X3_givenOut l D k _ r r_told r_strands r_chairs r_sitters r_atoldCane r_aheight r_astrandOf r_achairOf r_aweight r_acane K10_1r K11_1r r_minute r_aload r_aheads r_held r_heldDown r_rheight r_rstrandOf r_rchairOf r_rweight r_rcane g_1r_aload ⟨by omega, by omega⟩ ⟨by omega, by omega⟩ ⟨by omega, by omega⟩ ⟨by omega, by omega⟩ h_r_rstrandOf h_r_rchairOf) (ci := 2) (q0 := 0) rfl rfl gX3_settle_X3_givenOut rfl ⟨rfl, rfl, Nat.le_of_ble_eq_true rfl, Nat.le_of_ble_eq_true rfl⟩ (by decide +kernel) rfl rfl ⟨by decide, by decide, by decide⟩ ⟨rfl, rfl, Nat.le_of_ble_eq_true rfl, Nat.le_of_ble_eq_true rfl, Nat.le_of_ble_eq_true rfl⟩ dX3_settle_11 (fun r4 u3 H locs hw hP hD hS => ?_)
        have hP : va_P D vwCl ([(r_aheads, hcI k 4 g_1r_aheads), (r, .inr (2, [.int r_told, .int r_strands, .int r_chairs, .int r_sitters, .ref r_atoldCane, .ref r_aheight, .ref r_astrandOf, .ref r_achairOf, .ref r_aweight, .ref r_acane, .int K10_1r, .int K11_1r, .int r_minute, .ref r_aload, .ref r_aheads, .int r_held, .int r_heldDown])), (r_aheight, hcI k 8 r_rheight), (r_astrandOf, hcI k 8 r_rstrandOf), (r_achairOf, hcI k 8 r_rchairOf), (r_aweight, hcI k 8 r_rweight), (r_acane, hcI k 4 r_rcane), (r_aload, hcI k 4 g_1r_aload)]) H := hP
        have hD : va_D A ([(r_aheads, hcI k 4 g_1r_aheads), (r, .inr (2, [.int r_told, .int r_strands, .int r_chairs, .int r_sitters, .ref r_atoldCane, .ref r_aheight, .ref r_astrandOf, .ref r_achairOf, .ref r_aweight, .ref r_acane, .int K10_1r, .int K11_1r, .int r_minute, .ref r_aload, .ref r_aheads, .int r_held, .int r_heldDown])), (r_aheight, hcI k 8 r_rheight), (r_astrandOf, hcI k 8 r_rstrandOf), (r_achairOf, hcI k 8 r_rchairOf), (r_aweight, hcI k 8 r_rweight), (r_acane, hcI k 4 r_rcane), (r_aload, hcI k 4 g_1r_aload)]) := hD
        refine lv_istore_n (lv' := [(3, .int r4), (2, .int L2_1), (1, .int L1_1), (0, .ref r)]) hx hb dX3_settle_14 rfl hl (by decide) rfl (fun ls hl => ?_)
        refine lv_iload_n hx hb dX3_settle_15 rfl (lv_at hl 0 rfl) ?_
        refine lv_if_ne (tgt := 21) hx hb dX3_settle_16 (by decide) (fun c5 => ?_) (fun c5 => ?_)
        · have fc5 := cx_ne_t (a := r4.toInt) (b := 0) rfl (by decide) c5
          refine lv_aload_n hx hb dX3_settle_21 rfl (lv_at hl 3 rfl) ?_
          refine lv_dup hx hb dX3_settle_22 rfl ?_
          refine va_get (D := D) (ci := 2) (v := .int K10_1r) (C := RX3) (T := TX3) (N := 17) hx hb hts in3 hown hG.1 hP 1 rfl rfl 10 (by decide) (hts (.fieldLink RX3 44 "ChairCane$Room" "sits" "I") (by decide +kernel)) (fun _ h9 => h9) rfl dX3_settle_23 ?_
          refine lv_iload_n hx hb dX3_settle_26 rfl (lv_at hl 0 rfl) ?_
          refine lv_iconst (v := (-1)) hx hb dX3_settle_27 (by decide) ?_
          refine lv_ixor hx hb dX3_settle_28 ?_
          refine lv_topi (fun z6 ez6 => ?_)
          refine lv_iand hx hb dX3_settle_29 ?_
          refine lv_topi (fun z7 ez7 => ?_)
          refine va_put (D := D) (ci := 2) (v := .int z7) (C := RX3) (T := TX3) (N := 17) hx hb hts in3 tyX3 tyX3_ok nmX3 hown hG.1 hP hD hS 1 rfl rfl 10 (by decide) (hts (.fieldLink RX3 44 "ChairCane$Room" "sits" "I") (by decide +kernel)) (fun _ h9 => h9) rfl (tyX3_ok 10 (by decide)) rfl rfl (Nat.le_of_ble_eq_true rfl) dX3_settle_30 (fun H locs hP hD hS => ?_)
          have hP : va_P D vwCl ([(r_aheads, hcI k 4 g_1r_aheads), (r, .inr (2, [.int r_told, .int r_strands, .int r_chairs, .int r_sitters, .ref r_atoldCane, .ref r_aheight, .ref r_astrandOf, .ref r_achairOf, .ref r_aweight, .ref r_acane, .int z7, .int K11_1r, .int r_minute, .ref r_aload, .ref r_aheads, .int r_held, .int r_heldDown])), (r_aheight, hcI k 8 r_rheight), (r_astrandOf, hcI k 8 r_rstrandOf), (r_achairOf, hcI k 8 r_rchairOf), (r_aweight, hcI k 8 r_rweight), (r_acane, hcI k 4 r_rcane), (r_aload, hcI k 4 g_1r_aload)]) H := hP
          have hD : va_D A ([(r_aheads, hcI k 4 g_1r_aheads), (r, .inr (2, [.int r_told, .int r_strands, .int r_chairs, .int r_sitters, .ref r_atoldCane, .ref r_aheight, .ref r_astrandOf, .ref r_achairOf, .ref r_aweight, .ref r_acane, .int z7, .int K11_1r, .int r_minute, .ref r_aload, .ref r_aheads, .int r_held, .int r_heldDown])), (r_aheight, hcI k 8 r_rheight), (r_astrandOf, hcI k 8 r_rstrandOf), (r_achairOf, hcI k 8 r_rchairOf), (r_aweight, hcI k 8 r_rweight), (r_acane, hcI k 4 r_rcane), (r_aload, hcI k 4 g_1r_aload)]) := hD
          refine lv_aload_n hx hb dX3_settle_33 rfl (lv_at hl 3 rfl) ?_
          refine lv_dup hx hb dX3_settle_34 rfl ?_
          refine va_get (D := D) (ci := 2) (v := .int K11_1r) (C := RX3) (T := TX3) (N := 17) hx hb hts in3 hown hG.1 hP 1 rfl rfl 11 (by decide) (hts (.fieldLink RX3 47 "ChairCane$Room" "dropped" "I") (by decide +kernel)) (fun _ h9 => h9) rfl dX3_settle_35 ?_
          refine lv_iload_n hx hb dX3_settle_38 rfl (lv_at hl 0 rfl) ?_
          refine lv_ior hx hb dX3_settle_39 ?_
          refine lv_topi (fun z8 ez8 => ?_)
          refine va_put (D := D) (ci := 2) (v := .int z8) (C := RX3) (T := TX3) (N := 17) hx hb hts in3 tyX3 tyX3_ok nmX3 hown hG.1 hP hD hS 1 rfl rfl 11 (by decide) (hts (.fieldLink RX3 47 "ChairCane$Room" "dropped" "I") (by decide +kernel)) (fun _ h9 => h9) rfl (tyX3_ok 11 (by decide)) rfl rfl (Nat.le_of_ble_eq_true rfl) dX3_settle_40 (fun H locs hP hD hS => ?_)
          have hP : va_P D vwCl ([(r_aheads, hcI k 4 g_1r_aheads), (r, .inr (2, [.int r_told, .int r_strands, .int r_chairs, .int r_sitters, .ref r_atoldCane, .ref r_aheight, .ref r_astrandOf, .ref r_achairOf, .ref r_aweight, .ref r_acane, .int z7, .int z8, .int r_minute, .ref r_aload, .ref r_aheads, .int r_held, .int r_heldDown])), (r_aheight, hcI k 8 r_rheight), (r_astrandOf, hcI k 8 r_rstrandOf), (r_achairOf, hcI k 8 r_rchairOf), (r_aweight, hcI k 8 r_rweight), (r_acane, hcI k 4 r_rcane), (r_aload, hcI k 4 g_1r_aload)]) H := hP
          have hD : va_D A ([(r_aheads, hcI k 4 g_1r_aheads), (r, .inr (2, [.int r_told, .int r_strands, .int r_chairs, .int r_sitters, .ref r_atoldCane, .ref r_aheight, .ref r_astrandOf, .ref r_achairOf, .ref r_aweight, .ref r_acane, .int z7, .int z8, .int r_minute, .ref r_aload, .ref r_aheads, .int r_held, .int r_heldDown])), (r_aheight, hcI k 8 r_rheight), (r_astrandOf, hcI k 8 r_rstrandOf), (r_achairOf, hcI k 8 r_rchairOf), (r_aweight, hcI k 8 r_rweight), (r_acane, hcI k 4 r_rcane), (r_aload, hcI k 4 g_1r_aload)]) := hD
          refine lv_iload_n hx hb dX3_settle_43 rfl (lv_at hl 2 rfl) ?_
          refine lv_iload_n hx hb dX3_settle_44 rfl (lv_at hl 0 rfl) ?_
          refine lv_ior hx hb dX3_settle_45 ?_
          refine lv_topi (fun z9 ez9 => ?_)
          refine lv_istore_n (lv' := [(1, .int z9), (3, .int r4), (2, .int L2_1), (0, .ref r)]) hx hb dX3_settle_46 rfl hl (by decide) rfl (fun ls hl => ?_)
          refine lv_aload_n hx hb dX3_settle_47 rfl (lv_at hl 3 rfl) ?_
          refine hc_Vv (As := []) (rest := []) (n := 0) (wr := [(r_aheight, hcI k 8 r_rheight), (r_acane, hcI k 4 r_rcane)]) hx hb hml hown hts hG hA hP hD hS hl.1 [1, 3, 4, 5, 7, 0] [2, 6] (i_X3_weigh l D k _ r r_told r_strands r_chairs r_sitters r_atoldCane r_aheight r_astrandOf r_achairOf r_aweight r_acane z7 z8 r_minute r_aload r_aheads r_held r_heldDown r_rstrandOf r_rchairOf r_rweight g_1r_aload g_1r_aheads ⟨by omega, by omega⟩ ⟨by omega, by omega⟩ ⟨by omega, by omega⟩ ⟨by omega, by omega⟩ h_r_rstrandOf h_r_rchairOf) (ci := 2) (q0 := 1) rfl rfl gX3_settle_X3_weigh rfl ⟨rfl, rfl, Nat.le_of_ble_eq_true rfl, Nat.le_of_ble_eq_true rfl⟩ (by decide +kernel) rfl rfl ⟨by decide, by decide, by decide⟩ ⟨rfl, rfl, Nat.le_of_ble_eq_true rfl, Nat.le_of_ble_eq_true rfl, Nat.le_of_ble_eq_true rfl⟩ dX3_settle_48 (fun u10 H locs hw hP hD hS => ?_)
          obtain ⟨w12, w13⟩ := u10
          have hP : va_P D vwCl ([(r_aheight, hcI k 8 r_rheight), (r_acane, hcI k 4 r_rcane), (r, .inr (2, [.int r_told, .int r_strands, .int r_chairs, .int r_sitters, .ref r_atoldCane, .ref r_aheight, .ref r_astrandOf, .ref r_achairOf, .ref r_aweight, .ref r_acane, .int z7, .int z8, .int r_minute, .ref r_aload, .ref r_aheads, .int r_held, .int r_heldDown])), (r_astrandOf, hcI k 8 r_rstrandOf), (r_achairOf, hcI k 8 r_rchairOf), (r_aweight, hcI k 8 r_rweight), (r_aload, hcI k 4 w12), (r_aheads, hcI k 4 w13)]) H := hP
          have hD : va_D A ([(r_aheight, hcI k 8 r_rheight), (r_acane, hcI k 4 r_rcane), (r, .inr (2, [.int r_told, .int r_strands, .int r_chairs, .int r_sitters, .ref r_atoldCane, .ref r_aheight, .ref r_astrandOf, .ref r_achairOf, .ref r_aweight, .ref r_acane, .int z7, .int z8, .int r_minute, .ref r_aload, .ref r_aheads, .int r_held, .int r_heldDown])), (r_astrandOf, hcI k 8 r_rstrandOf), (r_achairOf, hcI k 8 r_rchairOf), (r_aweight, hcI k 8 r_rweight), (r_aload, hcI k 4 w12), (r_aheads, hcI k 4 w13)]) := hD
          obtain ⟨z14, ez14⟩ : ∃ z : Int32, z = L2_1 + 1 := ⟨_, rfl⟩
          have tz14 : z14.toInt = L2_1.toInt + (1) := ai_add rfl (by decide) ez14 (by omega) (by omega)
          refine lv_iinc (v := z14) (lv' := [(2, .int z14), (1, .int z9), (3, .int r4), (0, .ref r)]) hx hb dX3_settle_51 hl (k := 2) rfl (by rw [ez14]; rfl) (by decide) rfl (fun ls hl => ?_)
          refine lv_goto (tgt := 4) hx hb dX3_settle_54 (by decide) ?_
          exact ih1 z9 z14 z7 z8 w12 w13 ⟨by omega, by omega⟩ (by omega) _ _ _ (hP.sub [2, 0, 3, 4, 5, 1, 6, 7] rfl) (hD.sub [2, 0, 3, 4, 5, 1, 6, 7] (by decide) rfl) hS (lv_sub hl [0, 1, 3] rfl)
        · have fc5 := cx_ne_f (a := r4.toInt) (b := 0) rfl (by decide) c5
          refine lv_iload_n hx hb dX3_settle_19 rfl (lv_at hl 2 rfl) ?_
          exact hc_end hx hb hr hlocks (K10_1r, K11_1r, g_1r_aload, g_1r_aheads) trivial (hP.sub [1, 2, 3, 4, 5, 6, 7, 0] rfl) (hD.sub [1, 2, 3, 4, 5, 6, 7, 0] (by decide) rfl) hS dX3_settle_20
  exact loop1 100 0 0 r_sits r_dropped r_rload r_rheads (iv_lit (by decide) (by decide)) (by have q0 : (0 : Int32).toInt = 0 := (by decide); have q1 : (0 : Int32).toInt = 0 := (by decide); omega) _ _ _ hP hD hS hl
set_option maxHeartbeats 4000000 in
set_option maxRecDepth 100000 in
theorem i_X3_turn (l : Launch) (D : va_G) (k : Nat → ClassId) (sz : Nat) (x1 : Int32) (r : Nat) (r_told : Int32) (r_strands : Int32) (r_chairs : Int32) (r_sitters : Int32) (r_atoldCane : Nat) (r_aheight : Nat) (r_astrandOf : Nat) (r_achairOf : Nat) (r_aweight : Nat) (r_acane : Nat) (r_sits : Int32) (r_dropped : Int32) (r_minute : Int32) (r_aload : Nat) (r_aheads : Nat) (r_held : Int32) (r_heldDown : Int32) (r_rheight : Nat → Int32) (r_rstrandOf : Nat → Int32) (r_rchairOf : Nat → Int32) (r_rweight : Nat → Int32) (r_rcane : Nat → Int32) (r_rload : Nat → Int32) (r_rheads : Nat → Int32) (h_r_told : iv (0) (1) r_told) (h_r_strands : iv (0) (4) r_strands) (h_r_chairs : iv (0) (8) r_chairs) (h_r_sitters : iv (0) (8) r_sitters) (h_r_rstrandOf : rowIn (0) (3) r_rstrandOf) (h_r_rchairOf : rowIn (0) (7) r_rchairOf) : CtV l yX3_turn wsX3_turn (rmK 4 0 0) [.ref r, .int x1] D k sz ([(r, .inr (2, [.int r_told, .int r_strands, .int r_chairs, .int r_sitters, .ref r_atoldCane, .ref r_aheight, .ref r_astrandOf, .ref r_achairOf, .ref r_aweight, .ref r_acane, .int r_sits, .int r_dropped, .int r_minute, .ref r_aload, .ref r_aheads, .int r_held, .int r_heldDown])), (r_aheight, hcI k 8 r_rheight), (r_astrandOf, hcI k 8 r_rstrandOf), (r_achairOf, hcI k 8 r_rchairOf), (r_aweight, hcI k 8 r_rweight), (r_acane, hcI k 4 r_rcane), (r_aload, hcI k 4 r_rload), (r_aheads, hcI k 4 r_rheads)]) (fun u : (Int32) × (Int32) × (Nat → Int32) × (Nat → Int32) => True) (fun u : (Int32) × (Int32) × (Nat → Int32) × (Nat → Int32) => [(r, .inr (2, [.int r_told, .int r_strands, .int r_chairs, .int r_sitters, .ref r_atoldCane, .ref r_aheight, .ref r_astrandOf, .ref r_achairOf, .ref r_aweight, .ref r_acane, .int (u.1), .int (u.2.1), .int r_minute, .ref r_aload, .ref r_aheads, .int r_held, .int r_heldDown])), (r_aheight, hcI k 8 r_rheight), (r_astrandOf, hcI k 8 r_rstrandOf), (r_achairOf, hcI k 8 r_rchairOf), (r_aweight, hcI k 8 r_rweight), (r_acane, hcI k 4 r_rcane), (r_aload, hcI k 4 (u.2.2.1)), (r_aheads, hcI k 4 (u.2.2.2))]) 0 0 := by
  have h_r_told_l := h_r_told.1
  have h_r_told_u := h_r_told.2
  have h_r_strands_l := h_r_strands.1
  have h_r_strands_u := h_r_strands.2
  have h_r_chairs_l := h_r_chairs.1
  have h_r_chairs_u := h_r_chairs.2
  have h_r_sitters_l := h_r_sitters.1
  have h_r_sitters_u := h_r_sitters.2
  refine CtV.mk (cc := cX3_turn) (maxL := 2) (ret := none) (by decide) rfl (Nat.le_of_ble_eq_true rfl) ?_
  intro p e s m below meth c A ls E hP hD hS hl
  obtain ⟨hx, hb, hr, hml, hown, hts, hlocks, hin, hG, hA⟩ := E
  have hown : s.vm.findClass RX3 = some m.cls := hown
  have in3 : ∀ w ∈ u_ws RX3 TX3 17, w ∈ wsX3_turn := fun _ h => List.mem_cons_of_mem _ (List.mem_append_right _ h)
  have hl : lv_has ls 2 [(0, .ref r), (1, .int x1)] := hl
  refine lv_aload_n hx hb dX3_turn_0 rfl (lv_at hl 0 rfl) ?_
  refine lv_iload_n hx hb dX3_turn_1 rfl (lv_at hl 1 rfl) ?_
  refine lv_aload_n hx hb dX3_turn_2 rfl (lv_at hl 0 rfl) ?_
  refine lv_iload_n hx hb dX3_turn_3 rfl (lv_at hl 1 rfl) ?_
  refine hc_Vi (As := [.int x1]) (rest := [.int x1, .ref r]) (n := 1) (wr := [(r_aheight, hcI k 8 r_rheight), (r_astrandOf, hcI k 8 r_rstrandOf), (r_achairOf, hcI k 8 r_rchairOf), (r_aweight, hcI k 8 r_rweight), (r_acane, hcI k 4 r_rcane), (r_aload, hcI k 4 r_rload), (r_aheads, hcI k 4 r_rheads)]) hx hb hml hown hts hG hA hP hD hS hl.1 [0] [1, 2, 3, 4, 5, 6, 7] (i_X3_isDown l D k _ x1 r r_told r_strands r_chairs r_sitters r_atoldCane r_aheight r_astrandOf r_achairOf r_aweight r_acane r_sits r_dropped r_minute r_aload r_aheads r_held r_heldDown ⟨by omega, by omega⟩ ⟨by omega, by omega⟩ ⟨by omega, by omega⟩ ⟨by omega, by omega⟩) (ci := 2) (q0 := 0) rfl rfl gX3_turn_X3_isDown rfl ⟨rfl, rfl, Nat.le_of_ble_eq_true rfl, Nat.le_of_ble_eq_true rfl⟩ (by decide +kernel) rfl rfl ⟨by decide, by decide, by decide⟩ ⟨rfl, rfl, Nat.le_of_ble_eq_true rfl, Nat.le_of_ble_eq_true rfl, Nat.le_of_ble_eq_true rfl⟩ dX3_turn_4 (fun r2 u1 H locs hw hP hD hS => ?_)
  have hP : va_P D vwCl ([(r_aheight, hcI k 8 r_rheight), (r_astrandOf, hcI k 8 r_rstrandOf), (r_achairOf, hcI k 8 r_rchairOf), (r_aweight, hcI k 8 r_rweight), (r_acane, hcI k 4 r_rcane), (r_aload, hcI k 4 r_rload), (r_aheads, hcI k 4 r_rheads), (r, .inr (2, [.int r_told, .int r_strands, .int r_chairs, .int r_sitters, .ref r_atoldCane, .ref r_aheight, .ref r_astrandOf, .ref r_achairOf, .ref r_aweight, .ref r_acane, .int r_sits, .int r_dropped, .int r_minute, .ref r_aload, .ref r_aheads, .int r_held, .int r_heldDown]))]) H := hP
  have hD : va_D A ([(r_aheight, hcI k 8 r_rheight), (r_astrandOf, hcI k 8 r_rstrandOf), (r_achairOf, hcI k 8 r_rchairOf), (r_aweight, hcI k 8 r_rweight), (r_acane, hcI k 4 r_rcane), (r_aload, hcI k 4 r_rload), (r_aheads, hcI k 4 r_rheads), (r, .inr (2, [.int r_told, .int r_strands, .int r_chairs, .int r_sitters, .ref r_atoldCane, .ref r_aheight, .ref r_astrandOf, .ref r_achairOf, .ref r_aweight, .ref r_acane, .int r_sits, .int r_dropped, .int r_minute, .ref r_aload, .ref r_aheads, .int r_held, .int r_heldDown]))]) := hD
  obtain ⟨br2, rel3⟩ := hw
  have br2 : iv (0) (1) r2 := br2
  have br2_l := br2.1
  have br2_u := br2.2
  refine lv_if_ne (tgt := 14) hx hb dX3_turn_7 (by decide) (fun c4 => ?_) (fun c4 => ?_)
  · have fc4 := cx_ne_t (a := r2.toInt) (b := 0) rfl (by decide) c4
    refine lv_iconst (v := 0) hx hb dX3_turn_14 (by decide) ?_
    refine hc_Vv (As := [.int x1, .int 0]) (rest := []) (n := 2) (wr := [(r_aheight, hcI k 8 r_rheight), (r_acane, hcI k 4 r_rcane)]) hx hb hml hown hts hG hA hP hD hS hl.1 [7, 1, 2, 3, 5, 6] [0, 4] (i_X3_seat l D k _ x1 0 r r_told r_strands r_chairs r_sitters r_atoldCane r_aheight r_astrandOf r_achairOf r_aweight r_acane r_sits r_dropped r_minute r_aload r_aheads r_held r_heldDown r_rstrandOf r_rchairOf r_rweight r_rload r_rheads (iv_lit (by decide) (by decide)) ⟨by omega, by omega⟩ ⟨by omega, by omega⟩ ⟨by omega, by omega⟩ ⟨by omega, by omega⟩ h_r_rstrandOf h_r_rchairOf) (ci := 2) (q0 := 7) rfl rfl gX3_turn_X3_seat rfl ⟨rfl, rfl, Nat.le_of_ble_eq_true rfl, Nat.le_of_ble_eq_true rfl⟩ (by decide +kernel) rfl rfl ⟨by decide, by decide, by decide⟩ ⟨rfl, rfl, Nat.le_of_ble_eq_true rfl, Nat.le_of_ble_eq_true rfl, Nat.le_of_ble_eq_true rfl⟩ dX3_turn_15 (fun u5 H locs hw hP hD hS => ?_)
    obtain ⟨w7, w8, w9⟩ := u5
    have hP : va_P D vwCl ([(r_aheight, hcI k 8 r_rheight), (r_acane, hcI k 4 r_rcane), (r, .inr (2, [.int r_told, .int r_strands, .int r_chairs, .int r_sitters, .ref r_atoldCane, .ref r_aheight, .ref r_astrandOf, .ref r_achairOf, .ref r_aweight, .ref r_acane, .int w7, .int r_dropped, .int r_minute, .ref r_aload, .ref r_aheads, .int r_held, .int r_heldDown])), (r_astrandOf, hcI k 8 r_rstrandOf), (r_achairOf, hcI k 8 r_rchairOf), (r_aweight, hcI k 8 r_rweight), (r_aload, hcI k 4 w8), (r_aheads, hcI k 4 w9)]) H := hP
    have hD : va_D A ([(r_aheight, hcI k 8 r_rheight), (r_acane, hcI k 4 r_rcane), (r, .inr (2, [.int r_told, .int r_strands, .int r_chairs, .int r_sitters, .ref r_atoldCane, .ref r_aheight, .ref r_astrandOf, .ref r_achairOf, .ref r_aweight, .ref r_acane, .int w7, .int r_dropped, .int r_minute, .ref r_aload, .ref r_aheads, .int r_held, .int r_heldDown])), (r_astrandOf, hcI k 8 r_rstrandOf), (r_achairOf, hcI k 8 r_rchairOf), (r_aweight, hcI k 8 r_rweight), (r_aload, hcI k 4 w8), (r_aheads, hcI k 4 w9)]) := hD
    refine lv_aload_n hx hb dX3_turn_18 rfl (lv_at hl 0 rfl) ?_
    refine hc_Vi (As := []) (rest := []) (n := 0) (wr := []) hx hb hml hown hts hG hA hP hD hS hl.1 [2, 0, 3, 4, 5, 1, 6, 7] [] (i_X3_settle l D k _ r r_told r_strands r_chairs r_sitters r_atoldCane r_aheight r_astrandOf r_achairOf r_aweight r_acane w7 r_dropped r_minute r_aload r_aheads r_held r_heldDown r_rheight r_rstrandOf r_rchairOf r_rweight r_rcane w8 w9 ⟨by omega, by omega⟩ ⟨by omega, by omega⟩ ⟨by omega, by omega⟩ ⟨by omega, by omega⟩ h_r_rstrandOf h_r_rchairOf) (ci := 2) (q0 := 2) rfl rfl gX3_turn_X3_settle rfl ⟨rfl, rfl, Nat.le_of_ble_eq_true rfl, Nat.le_of_ble_eq_true rfl⟩ (by decide +kernel) rfl rfl ⟨by decide, by decide, by decide⟩ ⟨rfl, rfl, Nat.le_of_ble_eq_true rfl, Nat.le_of_ble_eq_true rfl, Nat.le_of_ble_eq_true rfl⟩ dX3_turn_19 (fun r11 u10 H locs hw hP hD hS => ?_)
    obtain ⟨w12, w13, w14, w15⟩ := u10
    have hP : va_P D vwCl ([(r, .inr (2, [.int r_told, .int r_strands, .int r_chairs, .int r_sitters, .ref r_atoldCane, .ref r_aheight, .ref r_astrandOf, .ref r_achairOf, .ref r_aweight, .ref r_acane, .int w12, .int w13, .int r_minute, .ref r_aload, .ref r_aheads, .int r_held, .int r_heldDown])), (r_aheight, hcI k 8 r_rheight), (r_astrandOf, hcI k 8 r_rstrandOf), (r_achairOf, hcI k 8 r_rchairOf), (r_aweight, hcI k 8 r_rweight), (r_acane, hcI k 4 r_rcane), (r_aload, hcI k 4 w14), (r_aheads, hcI k 4 w15)]) H := hP
    have hD : va_D A ([(r, .inr (2, [.int r_told, .int r_strands, .int r_chairs, .int r_sitters, .ref r_atoldCane, .ref r_aheight, .ref r_astrandOf, .ref r_achairOf, .ref r_aweight, .ref r_acane, .int w12, .int w13, .int r_minute, .ref r_aload, .ref r_aheads, .int r_held, .int r_heldDown])), (r_aheight, hcI k 8 r_rheight), (r_astrandOf, hcI k 8 r_rstrandOf), (r_achairOf, hcI k 8 r_rchairOf), (r_aweight, hcI k 8 r_rweight), (r_acane, hcI k 4 r_rcane), (r_aload, hcI k 4 w14), (r_aheads, hcI k 4 w15)]) := hD
    refine lv_pop hx hb dX3_turn_22 rfl ?_
    exact hc_endV hx hb hr hlocks (w12, w13, w14, w15) trivial hP hD hS dX3_turn_23
  · have fc4 := cx_ne_f (a := r2.toInt) (b := 0) rfl (by decide) c4
    refine lv_iconst (v := 1) hx hb dX3_turn_10 (by decide) ?_
    refine lv_goto (tgt := 15) hx hb dX3_turn_11 (by decide) ?_
    refine hc_Vv (As := [.int x1, .int 1]) (rest := []) (n := 2) (wr := [(r_aheight, hcI k 8 r_rheight), (r_acane, hcI k 4 r_rcane)]) hx hb hml hown hts hG hA hP hD hS hl.1 [7, 1, 2, 3, 5, 6] [0, 4] (i_X3_seat l D k _ x1 1 r r_told r_strands r_chairs r_sitters r_atoldCane r_aheight r_astrandOf r_achairOf r_aweight r_acane r_sits r_dropped r_minute r_aload r_aheads r_held r_heldDown r_rstrandOf r_rchairOf r_rweight r_rload r_rheads (iv_lit (by decide) (by decide)) ⟨by omega, by omega⟩ ⟨by omega, by omega⟩ ⟨by omega, by omega⟩ ⟨by omega, by omega⟩ h_r_rstrandOf h_r_rchairOf) (ci := 2) (q0 := 7) rfl rfl gX3_turn_X3_seat rfl ⟨rfl, rfl, Nat.le_of_ble_eq_true rfl, Nat.le_of_ble_eq_true rfl⟩ (by decide +kernel) rfl rfl ⟨by decide, by decide, by decide⟩ ⟨rfl, rfl, Nat.le_of_ble_eq_true rfl, Nat.le_of_ble_eq_true rfl, Nat.le_of_ble_eq_true rfl⟩ dX3_turn_15 (fun u16 H locs hw hP hD hS => ?_)
    obtain ⟨w18, w19, w20⟩ := u16
    have hP : va_P D vwCl ([(r_aheight, hcI k 8 r_rheight), (r_acane, hcI k 4 r_rcane), (r, .inr (2, [.int r_told, .int r_strands, .int r_chairs, .int r_sitters, .ref r_atoldCane, .ref r_aheight, .ref r_astrandOf, .ref r_achairOf, .ref r_aweight, .ref r_acane, .int w18, .int r_dropped, .int r_minute, .ref r_aload, .ref r_aheads, .int r_held, .int r_heldDown])), (r_astrandOf, hcI k 8 r_rstrandOf), (r_achairOf, hcI k 8 r_rchairOf), (r_aweight, hcI k 8 r_rweight), (r_aload, hcI k 4 w19), (r_aheads, hcI k 4 w20)]) H := hP
    have hD : va_D A ([(r_aheight, hcI k 8 r_rheight), (r_acane, hcI k 4 r_rcane), (r, .inr (2, [.int r_told, .int r_strands, .int r_chairs, .int r_sitters, .ref r_atoldCane, .ref r_aheight, .ref r_astrandOf, .ref r_achairOf, .ref r_aweight, .ref r_acane, .int w18, .int r_dropped, .int r_minute, .ref r_aload, .ref r_aheads, .int r_held, .int r_heldDown])), (r_astrandOf, hcI k 8 r_rstrandOf), (r_achairOf, hcI k 8 r_rchairOf), (r_aweight, hcI k 8 r_rweight), (r_aload, hcI k 4 w19), (r_aheads, hcI k 4 w20)]) := hD
    refine lv_aload_n hx hb dX3_turn_18 rfl (lv_at hl 0 rfl) ?_
    refine hc_Vi (As := []) (rest := []) (n := 0) (wr := []) hx hb hml hown hts hG hA hP hD hS hl.1 [2, 0, 3, 4, 5, 1, 6, 7] [] (i_X3_settle l D k _ r r_told r_strands r_chairs r_sitters r_atoldCane r_aheight r_astrandOf r_achairOf r_aweight r_acane w18 r_dropped r_minute r_aload r_aheads r_held r_heldDown r_rheight r_rstrandOf r_rchairOf r_rweight r_rcane w19 w20 ⟨by omega, by omega⟩ ⟨by omega, by omega⟩ ⟨by omega, by omega⟩ ⟨by omega, by omega⟩ h_r_rstrandOf h_r_rchairOf) (ci := 2) (q0 := 2) rfl rfl gX3_turn_X3_settle rfl ⟨rfl, rfl, Nat.le_of_ble_eq_true rfl, Nat.le_of_ble_eq_true rfl⟩ (by decide +kernel) rfl rfl ⟨by decide, by decide, by decide⟩ ⟨rfl, rfl, Nat.le_of_ble_eq_true rfl, Nat.le_of_ble_eq_true rfl, Nat.le_of_ble_eq_true rfl⟩ dX3_turn_19 (fun r22 u21 H locs hw hP hD hS => ?_)
    obtain ⟨w23, w24, w25, w26⟩ := u21
    have hP : va_P D vwCl ([(r, .inr (2, [.int r_told, .int r_strands, .int r_chairs, .int r_sitters, .ref r_atoldCane, .ref r_aheight, .ref r_astrandOf, .ref r_achairOf, .ref r_aweight, .ref r_acane, .int w23, .int w24, .int r_minute, .ref r_aload, .ref r_aheads, .int r_held, .int r_heldDown])), (r_aheight, hcI k 8 r_rheight), (r_astrandOf, hcI k 8 r_rstrandOf), (r_achairOf, hcI k 8 r_rchairOf), (r_aweight, hcI k 8 r_rweight), (r_acane, hcI k 4 r_rcane), (r_aload, hcI k 4 w25), (r_aheads, hcI k 4 w26)]) H := hP
    have hD : va_D A ([(r, .inr (2, [.int r_told, .int r_strands, .int r_chairs, .int r_sitters, .ref r_atoldCane, .ref r_aheight, .ref r_astrandOf, .ref r_achairOf, .ref r_aweight, .ref r_acane, .int w23, .int w24, .int r_minute, .ref r_aload, .ref r_aheads, .int r_held, .int r_heldDown])), (r_aheight, hcI k 8 r_rheight), (r_astrandOf, hcI k 8 r_rstrandOf), (r_achairOf, hcI k 8 r_rchairOf), (r_aweight, hcI k 8 r_rweight), (r_acane, hcI k 4 r_rcane), (r_aload, hcI k 4 w25), (r_aheads, hcI k 4 w26)]) := hD
    refine lv_pop hx hb dX3_turn_22 rfl ?_
    exact hc_endV hx hb hr hlocks (w23, w24, w25, w26) trivial hP hD hS dX3_turn_23
set_option maxHeartbeats 4000000 in
set_option maxRecDepth 100000 in
theorem i_X3_restart (l : Launch) (D : va_G) (k : Nat → ClassId) (sz : Nat) (r : Nat) (r_told : Int32) (r_strands : Int32) (r_chairs : Int32) (r_sitters : Int32) (r_atoldCane : Nat) (r_aheight : Nat) (r_astrandOf : Nat) (r_achairOf : Nat) (r_aweight : Nat) (r_acane : Nat) (r_sits : Int32) (r_dropped : Int32) (r_minute : Int32) (r_aload : Nat) (r_aheads : Nat) (r_held : Int32) (r_heldDown : Int32) (r_rtoldCane : Nat → Int32) (r_rheight : Nat → Int32) (r_rstrandOf : Nat → Int32) (r_rchairOf : Nat → Int32) (r_rweight : Nat → Int32) (r_rcane : Nat → Int32) (r_rload : Nat → Int32) (r_rheads : Nat → Int32) (h_r_told : iv (0) (1) r_told) (h_r_strands : iv (0) (4) r_strands) (h_r_chairs : iv (0) (8) r_chairs) (h_r_sitters : iv (0) (8) r_sitters) (h_r_rstrandOf : rowIn (0) (3) r_rstrandOf) (h_r_rchairOf : rowIn (0) (7) r_rchairOf) : CtV l yX3_restart wsX3_restart (rmK 3 0 0) [.ref r] D k sz ([(r, .inr (2, [.int r_told, .int r_strands, .int r_chairs, .int r_sitters, .ref r_atoldCane, .ref r_aheight, .ref r_astrandOf, .ref r_achairOf, .ref r_aweight, .ref r_acane, .int r_sits, .int r_dropped, .int r_minute, .ref r_aload, .ref r_aheads, .int r_held, .int r_heldDown])), (r_atoldCane, hcI k 4 r_rtoldCane), (r_aheight, hcI k 8 r_rheight), (r_astrandOf, hcI k 8 r_rstrandOf), (r_achairOf, hcI k 8 r_rchairOf), (r_aweight, hcI k 8 r_rweight), (r_acane, hcI k 4 r_rcane), (r_aload, hcI k 4 r_rload), (r_aheads, hcI k 4 r_rheads)]) (fun u : (Int32) × (Int32) × (Int32) × (Int32) × (Nat → Int32) × (Nat → Int32) × (Nat → Int32) => True) (fun u : (Int32) × (Int32) × (Int32) × (Int32) × (Nat → Int32) × (Nat → Int32) × (Nat → Int32) => [(r, .inr (2, [.int r_told, .int r_strands, .int r_chairs, .int r_sitters, .ref r_atoldCane, .ref r_aheight, .ref r_astrandOf, .ref r_achairOf, .ref r_aweight, .ref r_acane, .int (u.1), .int (u.2.1), .int (u.2.2.1), .ref r_aload, .ref r_aheads, .int (u.2.2.2.1), .int r_heldDown])), (r_atoldCane, hcI k 4 r_rtoldCane), (r_aheight, hcI k 8 r_rheight), (r_astrandOf, hcI k 8 r_rstrandOf), (r_achairOf, hcI k 8 r_rchairOf), (r_aweight, hcI k 8 r_rweight), (r_acane, hcI k 4 (u.2.2.2.2.1)), (r_aload, hcI k 4 (u.2.2.2.2.2.1)), (r_aheads, hcI k 4 (u.2.2.2.2.2.2))]) 0 0 := by
  have h_r_told_l := h_r_told.1
  have h_r_told_u := h_r_told.2
  have h_r_strands_l := h_r_strands.1
  have h_r_strands_u := h_r_strands.2
  have h_r_chairs_l := h_r_chairs.1
  have h_r_chairs_u := h_r_chairs.2
  have h_r_sitters_l := h_r_sitters.1
  have h_r_sitters_u := h_r_sitters.2
  refine CtV.mk (cc := cX3_restart) (maxL := 1) (ret := none) (by decide) rfl (Nat.le_of_ble_eq_true rfl) ?_
  intro p e s m below meth c A ls E hP hD hS hl
  obtain ⟨hx, hb, hr, hml, hown, hts, hlocks, hin, hG, hA⟩ := E
  have hown : s.vm.findClass RX3 = some m.cls := hown
  have in3 : ∀ w ∈ u_ws RX3 TX3 17, w ∈ wsX3_restart := fun _ h => List.mem_cons_of_mem _ (List.mem_append_right _ h)
  have hl : lv_has ls 1 [(0, .ref r)] := hl
  refine lv_aload_n hx hb dX3_restart_0 rfl (lv_at hl 0 rfl) ?_
  refine va_get (D := D) (ci := 2) (v := .ref r_atoldCane) (C := RX3) (T := TX3) (N := 17) hx hb hts in3 hown hG.1 hP 0 rfl rfl 4 (by decide) (hts (.fieldLink RX3 25 "ChairCane$Room" "toldCane" "[I") (by decide +kernel)) (fun _ h9 => h9) rfl dX3_restart_1 ?_
  refine lv_iconst (v := 0) hx hb dX3_restart_4 (by decide) ?_
  refine lv_aload_n hx hb dX3_restart_5 rfl (lv_at hl 0 rfl) ?_
  refine va_get (D := D) (ci := 2) (v := .ref r_acane) (C := RX3) (T := TX3) (N := 17) hx hb hts in3 hown hG.1 hP 0 rfl rfl 9 (by decide) (hts (.fieldLink RX3 41 "ChairCane$Room" "cane" "[I") (by decide +kernel)) (fun _ h9 => h9) rfl dX3_restart_6 ?_
  refine lv_iconst (v := 0) hx hb dX3_restart_9 (by decide) ?_
  refine lv_iconst (v := 4) hx hb dX3_restart_10 (by decide) ?_
  refine va_copyi hx hb (by rw [hml]; exact hl.1.symm) hown (hts (.methodLink RX3 65 arraycopyName) (by decide +kernel)) (hts (.native arraycopyName) (by decide +kernel)) (hts (.static arraycopyName) (by decide +kernel)) (hts (.initialized "java/lang/System") (by decide +kernel)) hG.1 hP hD hS 1 6 0 0 rfl rfl rfl rfl rfl (by decide) (by decide) (by decide) (by decide) (by decide) (fun _ _ => rfl) (Nat.le_of_ble_eq_true rfl) (Nat.le_of_ble_eq_true rfl) dX3_restart_11 (fun H locs hP hD hS => ?_)
  obtain ⟨f1, ef1⟩ : ∃ f : Nat → Int32, f = va_cpy r_rtoldCane r_rcane (Int32.toNatClampNeg 0) (Int32.toNatClampNeg 0) (Int32.toNatClampNeg 4) := ⟨_, rfl⟩
  rw [← ef1] at hP hD
  have hP : va_P D vwCl ([(r, .inr (2, [.int r_told, .int r_strands, .int r_chairs, .int r_sitters, .ref r_atoldCane, .ref r_aheight, .ref r_astrandOf, .ref r_achairOf, .ref r_aweight, .ref r_acane, .int r_sits, .int r_dropped, .int r_minute, .ref r_aload, .ref r_aheads, .int r_held, .int r_heldDown])), (r_atoldCane, hcI k 4 r_rtoldCane), (r_aheight, hcI k 8 r_rheight), (r_astrandOf, hcI k 8 r_rstrandOf), (r_achairOf, hcI k 8 r_rchairOf), (r_aweight, hcI k 8 r_rweight), (r_acane, hcI k 4 f1), (r_aload, hcI k 4 r_rload), (r_aheads, hcI k 4 r_rheads)]) H := hP
  have hD : va_D A ([(r, .inr (2, [.int r_told, .int r_strands, .int r_chairs, .int r_sitters, .ref r_atoldCane, .ref r_aheight, .ref r_astrandOf, .ref r_achairOf, .ref r_aweight, .ref r_acane, .int r_sits, .int r_dropped, .int r_minute, .ref r_aload, .ref r_aheads, .int r_held, .int r_heldDown])), (r_atoldCane, hcI k 4 r_rtoldCane), (r_aheight, hcI k 8 r_rheight), (r_astrandOf, hcI k 8 r_rstrandOf), (r_achairOf, hcI k 8 r_rchairOf), (r_aweight, hcI k 8 r_rweight), (r_acane, hcI k 4 f1), (r_aload, hcI k 4 r_rload), (r_aheads, hcI k 4 r_rheads)]) := hD
  refine lv_aload_n hx hb dX3_restart_14 rfl (lv_at hl 0 rfl) ?_
  refine lv_iconst (v := 0) hx hb dX3_restart_15 (by decide) ?_
  refine va_put (D := D) (ci := 2) (v := .int 0) (C := RX3) (T := TX3) (N := 17) hx hb hts in3 tyX3 tyX3_ok nmX3 hown hG.1 hP hD hS 0 rfl rfl 10 (by decide) (hts (.fieldLink RX3 44 "ChairCane$Room" "sits" "I") (by decide +kernel)) (fun _ h9 => h9) rfl (tyX3_ok 10 (by decide)) rfl rfl (Nat.le_of_ble_eq_true rfl) dX3_restart_16 (fun H locs hP hD hS => ?_)
  have hP : va_P D vwCl ([(r, .inr (2, [.int r_told, .int r_strands, .int r_chairs, .int r_sitters, .ref r_atoldCane, .ref r_aheight, .ref r_astrandOf, .ref r_achairOf, .ref r_aweight, .ref r_acane, .int 0, .int r_dropped, .int r_minute, .ref r_aload, .ref r_aheads, .int r_held, .int r_heldDown])), (r_atoldCane, hcI k 4 r_rtoldCane), (r_aheight, hcI k 8 r_rheight), (r_astrandOf, hcI k 8 r_rstrandOf), (r_achairOf, hcI k 8 r_rchairOf), (r_aweight, hcI k 8 r_rweight), (r_acane, hcI k 4 f1), (r_aload, hcI k 4 r_rload), (r_aheads, hcI k 4 r_rheads)]) H := hP
  have hD : va_D A ([(r, .inr (2, [.int r_told, .int r_strands, .int r_chairs, .int r_sitters, .ref r_atoldCane, .ref r_aheight, .ref r_astrandOf, .ref r_achairOf, .ref r_aweight, .ref r_acane, .int 0, .int r_dropped, .int r_minute, .ref r_aload, .ref r_aheads, .int r_held, .int r_heldDown])), (r_atoldCane, hcI k 4 r_rtoldCane), (r_aheight, hcI k 8 r_rheight), (r_astrandOf, hcI k 8 r_rstrandOf), (r_achairOf, hcI k 8 r_rchairOf), (r_aweight, hcI k 8 r_rweight), (r_acane, hcI k 4 f1), (r_aload, hcI k 4 r_rload), (r_aheads, hcI k 4 r_rheads)]) := hD
  refine lv_aload_n hx hb dX3_restart_19 rfl (lv_at hl 0 rfl) ?_
  refine lv_iconst (v := 0) hx hb dX3_restart_20 (by decide) ?_
  refine va_put (D := D) (ci := 2) (v := .int 0) (C := RX3) (T := TX3) (N := 17) hx hb hts in3 tyX3 tyX3_ok nmX3 hown hG.1 hP hD hS 0 rfl rfl 11 (by decide) (hts (.fieldLink RX3 47 "ChairCane$Room" "dropped" "I") (by decide +kernel)) (fun _ h9 => h9) rfl (tyX3_ok 11 (by decide)) rfl rfl (Nat.le_of_ble_eq_true rfl) dX3_restart_21 (fun H locs hP hD hS => ?_)
  have hP : va_P D vwCl ([(r, .inr (2, [.int r_told, .int r_strands, .int r_chairs, .int r_sitters, .ref r_atoldCane, .ref r_aheight, .ref r_astrandOf, .ref r_achairOf, .ref r_aweight, .ref r_acane, .int 0, .int 0, .int r_minute, .ref r_aload, .ref r_aheads, .int r_held, .int r_heldDown])), (r_atoldCane, hcI k 4 r_rtoldCane), (r_aheight, hcI k 8 r_rheight), (r_astrandOf, hcI k 8 r_rstrandOf), (r_achairOf, hcI k 8 r_rchairOf), (r_aweight, hcI k 8 r_rweight), (r_acane, hcI k 4 f1), (r_aload, hcI k 4 r_rload), (r_aheads, hcI k 4 r_rheads)]) H := hP
  have hD : va_D A ([(r, .inr (2, [.int r_told, .int r_strands, .int r_chairs, .int r_sitters, .ref r_atoldCane, .ref r_aheight, .ref r_astrandOf, .ref r_achairOf, .ref r_aweight, .ref r_acane, .int 0, .int 0, .int r_minute, .ref r_aload, .ref r_aheads, .int r_held, .int r_heldDown])), (r_atoldCane, hcI k 4 r_rtoldCane), (r_aheight, hcI k 8 r_rheight), (r_astrandOf, hcI k 8 r_rstrandOf), (r_achairOf, hcI k 8 r_rchairOf), (r_aweight, hcI k 8 r_rweight), (r_acane, hcI k 4 f1), (r_aload, hcI k 4 r_rload), (r_aheads, hcI k 4 r_rheads)]) := hD
  refine lv_aload_n hx hb dX3_restart_24 rfl (lv_at hl 0 rfl) ?_
  refine lv_iconst (v := 0) hx hb dX3_restart_25 (by decide) ?_
  refine va_put (D := D) (ci := 2) (v := .int 0) (C := RX3) (T := TX3) (N := 17) hx hb hts in3 tyX3 tyX3_ok nmX3 hown hG.1 hP hD hS 0 rfl rfl 12 (by decide) (hts (.fieldLink RX3 50 "ChairCane$Room" "minute" "I") (by decide +kernel)) (fun _ h9 => h9) rfl (tyX3_ok 12 (by decide)) rfl rfl (Nat.le_of_ble_eq_true rfl) dX3_restart_26 (fun H locs hP hD hS => ?_)
  have hP : va_P D vwCl ([(r, .inr (2, [.int r_told, .int r_strands, .int r_chairs, .int r_sitters, .ref r_atoldCane, .ref r_aheight, .ref r_astrandOf, .ref r_achairOf, .ref r_aweight, .ref r_acane, .int 0, .int 0, .int 0, .ref r_aload, .ref r_aheads, .int r_held, .int r_heldDown])), (r_atoldCane, hcI k 4 r_rtoldCane), (r_aheight, hcI k 8 r_rheight), (r_astrandOf, hcI k 8 r_rstrandOf), (r_achairOf, hcI k 8 r_rchairOf), (r_aweight, hcI k 8 r_rweight), (r_acane, hcI k 4 f1), (r_aload, hcI k 4 r_rload), (r_aheads, hcI k 4 r_rheads)]) H := hP
  have hD : va_D A ([(r, .inr (2, [.int r_told, .int r_strands, .int r_chairs, .int r_sitters, .ref r_atoldCane, .ref r_aheight, .ref r_astrandOf, .ref r_achairOf, .ref r_aweight, .ref r_acane, .int 0, .int 0, .int 0, .ref r_aload, .ref r_aheads, .int r_held, .int r_heldDown])), (r_atoldCane, hcI k 4 r_rtoldCane), (r_aheight, hcI k 8 r_rheight), (r_astrandOf, hcI k 8 r_rstrandOf), (r_achairOf, hcI k 8 r_rchairOf), (r_aweight, hcI k 8 r_rweight), (r_acane, hcI k 4 f1), (r_aload, hcI k 4 r_rload), (r_aheads, hcI k 4 r_rheads)]) := hD
  refine lv_aload_n hx hb dX3_restart_29 rfl (lv_at hl 0 rfl) ?_
  refine lv_iconst (v := 0) hx hb dX3_restart_30 (by decide) ?_
  refine va_put (D := D) (ci := 2) (v := .int 0) (C := RX3) (T := TX3) (N := 17) hx hb hts in3 tyX3 tyX3_ok nmX3 hown hG.1 hP hD hS 0 rfl rfl 15 (by decide) (hts (.fieldLink RX3 59 "ChairCane$Room" "held" "I") (by decide +kernel)) (fun _ h9 => h9) rfl (tyX3_ok 15 (by decide)) rfl rfl (Nat.le_of_ble_eq_true rfl) dX3_restart_31 (fun H locs hP hD hS => ?_)
  have hP : va_P D vwCl ([(r, .inr (2, [.int r_told, .int r_strands, .int r_chairs, .int r_sitters, .ref r_atoldCane, .ref r_aheight, .ref r_astrandOf, .ref r_achairOf, .ref r_aweight, .ref r_acane, .int 0, .int 0, .int 0, .ref r_aload, .ref r_aheads, .int 0, .int r_heldDown])), (r_atoldCane, hcI k 4 r_rtoldCane), (r_aheight, hcI k 8 r_rheight), (r_astrandOf, hcI k 8 r_rstrandOf), (r_achairOf, hcI k 8 r_rchairOf), (r_aweight, hcI k 8 r_rweight), (r_acane, hcI k 4 f1), (r_aload, hcI k 4 r_rload), (r_aheads, hcI k 4 r_rheads)]) H := hP
  have hD : va_D A ([(r, .inr (2, [.int r_told, .int r_strands, .int r_chairs, .int r_sitters, .ref r_atoldCane, .ref r_aheight, .ref r_astrandOf, .ref r_achairOf, .ref r_aweight, .ref r_acane, .int 0, .int 0, .int 0, .ref r_aload, .ref r_aheads, .int 0, .int r_heldDown])), (r_atoldCane, hcI k 4 r_rtoldCane), (r_aheight, hcI k 8 r_rheight), (r_astrandOf, hcI k 8 r_rstrandOf), (r_achairOf, hcI k 8 r_rchairOf), (r_aweight, hcI k 8 r_rweight), (r_acane, hcI k 4 f1), (r_aload, hcI k 4 r_rload), (r_aheads, hcI k 4 r_rheads)]) := hD
  refine lv_aload_n hx hb dX3_restart_34 rfl (lv_at hl 0 rfl) ?_
  refine hc_Vv (As := []) (rest := []) (n := 0) (wr := [(r_atoldCane, hcI k 4 r_rtoldCane), (r_aheight, hcI k 8 r_rheight), (r_acane, hcI k 4 f1)]) hx hb hml hown hts hG hA hP hD hS hl.1 [0, 3, 4, 5, 7, 8] [1, 2, 6] (i_X3_weigh l D k _ r r_told r_strands r_chairs r_sitters r_atoldCane r_aheight r_astrandOf r_achairOf r_aweight r_acane 0 0 0 r_aload r_aheads 0 r_heldDown r_rstrandOf r_rchairOf r_rweight r_rload r_rheads ⟨by omega, by omega⟩ ⟨by omega, by omega⟩ ⟨by omega, by omega⟩ ⟨by omega, by omega⟩ h_r_rstrandOf h_r_rchairOf) (ci := 2) (q0 := 0) rfl rfl gX3_restart_X3_weigh rfl ⟨rfl, rfl, Nat.le_of_ble_eq_true rfl, Nat.le_of_ble_eq_true rfl⟩ (by decide +kernel) rfl rfl ⟨by decide, by decide, by decide⟩ ⟨rfl, rfl, Nat.le_of_ble_eq_true rfl, Nat.le_of_ble_eq_true rfl, Nat.le_of_ble_eq_true rfl⟩ dX3_restart_35 (fun u2 H locs hw hP hD hS => ?_)
  obtain ⟨w4, w5⟩ := u2
  have hP : va_P D vwCl ([(r_atoldCane, hcI k 4 r_rtoldCane), (r_aheight, hcI k 8 r_rheight), (r_acane, hcI k 4 f1), (r, .inr (2, [.int r_told, .int r_strands, .int r_chairs, .int r_sitters, .ref r_atoldCane, .ref r_aheight, .ref r_astrandOf, .ref r_achairOf, .ref r_aweight, .ref r_acane, .int 0, .int 0, .int 0, .ref r_aload, .ref r_aheads, .int 0, .int r_heldDown])), (r_astrandOf, hcI k 8 r_rstrandOf), (r_achairOf, hcI k 8 r_rchairOf), (r_aweight, hcI k 8 r_rweight), (r_aload, hcI k 4 w4), (r_aheads, hcI k 4 w5)]) H := hP
  have hD : va_D A ([(r_atoldCane, hcI k 4 r_rtoldCane), (r_aheight, hcI k 8 r_rheight), (r_acane, hcI k 4 f1), (r, .inr (2, [.int r_told, .int r_strands, .int r_chairs, .int r_sitters, .ref r_atoldCane, .ref r_aheight, .ref r_astrandOf, .ref r_achairOf, .ref r_aweight, .ref r_acane, .int 0, .int 0, .int 0, .ref r_aload, .ref r_aheads, .int 0, .int r_heldDown])), (r_astrandOf, hcI k 8 r_rstrandOf), (r_achairOf, hcI k 8 r_rchairOf), (r_aweight, hcI k 8 r_rweight), (r_aload, hcI k 4 w4), (r_aheads, hcI k 4 w5)]) := hD
  exact hc_endV hx hb hr hlocks (0, 0, 0, 0, f1, w4, w5) trivial (hP.sub [3, 0, 1, 4, 5, 6, 2, 7, 8] rfl) (hD.sub [3, 0, 1, 4, 5, 6, 2, 7, 8] (by decide) rfl) hS dX3_restart_38
