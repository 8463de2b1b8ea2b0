/-! decode rows by their opcodes -/
theorem od_u1 {c : ByteArray} {p n : Nat} (h : (c.data.toList[p]?).map UInt8.toNat = some n) : (Reader.u1 : Decoder Nat) c p = .ok (n, p + 1) := by
  obtain ⟨b, hb, hn⟩ := Option.map_eq_some_iff.mp h
  obtain ⟨hp, hb⟩ := List.getElem?_eq_some_iff.mp hb
  have hq : p < c.size := hp
  have e : (Reader.u1 : Decoder Nat) c p = (if h : p < c.size then (do set (p + 1); pure (c[p]'h).toNat : Decoder Nat) else throw (HasTruncated.truncated p)) c p := rfl
  rw [e, dif_pos hq]
  show (Except.ok ((c[p]'hq).toNat, p + 1) : Except DecodeError (Nat × Nat)) = _
  have e2 : c[p]'hq = b := hb
  rw [e2, hn]
theorem od_b {α β : Type} {r : Decoder α} {k : α → Decoder β} {c : ByteArray} {p p' : Nat} {a : α} {z : Except DecodeError (β × Nat)} (h : r c p = .ok (a, p')) (hk : k a c p' = z) : (r >>= k) c p = z := by
  have e : (r >>= k) c p = Except.bind (r c p) (fun x => k x.1 c x.2) := rfl
  rw [e, h]
  exact hk
theorem od_m {α β : Type} {r : Decoder α} {f : α → β} {c : ByteArray} {p p' : Nat} {a : α} (h : r c p = .ok (a, p')) : (f <$> r) c p = .ok (f a, p') := by
  have e : (f <$> r) c p = Except.bind (r c p) (fun x => Except.ok (f x.1, x.2)) := by
    show Except.bind (r c p) _ = Except.bind (r c p) _
    rfl
  rw [e, h]
  rfl
noncomputable def od_at (c : ByteArray) (p : Nat) : List Nat → Prop
  | [] => True
  | n :: l => (c.data.toList[p]?).map UInt8.toNat = some n ∧ od_at c (p + 1) l
noncomputable def od_t : List UInt8 → List Nat → Bool
  | _, [] => true
  | [], _ => false
  | a :: l, n :: m => a.toNat == n && od_t l m
theorem od_of {c : ByteArray} : ∀ {m : List Nat} {p : Nat}, od_t (c.data.toList.drop p) m = true → od_at c p m
  | [], _, _ => trivial
  | n :: m, p, h => by
    cases e : c.data.toList.drop p with
    | nil => rw [e] at h; cases h
    | cons a l =>
      rw [e] at h
      have h1 := (Bool.and_eq_true _ _).mp h
      have e1 : c.data.toList[p]? = some a := by
        have := congrArg (fun l : List UInt8 => l[0]?) e
        simpa [List.getElem?_drop] using this
      have e2 : c.data.toList.drop (p + 1) = l := by
        rw [← List.drop_drop, e]
        rfl
      refine ⟨?_, od_of (by rw [e2]; exact h1.2)⟩
      rw [e1]
      exact congrArg some (beq_iff_eq.mp h1.1)
theorem od_tk : ∀ {l : List UInt8} {a : Nat} {m : List Nat}, od_t (l.take a) m = true → od_t l m = true
  | [], _, [], _ => rfl
  | _ :: _, _, [], _ => rfl
  | [], a, n :: m, h => by
    rw [List.take_nil] at h
    exact h
  | x :: l, 0, n :: m, h => by cases h
  | x :: l, a + 1, n :: m, h => by
    have h1 := (Bool.and_eq_true _ _).mp h
    exact (Bool.and_eq_true _ _).mpr ⟨h1.1, od_tk h1.2⟩
theorem od_ch {L chunk : List UInt8} {q n j : Nat} {m : List Nat} (e : (L.drop q).take n = chunk) (h : od_t (chunk.drop j) m = true) : od_t (L.drop (q + j)) m = true := by
  subst e
  rw [List.drop_take, List.drop_drop] at h
  exact od_tk h
theorem od_ca {L chunk : List UInt8} {q n j : Nat} {m : List Nat} {b : Bool} (e : (L.drop q).take n = chunk) (h : (od_t (chunk.drop j) m && b) = true) : (od_t (L.drop (q + j)) m && b) = true := by
  have h1 := (Bool.and_eq_true _ _).mp h
  exact (Bool.and_eq_true _ _).mpr ⟨od_ch e h1.1, h1.2⟩
noncomputable def IK (op : Nat) (d : Decoder Instr) : Prop := ∀ (c : ByteArray) (p : Nat), (c.data.toList[p]?).map UInt8.toNat = some op → Decoder.instr p c p = d c (p + 1)
theorem od_dec {c : ByteArray} {p q n : Nat} {i : Instr} (h : Decoder.instr p c p = .ok (i, q)) (hn : q = p + n) : decode c p = .ok (i, n) := by
  have e : decode c p = Except.bind (Decoder.instr p c p) (fun x => Except.ok (x.1, x.2 - p)) := rfl
  rw [e, h]
  show Except.ok (i, q - p) = _
  rw [hn, Nat.add_sub_cancel_left]
theorem of_0 {op : Nat} {i : Instr} (k : IK op (pure i)) {c : ByteArray} {p : Nat} (h : od_t (c.data.toList.drop p) [op] = true) : decode c p = .ok (i, 1) :=
  od_dec (k c p (od_of h).1) rfl
theorem of_u1 {op : Nat} {g : Nat → Instr} (k : IK op (Reader.u1 >>= fun x => pure (g x))) {c : ByteArray} {p a : Nat} (h : od_t (c.data.toList.drop p) [op, a] = true) : decode c p = .ok (g a, 2) :=
  od_dec ((k c p (od_of h).1).trans (od_b (od_u1 (od_of h).2.1) rfl)) rfl
theorem od_u2 {c : ByteArray} {p a b : Nat} (h1 : (c.data.toList[p]?).map UInt8.toNat = some a) (h2 : (c.data.toList[p + 1]?).map UInt8.toNat = some b) : (Reader.u2 : Decoder Nat) c p = .ok (a * 256 + b, p + 2) :=
  od_b (od_u1 h1) (od_b (od_u1 h2) rfl)
theorem of_u2 {op : Nat} {g : Nat → Instr} (k : IK op (Reader.u2 >>= fun x => pure (g x))) {c : ByteArray} {p n : Nat} (a b : Nat) (h : (od_t (c.data.toList.drop p) [op, a, b] && (a * 256 + b == n)) = true) : decode c p = .ok (g n, 3) := by
  have h1 := (Bool.and_eq_true _ _).mp h
  have e := beq_iff_eq.mp h1.2
  subst e
  have o := od_of h1.1
  exact od_dec ((k c p o.1).trans (od_b (od_u2 o.2.1 o.2.2.1) rfl)) rfl
theorem of_s1 {op : Nat} {g : Int → Instr} (k : IK op (Reader.s1 >>= fun x => pure (g x))) {c : ByteArray} {p : Nat} {n : Int} (a : Nat) (h : (od_t (c.data.toList.drop p) [op, a] && decide (Reader.signed 8 a = n)) = true) : decode c p = .ok (g n, 2) := by
  have h1 := (Bool.and_eq_true _ _).mp h
  have e := of_decide_eq_true h1.2
  subst e
  have o := od_of h1.1
  exact od_dec ((k c p o.1).trans (od_b (od_m (od_u1 o.2.1)) rfl)) rfl
theorem of_s2 {op : Nat} {g : Int → Instr} (k : IK op (Reader.s2 >>= fun x => pure (g x))) {c : ByteArray} {p : Nat} {n : Int} (a b : Nat) (h : (od_t (c.data.toList.drop p) [op, a, b] && decide (Reader.signed 16 (a * 256 + b) = n)) = true) : decode c p = .ok (g n, 3) := by
  have h1 := (Bool.and_eq_true _ _).mp h
  have e := of_decide_eq_true h1.2
  subst e
  have o := od_of h1.1
  exact od_dec ((k c p o.1).trans (od_b (od_m (od_u2 o.2.1 o.2.2.1)) rfl)) rfl
theorem of_ii {op : Nat} {g : Nat → Int → Instr} (k : IK op (Reader.u1 >>= fun x => Reader.s1 >>= fun y => pure (g x y))) {c : ByteArray} {p j : Nat} {n : Int} (a : Nat) (h : (od_t (c.data.toList.drop p) [op, j, a] && decide (Reader.signed 8 a = n)) = true) : decode c p = .ok (g j n, 3) := by
  have h1 := (Bool.and_eq_true _ _).mp h
  have e := of_decide_eq_true h1.2
  subst e
  have o := od_of h1.1
  exact od_dec ((k c p o.1).trans (od_b (od_u1 o.2.1) (od_b (od_m (od_u1 o.2.2.1)) rfl))) rfl
set_option maxRecDepth 10000 in
theorem ok_aaload : IK 50 (pure (.aaload)) := fun c p h => by
  unfold Decoder.instr
  exact od_b (od_u1 h) rfl
set_option maxRecDepth 10000 in
theorem ok_aastore : IK 83 (pure (.aastore)) := fun c p h => by
  unfold Decoder.instr
  exact od_b (od_u1 h) rfl
set_option maxRecDepth 10000 in
theorem ok_aconst_null : IK 1 (pure (.aconst_null)) := fun c p h => by
  unfold Decoder.instr
  exact od_b (od_u1 h) rfl
set_option maxRecDepth 10000 in
theorem ok_aload_n_0 : IK 42 (pure (.aload_n 0)) := fun c p h => by
  unfold Decoder.instr
  exact od_b (od_u1 h) rfl
set_option maxRecDepth 10000 in
theorem ok_aload_n_1 : IK 43 (pure (.aload_n 1)) := fun c p h => by
  unfold Decoder.instr
  exact od_b (od_u1 h) rfl
set_option maxRecDepth 10000 in
theorem ok_aload_n_2 : IK 44 (pure (.aload_n 2)) := fun c p h => by
  unfold Decoder.instr
  exact od_b (od_u1 h) rfl
set_option maxRecDepth 10000 in
theorem ok_aload_n_3 : IK 45 (pure (.aload_n 3)) := fun c p h => by
  unfold Decoder.instr
  exact od_b (od_u1 h) rfl
set_option maxRecDepth 10000 in
theorem ok_areturn : IK 176 (pure (.areturn)) := fun c p h => by
  unfold Decoder.instr
  exact od_b (od_u1 h) rfl
set_option maxRecDepth 10000 in
theorem ok_arraylength : IK 190 (pure (.arraylength)) := fun c p h => by
  unfold Decoder.instr
  exact od_b (od_u1 h) rfl
set_option maxRecDepth 10000 in
theorem ok_astore_n_1 : IK 76 (pure (.astore_n 1)) := fun c p h => by
  unfold Decoder.instr
  exact od_b (od_u1 h) rfl
set_option maxRecDepth 10000 in
theorem ok_astore_n_2 : IK 77 (pure (.astore_n 2)) := fun c p h => by
  unfold Decoder.instr
  exact od_b (od_u1 h) rfl
set_option maxRecDepth 10000 in
theorem ok_astore_n_3 : IK 78 (pure (.astore_n 3)) := fun c p h => by
  unfold Decoder.instr
  exact od_b (od_u1 h) rfl
set_option maxRecDepth 10000 in
theorem ok_baload : IK 51 (pure (.baload)) := fun c p h => by
  unfold Decoder.instr
  exact od_b (od_u1 h) rfl
set_option maxRecDepth 10000 in
theorem ok_bastore : IK 84 (pure (.bastore)) := fun c p h => by
  unfold Decoder.instr
  exact od_b (od_u1 h) rfl
set_option maxRecDepth 10000 in
theorem ok_dup : IK 89 (pure (.dup)) := fun c p h => by
  unfold Decoder.instr
  exact od_b (od_u1 h) rfl
set_option maxRecDepth 10000 in
theorem ok_dup2 : IK 92 (pure (.dup2)) := fun c p h => by
  unfold Decoder.instr
  exact od_b (od_u1 h) rfl
set_option maxRecDepth 10000 in
theorem ok_i2b : IK 145 (pure (.i2b)) := fun c p h => by
  unfold Decoder.instr
  exact od_b (od_u1 h) rfl
set_option maxRecDepth 10000 in
theorem ok_i2c : IK 146 (pure (.i2c)) := fun c p h => by
  unfold Decoder.instr
  exact od_b (od_u1 h) rfl
set_option maxRecDepth 10000 in
theorem ok_i2l : IK 133 (pure (.i2l)) := fun c p h => by
  unfold Decoder.instr
  exact od_b (od_u1 h) rfl
set_option maxRecDepth 10000 in
theorem ok_iadd : IK 96 (pure (.iadd)) := fun c p h => by
  unfold Decoder.instr
  exact od_b (od_u1 h) rfl
set_option maxRecDepth 10000 in
theorem ok_iaload : IK 46 (pure (.iaload)) := fun c p h => by
  unfold Decoder.instr
  exact od_b (od_u1 h) rfl
set_option maxRecDepth 10000 in
theorem ok_iand : IK 126 (pure (.iand)) := fun c p h => by
  unfold Decoder.instr
  exact od_b (od_u1 h) rfl
set_option maxRecDepth 10000 in
theorem ok_iastore : IK 79 (pure (.iastore)) := fun c p h => by
  unfold Decoder.instr
  exact od_b (od_u1 h) rfl
set_option maxRecDepth 10000 in
theorem ok_iconst_m1 : IK 2 (pure (.iconst (-1))) := fun c p h => by
  unfold Decoder.instr
  exact od_b (od_u1 h) rfl
set_option maxRecDepth 10000 in
theorem ok_iconst_0 : IK 3 (pure (.iconst 0)) := fun c p h => by
  unfold Decoder.instr
  exact od_b (od_u1 h) rfl
set_option maxRecDepth 10000 in
theorem ok_iconst_1 : IK 4 (pure (.iconst 1)) := fun c p h => by
  unfold Decoder.instr
  exact od_b (od_u1 h) rfl
set_option maxRecDepth 10000 in
theorem ok_iconst_2 : IK 5 (pure (.iconst 2)) := fun c p h => by
  unfold Decoder.instr
  exact od_b (od_u1 h) rfl
set_option maxRecDepth 10000 in
theorem ok_iconst_3 : IK 6 (pure (.iconst 3)) := fun c p h => by
  unfold Decoder.instr
  exact od_b (od_u1 h) rfl
set_option maxRecDepth 10000 in
theorem ok_iconst_4 : IK 7 (pure (.iconst 4)) := fun c p h => by
  unfold Decoder.instr
  exact od_b (od_u1 h) rfl
set_option maxRecDepth 10000 in
theorem ok_iconst_5 : IK 8 (pure (.iconst 5)) := fun c p h => by
  unfold Decoder.instr
  exact od_b (od_u1 h) rfl
set_option maxRecDepth 10000 in
theorem ok_idiv : IK 108 (pure (.idiv)) := fun c p h => by
  unfold Decoder.instr
  exact od_b (od_u1 h) rfl
set_option maxRecDepth 10000 in
theorem ok_iload_n_0 : IK 26 (pure (.iload_n 0)) := fun c p h => by
  unfold Decoder.instr
  exact od_b (od_u1 h) rfl
set_option maxRecDepth 10000 in
theorem ok_iload_n_1 : IK 27 (pure (.iload_n 1)) := fun c p h => by
  unfold Decoder.instr
  exact od_b (od_u1 h) rfl
set_option maxRecDepth 10000 in
theorem ok_iload_n_2 : IK 28 (pure (.iload_n 2)) := fun c p h => by
  unfold Decoder.instr
  exact od_b (od_u1 h) rfl
set_option maxRecDepth 10000 in
theorem ok_iload_n_3 : IK 29 (pure (.iload_n 3)) := fun c p h => by
  unfold Decoder.instr
  exact od_b (od_u1 h) rfl
set_option maxRecDepth 10000 in
theorem ok_imul : IK 104 (pure (.imul)) := fun c p h => by
  unfold Decoder.instr
  exact od_b (od_u1 h) rfl
set_option maxRecDepth 10000 in
theorem ok_ineg : IK 116 (pure (.ineg)) := fun c p h => by
  unfold Decoder.instr
  exact od_b (od_u1 h) rfl
set_option maxRecDepth 10000 in
theorem ok_ior : IK 128 (pure (.ior)) := fun c p h => by
  unfold Decoder.instr
  exact od_b (od_u1 h) rfl
set_option maxRecDepth 10000 in
theorem ok_irem : IK 112 (pure (.irem)) := fun c p h => by
  unfold Decoder.instr
  exact od_b (od_u1 h) rfl
set_option maxRecDepth 10000 in
theorem ok_ireturn : IK 172 (pure (.ireturn)) := fun c p h => by
  unfold Decoder.instr
  exact od_b (od_u1 h) rfl
set_option maxRecDepth 10000 in
theorem ok_ishl : IK 120 (pure (.ishl)) := fun c p h => by
  unfold Decoder.instr
  exact od_b (od_u1 h) rfl
set_option maxRecDepth 10000 in
theorem ok_ishr : IK 122 (pure (.ishr)) := fun c p h => by
  unfold Decoder.instr
  exact od_b (od_u1 h) rfl
set_option maxRecDepth 10000 in
theorem ok_istore_n_0 : IK 59 (pure (.istore_n 0)) := fun c p h => by
  unfold Decoder.instr
  exact od_b (od_u1 h) rfl
set_option maxRecDepth 10000 in
theorem ok_istore_n_1 : IK 60 (pure (.istore_n 1)) := fun c p h => by
  unfold Decoder.instr
  exact od_b (od_u1 h) rfl
set_option maxRecDepth 10000 in
theorem ok_istore_n_2 : IK 61 (pure (.istore_n 2)) := fun c p h => by
  unfold Decoder.instr
  exact od_b (od_u1 h) rfl
set_option maxRecDepth 10000 in
theorem ok_istore_n_3 : IK 62 (pure (.istore_n 3)) := fun c p h => by
  unfold Decoder.instr
  exact od_b (od_u1 h) rfl
set_option maxRecDepth 10000 in
theorem ok_isub : IK 100 (pure (.isub)) := fun c p h => by
  unfold Decoder.instr
  exact od_b (od_u1 h) rfl
set_option maxRecDepth 10000 in
theorem ok_iushr : IK 124 (pure (.iushr)) := fun c p h => by
  unfold Decoder.instr
  exact od_b (od_u1 h) rfl
set_option maxRecDepth 10000 in
theorem ok_ixor : IK 130 (pure (.ixor)) := fun c p h => by
  unfold Decoder.instr
  exact od_b (od_u1 h) rfl
set_option maxRecDepth 10000 in
theorem ok_l2i : IK 136 (pure (.l2i)) := fun c p h => by
  unfold Decoder.instr
  exact od_b (od_u1 h) rfl
set_option maxRecDepth 10000 in
theorem ok_ladd : IK 97 (pure (.ladd)) := fun c p h => by
  unfold Decoder.instr
  exact od_b (od_u1 h) rfl
set_option maxRecDepth 10000 in
theorem ok_laload : IK 47 (pure (.laload)) := fun c p h => by
  unfold Decoder.instr
  exact od_b (od_u1 h) rfl
set_option maxRecDepth 10000 in
theorem ok_land : IK 127 (pure (.land)) := fun c p h => by
  unfold Decoder.instr
  exact od_b (od_u1 h) rfl
set_option maxRecDepth 10000 in
theorem ok_lastore : IK 80 (pure (.lastore)) := fun c p h => by
  unfold Decoder.instr
  exact od_b (od_u1 h) rfl
set_option maxRecDepth 10000 in
theorem ok_lcmp : IK 148 (pure (.lcmp)) := fun c p h => by
  unfold Decoder.instr
  exact od_b (od_u1 h) rfl
set_option maxRecDepth 10000 in
theorem ok_lconst_0 : IK 9 (pure (.lconst 0)) := fun c p h => by
  unfold Decoder.instr
  exact od_b (od_u1 h) rfl
set_option maxRecDepth 10000 in
theorem ok_lconst_1 : IK 10 (pure (.lconst 1)) := fun c p h => by
  unfold Decoder.instr
  exact od_b (od_u1 h) rfl
set_option maxRecDepth 10000 in
theorem ok_ldiv : IK 109 (pure (.ldiv)) := fun c p h => by
  unfold Decoder.instr
  exact od_b (od_u1 h) rfl
set_option maxRecDepth 10000 in
theorem ok_lload_n_0 : IK 30 (pure (.lload_n 0)) := fun c p h => by
  unfold Decoder.instr
  exact od_b (od_u1 h) rfl
set_option maxRecDepth 10000 in
theorem ok_lload_n_1 : IK 31 (pure (.lload_n 1)) := fun c p h => by
  unfold Decoder.instr
  exact od_b (od_u1 h) rfl
set_option maxRecDepth 10000 in
theorem ok_lload_n_2 : IK 32 (pure (.lload_n 2)) := fun c p h => by
  unfold Decoder.instr
  exact od_b (od_u1 h) rfl
set_option maxRecDepth 10000 in
theorem ok_lload_n_3 : IK 33 (pure (.lload_n 3)) := fun c p h => by
  unfold Decoder.instr
  exact od_b (od_u1 h) rfl
set_option maxRecDepth 10000 in
theorem ok_lmul : IK 105 (pure (.lmul)) := fun c p h => by
  unfold Decoder.instr
  exact od_b (od_u1 h) rfl
set_option maxRecDepth 10000 in
theorem ok_lor : IK 129 (pure (.lor)) := fun c p h => by
  unfold Decoder.instr
  exact od_b (od_u1 h) rfl
set_option maxRecDepth 10000 in
theorem ok_lrem : IK 113 (pure (.lrem)) := fun c p h => by
  unfold Decoder.instr
  exact od_b (od_u1 h) rfl
set_option maxRecDepth 10000 in
theorem ok_lreturn : IK 173 (pure (.lreturn)) := fun c p h => by
  unfold Decoder.instr
  exact od_b (od_u1 h) rfl
set_option maxRecDepth 10000 in
theorem ok_lsub : IK 101 (pure (.lsub)) := fun c p h => by
  unfold Decoder.instr
  exact od_b (od_u1 h) rfl
set_option maxRecDepth 10000 in
theorem ok_pop : IK 87 (pure (.pop)) := fun c p h => by
  unfold Decoder.instr
  exact od_b (od_u1 h) rfl
set_option maxRecDepth 10000 in
theorem ok_return_ : IK 177 (pure (.return_)) := fun c p h => by
  unfold Decoder.instr
  exact od_b (od_u1 h) rfl
set_option maxRecDepth 10000 in
theorem ok_aload : IK 25 (Reader.u1 >>= fun x => pure (.aload x)) := fun c p h => by
  unfold Decoder.instr
  exact od_b (od_u1 h) rfl
set_option maxRecDepth 10000 in
theorem ok_anewarray : IK 189 (Reader.u2 >>= fun x => pure (.anewarray x)) := fun c p h => by
  unfold Decoder.instr
  exact od_b (od_u1 h) rfl
set_option maxRecDepth 10000 in
theorem ok_astore : IK 58 (Reader.u1 >>= fun x => pure (.astore x)) := fun c p h => by
  unfold Decoder.instr
  exact od_b (od_u1 h) rfl
set_option maxRecDepth 10000 in
theorem ok_bipush : IK 16 (Reader.s1 >>= fun x => pure (.bipush x)) := fun c p h => by
  unfold Decoder.instr
  exact od_b (od_u1 h) rfl
set_option maxRecDepth 10000 in
theorem ok_getfield : IK 180 (Reader.u2 >>= fun x => pure (.getfield x)) := fun c p h => by
  unfold Decoder.instr
  exact od_b (od_u1 h) rfl
set_option maxRecDepth 10000 in
theorem ok_getstatic : IK 178 (Reader.u2 >>= fun x => pure (.getstatic x)) := fun c p h => by
  unfold Decoder.instr
  exact od_b (od_u1 h) rfl
set_option maxRecDepth 10000 in
theorem ok_goto : IK 167 (Reader.s2 >>= fun x => pure (.goto x)) := fun c p h => by
  unfold Decoder.instr
  exact od_b (od_u1 h) rfl
set_option maxRecDepth 10000 in
theorem ok_ifCond_eq : IK 153 (Reader.s2 >>= fun x => pure (.ifCond .eq x)) := fun c p h => by
  unfold Decoder.instr
  exact od_b (od_u1 h) rfl
set_option maxRecDepth 10000 in
theorem ok_ifCond_ge : IK 156 (Reader.s2 >>= fun x => pure (.ifCond .ge x)) := fun c p h => by
  unfold Decoder.instr
  exact od_b (od_u1 h) rfl
set_option maxRecDepth 10000 in
theorem ok_ifCond_gt : IK 157 (Reader.s2 >>= fun x => pure (.ifCond .gt x)) := fun c p h => by
  unfold Decoder.instr
  exact od_b (od_u1 h) rfl
set_option maxRecDepth 10000 in
theorem ok_ifCond_le : IK 158 (Reader.s2 >>= fun x => pure (.ifCond .le x)) := fun c p h => by
  unfold Decoder.instr
  exact od_b (od_u1 h) rfl
set_option maxRecDepth 10000 in
theorem ok_ifCond_lt : IK 155 (Reader.s2 >>= fun x => pure (.ifCond .lt x)) := fun c p h => by
  unfold Decoder.instr
  exact od_b (od_u1 h) rfl
set_option maxRecDepth 10000 in
theorem ok_ifCond_ne : IK 154 (Reader.s2 >>= fun x => pure (.ifCond .ne x)) := fun c p h => by
  unfold Decoder.instr
  exact od_b (od_u1 h) rfl
set_option maxRecDepth 10000 in
theorem ok_if_icmp_eq : IK 159 (Reader.s2 >>= fun x => pure (.if_icmp .eq x)) := fun c p h => by
  unfold Decoder.instr
  exact od_b (od_u1 h) rfl
set_option maxRecDepth 10000 in
theorem ok_if_icmp_ge : IK 162 (Reader.s2 >>= fun x => pure (.if_icmp .ge x)) := fun c p h => by
  unfold Decoder.instr
  exact od_b (od_u1 h) rfl
set_option maxRecDepth 10000 in
theorem ok_if_icmp_gt : IK 163 (Reader.s2 >>= fun x => pure (.if_icmp .gt x)) := fun c p h => by
  unfold Decoder.instr
  exact od_b (od_u1 h) rfl
set_option maxRecDepth 10000 in
theorem ok_if_icmp_le : IK 164 (Reader.s2 >>= fun x => pure (.if_icmp .le x)) := fun c p h => by
  unfold Decoder.instr
  exact od_b (od_u1 h) rfl
set_option maxRecDepth 10000 in
theorem ok_if_icmp_lt : IK 161 (Reader.s2 >>= fun x => pure (.if_icmp .lt x)) := fun c p h => by
  unfold Decoder.instr
  exact od_b (od_u1 h) rfl
set_option maxRecDepth 10000 in
theorem ok_if_icmp_ne : IK 160 (Reader.s2 >>= fun x => pure (.if_icmp .ne x)) := fun c p h => by
  unfold Decoder.instr
  exact od_b (od_u1 h) rfl
set_option maxRecDepth 10000 in
theorem ok_ifnull : IK 198 (Reader.s2 >>= fun x => pure (.ifnull x)) := fun c p h => by
  unfold Decoder.instr
  exact od_b (od_u1 h) rfl
set_option maxRecDepth 10000 in
theorem ok_iinc : IK 132 (Reader.u1 >>= fun x => Reader.s1 >>= fun y => pure (.iinc x y)) := fun c p h => by
  unfold Decoder.instr
  exact od_b (od_u1 h) rfl
set_option maxRecDepth 10000 in
theorem ok_iload : IK 21 (Reader.u1 >>= fun x => pure (.iload x)) := fun c p h => by
  unfold Decoder.instr
  exact od_b (od_u1 h) rfl
set_option maxRecDepth 10000 in
theorem ok_invokespecial : IK 183 (Reader.u2 >>= fun x => pure (.invokespecial x)) := fun c p h => by
  unfold Decoder.instr
  exact od_b (od_u1 h) rfl
set_option maxRecDepth 10000 in
theorem ok_invokestatic : IK 184 (Reader.u2 >>= fun x => pure (.invokestatic x)) := fun c p h => by
  unfold Decoder.instr
  exact od_b (od_u1 h) rfl
set_option maxRecDepth 10000 in
theorem ok_invokevirtual : IK 182 (Reader.u2 >>= fun x => pure (.invokevirtual x)) := fun c p h => by
  unfold Decoder.instr
  exact od_b (od_u1 h) rfl
set_option maxRecDepth 10000 in
theorem ok_istore : IK 54 (Reader.u1 >>= fun x => pure (.istore x)) := fun c p h => by
  unfold Decoder.instr
  exact od_b (od_u1 h) rfl
set_option maxRecDepth 10000 in
theorem ok_ldc : IK 18 (Reader.u1 >>= fun x => pure (.ldc x)) := fun c p h => by
  unfold Decoder.instr
  exact od_b (od_u1 h) rfl
set_option maxRecDepth 10000 in
theorem ok_ldc2_w : IK 20 (Reader.u2 >>= fun x => pure (.ldc2_w x)) := fun c p h => by
  unfold Decoder.instr
  exact od_b (od_u1 h) rfl
set_option maxRecDepth 10000 in
theorem ok_ldc_w : IK 19 (Reader.u2 >>= fun x => pure (.ldc_w x)) := fun c p h => by
  unfold Decoder.instr
  exact od_b (od_u1 h) rfl
set_option maxRecDepth 10000 in
theorem ok_lload : IK 22 (Reader.u1 >>= fun x => pure (.lload x)) := fun c p h => by
  unfold Decoder.instr
  exact od_b (od_u1 h) rfl
set_option maxRecDepth 10000 in
theorem ok_new : IK 187 (Reader.u2 >>= fun x => pure (.new x)) := fun c p h => by
  unfold Decoder.instr
  exact od_b (od_u1 h) rfl
set_option maxRecDepth 10000 in
theorem ok_putfield : IK 181 (Reader.u2 >>= fun x => pure (.putfield x)) := fun c p h => by
  unfold Decoder.instr
  exact od_b (od_u1 h) rfl
set_option maxRecDepth 10000 in
theorem ok_sipush : IK 17 (Reader.s2 >>= fun x => pure (.sipush x)) := fun c p h => by
  unfold Decoder.instr
  exact od_b (od_u1 h) rfl
