/-! bits (out of kit/laws/BITS.to-paste) -/
noncomputable def bt (x : Int32) (i : Nat) : Bool := x.toBitVec.getLsbD i
noncomputable def sc8 (a b c d e f g h : Int32) : Nat → Int32
  | 0 => a
  | 1 => b
  | 2 => c
  | 3 => d
  | 4 => e
  | 5 => f
  | 6 => g
  | 7 => h
  | _ => 0
noncomputable def sc4 (a b c d : Int32) : Nat → Int32
  | 0 => a
  | 1 => b
  | 2 => c
  | 3 => d
  | _ => 0
/-- the hall that is told -/
noncomputable def HallOk (s2 s3 : Int32) (so co w : Nat → Int32) : Prop := (∀ c : Nat, (c : Int) < s2.toInt → iv 0 3 (so c)) ∧ ∀ q : Nat, (q : Int) < s3.toInt → (co q).toInt < s2.toInt ∧ 1 ≤ (w q).toInt
