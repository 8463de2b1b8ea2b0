/-! the hall, pure: the rows of the reference while it is read -/
section PSH
variable {m : OB} {p f e d c o : Int32} {s1 n1 o1 ns nc nh nt nr nw : Nat → Int32}
theorem ps_12 {r : Nat → Int32} : (((ps (hm m ns nc nh nt nr nw) p f e d c o s1 n1 o1).1, uF (ps (hm m ns nc nh nt nr nw) p f e d c o s1 n1 o1).2.1 12 r, (ps (hm m ns nc nh nt nr nw) p f e d c o s1 n1 o1).2.2) : OB) = ps (hm m r nc nh nt nr nw) p f e d c o s1 n1 o1 := by
  unfold ps hm
  try dsimp only
  rw [uF_cm (i := 35) (j := 12) (by decide), uF_cm (i := 30) (j := 12) (by decide), uF_cm (i := 29) (j := 12) (by decide), uF_cm (i := 17) (j := 12) (by decide), uF_cm (i := 16) (j := 12) (by decide), uF_cm (i := 15) (j := 12) (by decide), uF_cm (i := 14) (j := 12) (by decide), uF_cm (i := 13) (j := 12) (by decide), uF_uF]
theorem ps_13 {r : Nat → Int32} : (((ps (hm m ns nc nh nt nr nw) p f e d c o s1 n1 o1).1, uF (ps (hm m ns nc nh nt nr nw) p f e d c o s1 n1 o1).2.1 13 r, (ps (hm m ns nc nh nt nr nw) p f e d c o s1 n1 o1).2.2) : OB) = ps (hm m ns r nh nt nr nw) p f e d c o s1 n1 o1 := by
  unfold ps hm
  try dsimp only
  rw [uF_cm (i := 35) (j := 13) (by decide), uF_cm (i := 30) (j := 13) (by decide), uF_cm (i := 29) (j := 13) (by decide), uF_cm (i := 17) (j := 13) (by decide), uF_cm (i := 16) (j := 13) (by decide), uF_cm (i := 15) (j := 13) (by decide), uF_cm (i := 14) (j := 13) (by decide), uF_uF]
theorem ps_14 {r : Nat → Int32} : (((ps (hm m ns nc nh nt nr nw) p f e d c o s1 n1 o1).1, uF (ps (hm m ns nc nh nt nr nw) p f e d c o s1 n1 o1).2.1 14 r, (ps (hm m ns nc nh nt nr nw) p f e d c o s1 n1 o1).2.2) : OB) = ps (hm m ns nc r nt nr nw) p f e d c o s1 n1 o1 := by
  unfold ps hm
  try dsimp only
  rw [uF_cm (i := 35) (j := 14) (by decide), uF_cm (i := 30) (j := 14) (by decide), uF_cm (i := 29) (j := 14) (by decide), uF_cm (i := 17) (j := 14) (by decide), uF_cm (i := 16) (j := 14) (by decide), uF_cm (i := 15) (j := 14) (by decide), uF_uF]
theorem ps_15 {r : Nat → Int32} : (((ps (hm m ns nc nh nt nr nw) p f e d c o s1 n1 o1).1, uF (ps (hm m ns nc nh nt nr nw) p f e d c o s1 n1 o1).2.1 15 r, (ps (hm m ns nc nh nt nr nw) p f e d c o s1 n1 o1).2.2) : OB) = ps (hm m ns nc nh r nr nw) p f e d c o s1 n1 o1 := by
  unfold ps hm
  try dsimp only
  rw [uF_cm (i := 35) (j := 15) (by decide), uF_cm (i := 30) (j := 15) (by decide), uF_cm (i := 29) (j := 15) (by decide), uF_cm (i := 17) (j := 15) (by decide), uF_cm (i := 16) (j := 15) (by decide), uF_uF]
theorem ps_16 {r : Nat → Int32} : (((ps (hm m ns nc nh nt nr nw) p f e d c o s1 n1 o1).1, uF (ps (hm m ns nc nh nt nr nw) p f e d c o s1 n1 o1).2.1 16 r, (ps (hm m ns nc nh nt nr nw) p f e d c o s1 n1 o1).2.2) : OB) = ps (hm m ns nc nh nt r nw) p f e d c o s1 n1 o1 := by
  unfold ps hm
  try dsimp only
  rw [uF_cm (i := 35) (j := 16) (by decide), uF_cm (i := 30) (j := 16) (by decide), uF_cm (i := 29) (j := 16) (by decide), uF_cm (i := 17) (j := 16) (by decide), uF_uF]
theorem ps_17 {r : Nat → Int32} : (((ps (hm m ns nc nh nt nr nw) p f e d c o s1 n1 o1).1, uF (ps (hm m ns nc nh nt nr nw) p f e d c o s1 n1 o1).2.1 17 r, (ps (hm m ns nc nh nt nr nw) p f e d c o s1 n1 o1).2.2) : OB) = ps (hm m ns nc nh nt nr r) p f e d c o s1 n1 o1 := by
  unfold ps hm
  try dsimp only
  rw [uF_cm (i := 35) (j := 17) (by decide), uF_cm (i := 30) (j := 17) (by decide), uF_cm (i := 29) (j := 17) (by decide), uF_uF]
theorem ps_1213 {r1 r2 : Nat → Int32} : (((ps (hm m ns nc nh nt nr nw) p f e d c o s1 n1 o1).1, uF (uF ((ps (hm m ns nc nh nt nr nw) p f e d c o s1 n1 o1).2.1) 12 r1) 13 r2, (ps (hm m ns nc nh nt nr nw) p f e d c o s1 n1 o1).2.2) : OB) = ps (hm m r1 r2 nh nt nr nw) p f e d c o s1 n1 o1 := by
  rw [show uF (ps (hm m ns nc nh nt nr nw) p f e d c o s1 n1 o1).2.1 12 r1 = (ps (hm m r1 nc nh nt nr nw) p f e d c o s1 n1 o1).2.1 from congrArg (fun z : OB => z.2.1) ps_12, show (ps (hm m ns nc nh nt nr nw) p f e d c o s1 n1 o1).1 = (ps (hm m r1 nc nh nt nr nw) p f e d c o s1 n1 o1).1 from rfl, show (ps (hm m ns nc nh nt nr nw) p f e d c o s1 n1 o1).2.2 = (ps (hm m r1 nc nh nt nr nw) p f e d c o s1 n1 o1).2.2 from rfl, ps_13]
theorem ps_1215 {r1 r2 : Nat → Int32} : (((ps (hm m ns nc nh nt nr nw) p f e d c o s1 n1 o1).1, uF (uF ((ps (hm m ns nc nh nt nr nw) p f e d c o s1 n1 o1).2.1) 12 r1) 15 r2, (ps (hm m ns nc nh nt nr nw) p f e d c o s1 n1 o1).2.2) : OB) = ps (hm m r1 nc nh r2 nr nw) p f e d c o s1 n1 o1 := by
  rw [show uF (ps (hm m ns nc nh nt nr nw) p f e d c o s1 n1 o1).2.1 12 r1 = (ps (hm m r1 nc nh nt nr nw) p f e d c o s1 n1 o1).2.1 from congrArg (fun z : OB => z.2.1) ps_12, show (ps (hm m ns nc nh nt nr nw) p f e d c o s1 n1 o1).1 = (ps (hm m r1 nc nh nt nr nw) p f e d c o s1 n1 o1).1 from rfl, show (ps (hm m ns nc nh nt nr nw) p f e d c o s1 n1 o1).2.2 = (ps (hm m r1 nc nh nt nr nw) p f e d c o s1 n1 o1).2.2 from rfl, ps_15]
theorem ps_121617 {r1 r2 r3 : Nat → Int32} : (((ps (hm m ns nc nh nt nr nw) p f e d c o s1 n1 o1).1, uF (uF (uF ((ps (hm m ns nc nh nt nr nw) p f e d c o s1 n1 o1).2.1) 12 r1) 16 r2) 17 r3, (ps (hm m ns nc nh nt nr nw) p f e d c o s1 n1 o1).2.2) : OB) = ps (hm m r1 nc nh nt r2 r3) p f e d c o s1 n1 o1 := by
  rw [show uF (ps (hm m ns nc nh nt nr nw) p f e d c o s1 n1 o1).2.1 12 r1 = (ps (hm m r1 nc nh nt nr nw) p f e d c o s1 n1 o1).2.1 from congrArg (fun z : OB => z.2.1) ps_12, show (ps (hm m ns nc nh nt nr nw) p f e d c o s1 n1 o1).1 = (ps (hm m r1 nc nh nt nr nw) p f e d c o s1 n1 o1).1 from rfl, show (ps (hm m ns nc nh nt nr nw) p f e d c o s1 n1 o1).2.2 = (ps (hm m r1 nc nh nt nr nw) p f e d c o s1 n1 o1).2.2 from rfl, show uF (ps (hm m r1 nc nh nt nr nw) p f e d c o s1 n1 o1).2.1 16 r2 = (ps (hm m r1 nc nh nt r2 nw) p f e d c o s1 n1 o1).2.1 from congrArg (fun z : OB => z.2.1) ps_16, show (ps (hm m r1 nc nh nt nr nw) p f e d c o s1 n1 o1).1 = (ps (hm m r1 nc nh nt r2 nw) p f e d c o s1 n1 o1).1 from rfl, show (ps (hm m r1 nc nh nt nr nw) p f e d c o s1 n1 o1).2.2 = (ps (hm m r1 nc nh nt r2 nw) p f e d c o s1 n1 o1).2.2 from rfl, ps_17]
end PSH
