/-! one step of both -/
theorem ib_4 {x : Int32} (h : ib x 4) : 0 ≤ x.toInt ∧ x.toInt < 4 := by
  obtain ⟨a, b⟩ := h
  exact ⟨a, b⟩
theorem iz_same {s : CSt} : { s with xg := s.xg, iz := uF s.iz 0 ((s.iz 0).1, (s.iz 0).2.1, (s.iz 0).2.2.1, (s.iz 0).2.2.2) } = s := by
  have e : uF s.iz 0 ((s.iz 0).1, (s.iz 0).2.1, (s.iz 0).2.2.1, (s.iz 0).2.2.2) = s.iz := uF_id
  rw [e]
set_option maxHeartbeats 4000000 in
set_option maxRecDepth 100000 in
theorem t_feed (l : Launch) (D : va_G) (k : Nat → ClassId) (a ra ia v : Nat → Nat) (rr ii : Nat → Option Nat) (hq : RQ ra ia rr ii) (s : CSt) (mo : OB) (G : GLs s mo) (x1 : Int32) (x2 : Int32) (x3 : Int32) (x4 : Int32) (x5 : Int32) : ∃ (r : Int32) (s2 : CSt) (w : OB), (∀ sz, CtI l yX8_feed wsX8_feed (rmK 2 0 0) [.ref (a 0), .int x1, .int x2, .int x3, .int x4, .int x5] D k sz (CWs k a ra ia rr ii s) (fun (q : Int32) (_ : Unit) => q = r) (fun _ : Unit => CWs k a ra ia rr ii s2) 0 0) ∧ (∀ sz, CtI l yX9_feed wsX9_feed (rmK 2 0 0) [.ref (v 0), .int x1, .int x2, .int x3, .int x4, .int x5] D k sz (moW k v mo) (fun (q : Int32) (_ : Unit) => q = r) (fun _ : Unit => moW k v w) 0 0) ∧ GLs s2 w := by
  obtain ⟨r, tp2, w, e1, e2, G2⟩ := g_feed (F := 4096) (x1 := x1) (x2 := x2) (x3 := x3) (x4 := x4) (x5 := x5) (by decide) G
  exact ⟨r, { s with tp := tp2 }, w, fun sz => k_X8_feed l D k sz a ra ia rr ii hq s 4096 x1 x2 x3 x4 x5 e1, fun sz => c_X9_feed l D k sz v 4096 x1 x2 x3 x4 x5 mo e2, G2⟩
set_option maxHeartbeats 4000000 in
set_option maxRecDepth 100000 in
theorem t_end (l : Launch) (D : va_G) (k : Nat → ClassId) (a ra ia v : Nat → Nat) (rr ii : Nat → Option Nat) (hq : RQ ra ia rr ii) (s : CSt) (mo : OB) (G : GLs s mo) (x1 : Int32) : ∃ (r : Int32) (s2 : CSt) (w : OB), (∀ sz, CtI l yX8_end wsX8_end (rmK 1 0 0) [.ref (a 0), .int x1] D k sz (CWs k a ra ia rr ii s) (fun (q : Int32) (_ : Unit) => q = r) (fun _ : Unit => CWs k a ra ia rr ii s2) 0 0) ∧ (∀ sz, CtI l yX9_end wsX9_end (rmK 1 0 0) [.ref (v 0), .int x1] D k sz (moW k v mo) (fun (q : Int32) (_ : Unit) => q = r) (fun _ : Unit => moW k v w) 0 0) ∧ GLs s2 w := by
  obtain ⟨r, tp2, w, e1, e2, G2⟩ := g_end (F := 4096) (x1 := x1) (by decide) G
  exact ⟨r, { s with tp := tp2 }, w, fun sz => k_X8_end l D k sz a ra ia rr ii hq s 4096 x1 e1, fun sz => c_X9_end l D k sz v 4096 x1 mo e2, G2⟩
set_option maxHeartbeats 4000000 in
set_option maxRecDepth 100000 in
theorem t_hall (l : Launch) (D : va_G) (k : Nat → ClassId) (ad tv ad2 tv2 : Nat → Nat) (a ra ia v : Nat → Nat) (rr ii : Nat → Option Nat) (hq : RQ ra ia rr ii) (s : CSt) (mo : OB) (G : GLs s mo) : ∃ (r : Int32) (s2 : CSt) (w : OB), (∀ sz, CtIE l yX8_hall wsX8_hall (rmK 10 0 0) [.ref (a 0)] D k (EX ad tv) sz (CWs k a ra ia rr ii s) (fun (q : Int32) (_ : Unit) => q = r) (fun _ : Unit => CWs k a ra ia rr ii s2) 0 0) ∧ (∀ sz, CtIE l yX9_hall wsX9_hall (rmK 9 0 0) [.ref (v 0)] D k (EY ad2 tv2) sz (moW k v mo) (fun (q : Int32) (_ : Unit) => q = r) (fun _ : Unit => moW k v w) 0 0) ∧ GLs s2 w := by
  obtain ⟨r, tp2, rm2, ac2, nt2, tm2, w, e1, e2, G2⟩ := g_hall (F := 4096) (by decide) G
  exact ⟨r, { s with tp := tp2, rm := rm2, ac := ac2, nt := nt2, tm := tm2 }, w, fun sz => k_X8_hall l D k sz ad tv a ra ia rr ii hq s 4096 e1, fun sz => c_X9_hall l D k sz ad2 tv2 v 4096 mo e2, G2⟩
set_option maxHeartbeats 4000000 in
set_option maxRecDepth 100000 in
theorem t_rule (l : Launch) (D : va_G) (k : Nat → ClassId) (ad tv ad2 tv2 : Nat → Nat) (a ra ia v : Nat → Nat) (rr ii : Nat → Option Nat) (hq : RQ ra ia rr ii) (s : CSt) (mo : OB) (G : GLs s mo) : ∃ (r : Int32) (s2 : CSt) (w : OB), (∀ sz, CtIE l yX8_rule wsX8_rule (rmK 29 0 0) [.ref (a 0)] D k (EX ad tv) sz (CWs k a ra ia rr ii s) (fun (q : Int32) (_ : Unit) => q = r) (fun _ : Unit => CWs k a ra ia rr ii s2) 0 0) ∧ (∀ sz, CtIE l yX9_rule wsX9_rule (rmK 13 0 0) [.ref (v 0)] D k (EY ad2 tv2) sz (moW k v mo) (fun (q : Int32) (_ : Unit) => q = r) (fun _ : Unit => moW k v w) 0 0) ∧ GLs s2 w := by
  obtain ⟨r, xi2, tp2, rz2, w, e1, e2, G2⟩ := g_rule (F := 4096) (xrr := rr) (by decide) G
  exact ⟨r, { s with xi := xi2, tp := tp2, rz := rz2 }, w, fun sz => k_X8_rule l D k sz ad tv a ra ia rr ii hq s 4096 e1, fun sz => c_X9_rule l D k sz ad2 tv2 v 4096 mo e2, G2⟩
set_option maxHeartbeats 4000000 in
set_option maxRecDepth 100000 in
theorem t_force (l : Launch) (D : va_G) (k : Nat → ClassId) (a ra ia v : Nat → Nat) (rr ii : Nat → Option Nat) (hq : RQ ra ia rr ii) (s : CSt) (mo : OB) (G : GLs s mo) (x1 : Int32) : ∃ (r : Int32) (s2 : CSt) (w : OB), (∀ sz, CtI l yX8_force wsX8_force (rmK 1 0 0) [.ref (a 0), .int x1] D k sz (CWs k a ra ia rr ii s) (fun (q : Int32) (_ : Unit) => q = r) (fun _ : Unit => CWs k a ra ia rr ii s2) 0 0) ∧ (∀ sz, CtI l yX9_force wsX9_force (rmK 2 0 0) [.ref (v 0), .int x1] D k sz (moW k v mo) (fun (q : Int32) (_ : Unit) => q = r) (fun _ : Unit => moW k v w) 0 0) ∧ GLs s2 w := by
  obtain ⟨r, si2, w, e1, e2, G2⟩ := g_force (F := 4096) (x1 := x1) (by decide) G
  exact ⟨r, { s with si := si2 }, w, fun sz => k_X8_force l D k sz a ra ia rr ii hq s 4096 x1 e1, fun sz => c_X9_force l D k sz v 4096 x1 mo e2, G2⟩
set_option maxHeartbeats 4000000 in
set_option maxRecDepth 100000 in
theorem t_strand (l : Launch) (D : va_G) (k : Nat → ClassId) (a ra ia v : Nat → Nat) (rr ii : Nat → Option Nat) (hq : RQ ra ia rr ii) (s : CSt) (mo : OB) (G : GLs s mo) (x1 : Int32) : ∃ (r : Int32) (s2 : CSt) (w : OB), (∀ sz, CtI l yX8_strand wsX8_strand (rmK 2 0 0) [.ref (a 0), .int x1] D k sz (CWs k a ra ia rr ii s) (fun (q : Int32) (_ : Unit) => q = r) (fun _ : Unit => CWs k a ra ia rr ii s2) 0 0) ∧ (∀ sz, CtI l yX9_strand wsX9_strand (rmK 3 0 0) [.ref (v 0), .int x1] D k sz (moW k v mo) (fun (q : Int32) (_ : Unit) => q = r) (fun _ : Unit => moW k v w) 0 0) ∧ GLs s2 w := by
  obtain ⟨r, e1, e2⟩ := g_strand (F := 4096) (x1 := x1) (by decide) G
  exact ⟨r, s, mo, fun sz => k_X8_strand l D k sz a ra ia rr ii hq s 4096 x1 e1, fun sz => c_X9_strand l D k sz v 4096 x1 mo e2, G⟩
set_option maxHeartbeats 4000000 in
set_option maxRecDepth 100000 in
theorem t_chair (l : Launch) (D : va_G) (k : Nat → ClassId) (a ra ia v : Nat → Nat) (rr ii : Nat → Option Nat) (hq : RQ ra ia rr ii) (s : CSt) (mo : OB) (G : GLs s mo) (x1 : Int32) (x2 : Int32) : ∃ (r : Int32) (s2 : CSt) (w : OB), (∀ sz, CtI l yX8_chair wsX8_chair (rmK 2 0 0) [.ref (a 0), .int x1, .int x2] D k sz (CWs k a ra ia rr ii s) (fun (q : Int32) (_ : Unit) => q = r) (fun _ : Unit => CWs k a ra ia rr ii s2) 0 0) ∧ (∀ sz, CtI l yX9_chair wsX9_chair (rmK 5 0 0) [.ref (v 0), .int x1, .int x2] D k sz (moW k v mo) (fun (q : Int32) (_ : Unit) => q = r) (fun _ : Unit => moW k v w) 0 0) ∧ GLs s2 w := by
  obtain ⟨r, e1, e2⟩ := g_chair (F := 4096) (x1 := x1) (x2 := x2) (by decide) G
  exact ⟨r, s, mo, fun sz => k_X8_chair l D k sz a ra ia rr ii hq s 4096 x1 x2 e1, fun sz => c_X9_chair l D k sz v 4096 x1 x2 mo e2, G⟩
set_option maxHeartbeats 4000000 in
set_option maxRecDepth 100000 in
theorem t_sitter (l : Launch) (D : va_G) (k : Nat → ClassId) (a ra ia v : Nat → Nat) (rr ii : Nat → Option Nat) (hq : RQ ra ia rr ii) (s : CSt) (mo : OB) (G : GLs s mo) (x1 : Int32) (x2 : Int32) : ∃ (r : Int32) (s2 : CSt) (w : OB), (∀ sz, CtI l yX8_sitter wsX8_sitter (rmK 3 0 0) [.ref (a 0), .int x1, .int x2] D k sz (CWs k a ra ia rr ii s) (fun (q : Int32) (_ : Unit) => q = r) (fun _ : Unit => CWs k a ra ia rr ii s2) 0 0) ∧ (∀ sz, CtI l yX9_sitter wsX9_sitter (rmK 3 0 0) [.ref (v 0), .int x1, .int x2] D k sz (moW k v mo) (fun (q : Int32) (_ : Unit) => q = r) (fun _ : Unit => moW k v w) 0 0) ∧ GLs s2 w := by
  obtain ⟨r, e1, e2⟩ := g_sitter (F := 4096) (x1 := x1) (x2 := x2) (by decide) G
  exact ⟨r, s, mo, fun sz => k_X8_sitter l D k sz a ra ia rr ii hq s 4096 x1 x2 e1, fun sz => c_X9_sitter l D k sz v 4096 x1 x2 mo e2, G⟩
set_option maxHeartbeats 4000000 in
set_option maxRecDepth 100000 in
theorem t_minute (l : Launch) (D : va_G) (k : Nat → ClassId) (a ra ia v : Nat → Nat) (rr ii : Nat → Option Nat) (hq : RQ ra ia rr ii) (s : CSt) (mo : OB) (G : GLs s mo) : ∃ (r : Int32) (s2 : CSt) (w : OB), (∀ sz, CtI l yX8_minute wsX8_minute (rmK 6 0 0) [.ref (a 0)] D k sz (CWs k a ra ia rr ii s) (fun (q : Int32) (_ : Unit) => q = r) (fun _ : Unit => CWs k a ra ia rr ii s2) 0 0) ∧ (∀ sz, CtI l yX9_minute wsX9_minute (rmK 7 0 0) [.ref (v 0)] D k sz (moW k v mo) (fun (q : Int32) (_ : Unit) => q = r) (fun _ : Unit => moW k v w) 0 0) ∧ GLs s2 w := by
  obtain ⟨r, rm2, ac2, rz2, w, e1, e2, G2⟩ := g_minute (F := 4096) (xrr := rr) (by decide) G
  exact ⟨r, { s with rm := rm2, ac := ac2, rz := rz2 }, w, fun sz => k_X8_minute l D k sz a ra ia rr ii hq s 4096 e1, fun sz => c_X9_minute l D k sz v 4096 mo e2, G2⟩
set_option maxHeartbeats 4000000 in
set_option maxRecDepth 100000 in
theorem t_sit (l : Launch) (D : va_G) (k : Nat → ClassId) (a ra ia v : Nat → Nat) (rr ii : Nat → Option Nat) (hq : RQ ra ia rr ii) (s : CSt) (mo : OB) (G : GLs s mo) (x1 : Int32) : ∃ (r : Int32) (s2 : CSt) (w : OB), (∀ sz, CtI l yX8_sit wsX8_sit (rmK 4 0 0) [.ref (a 0), .int x1] D k sz (CWs k a ra ia rr ii s) (fun (q : Int32) (_ : Unit) => q = r) (fun _ : Unit => CWs k a ra ia rr ii s2) 0 0) ∧ (∀ sz, CtI l yX9_sit wsX9_sit (rmK 6 0 0) [.ref (v 0), .int x1] D k sz (moW k v mo) (fun (q : Int32) (_ : Unit) => q = r) (fun _ : Unit => moW k v w) 0 0) ∧ GLs s2 w := by
  obtain ⟨r, rm2, ac2, w, e1, e2, G2⟩ := g_sit (F := 4096) (x1 := x1) (by decide) G
  exact ⟨r, { s with rm := rm2, ac := ac2 }, w, fun sz => k_X8_sit l D k sz a ra ia rr ii hq s 4096 x1 e1, fun sz => c_X9_sit l D k sz v 4096 x1 mo e2, G2⟩
set_option maxHeartbeats 4000000 in
set_option maxRecDepth 100000 in
theorem t_rise (l : Launch) (D : va_G) (k : Nat → ClassId) (a ra ia v : Nat → Nat) (rr ii : Nat → Option Nat) (hq : RQ ra ia rr ii) (s : CSt) (mo : OB) (G : GLs s mo) (x1 : Int32) : ∃ (r : Int32) (s2 : CSt) (w : OB), (∀ sz, CtI l yX8_rise wsX8_rise (rmK 4 0 0) [.ref (a 0), .int x1] D k sz (CWs k a ra ia rr ii s) (fun (q : Int32) (_ : Unit) => q = r) (fun _ : Unit => CWs k a ra ia rr ii s2) 0 0) ∧ (∀ sz, CtI l yX9_rise wsX9_rise (rmK 6 0 0) [.ref (v 0), .int x1] D k sz (moW k v mo) (fun (q : Int32) (_ : Unit) => q = r) (fun _ : Unit => moW k v w) 0 0) ∧ GLs s2 w := by
  obtain ⟨r, rm2, ac2, w, e1, e2, G2⟩ := g_rise (F := 4096) (x1 := x1) (by decide) G
  exact ⟨r, { s with rm := rm2, ac := ac2 }, w, fun sz => k_X8_rise l D k sz a ra ia rr ii hq s 4096 x1 e1, fun sz => c_X9_rise l D k sz v 4096 x1 mo e2, G2⟩
set_option maxHeartbeats 4000000 in
set_option maxRecDepth 100000 in
theorem t_help (l : Launch) (D : va_G) (k : Nat → ClassId) (a ra ia v : Nat → Nat) (rr ii : Nat → Option Nat) (hq : RQ ra ia rr ii) (s : CSt) (mo : OB) (G : GLs s mo) (x1 : Int32) : ∃ (r : Int32) (s2 : CSt) (w : OB), (∀ sz, CtI l yX8_help wsX8_help (rmK 3 0 0) [.ref (a 0), .int x1] D k sz (CWs k a ra ia rr ii s) (fun (q : Int32) (_ : Unit) => q = r) (fun _ : Unit => CWs k a ra ia rr ii s2) 0 0) ∧ (∀ sz, CtI l yX9_help wsX9_help (rmK 5 0 0) [.ref (v 0), .int x1] D k sz (moW k v mo) (fun (q : Int32) (_ : Unit) => q = r) (fun _ : Unit => moW k v w) 0 0) ∧ GLs s2 w := by
  obtain ⟨r, rm2, ac2, w, e1, e2, G2⟩ := g_help (F := 4096) (x1 := x1) (by decide) G
  exact ⟨r, { s with rm := rm2, ac := ac2 }, w, fun sz => k_X8_help l D k sz a ra ia rr ii hq s 4096 x1 e1, fun sz => c_X9_help l D k sz v 4096 x1 mo e2, G2⟩
set_option maxHeartbeats 4000000 in
set_option maxRecDepth 100000 in
theorem t_let (l : Launch) (D : va_G) (k : Nat → ClassId) (a ra ia v : Nat → Nat) (rr ii : Nat → Option Nat) (hq : RQ ra ia rr ii) (s : CSt) (mo : OB) (G : GLs s mo) (x1 : Int32) (x2 : Int32) : ∃ (r : Int32) (s2 : CSt) (w : OB), (∀ sz, CtI l yX8_let wsX8_let (rmK 4 0 0) [.ref (a 0), .int x1, .int x2] D k sz (CWs k a ra ia rr ii s) (fun (q : Int32) (_ : Unit) => q = r) (fun _ : Unit => CWs k a ra ia rr ii s2) 0 0) ∧ (∀ sz, CtI l yX9_let wsX9_let (rmK 6 0 0) [.ref (v 0), .int x1, .int x2] D k sz (moW k v mo) (fun (q : Int32) (_ : Unit) => q = r) (fun _ : Unit => moW k v w) 0 0) ∧ GLs s2 w := by
  obtain ⟨r, rm2, ac2, w, e1, e2, G2⟩ := g_let (F := 4096) (x1 := x1) (x2 := x2) (by decide) G
  exact ⟨r, { s with rm := rm2, ac := ac2 }, w, fun sz => k_X8_let l D k sz a ra ia rr ii hq s 4096 x1 x2 e1, fun sz => c_X9_let l D k sz v 4096 x1 x2 mo e2, G2⟩
set_option maxHeartbeats 4000000 in
set_option maxRecDepth 100000 in
theorem t_undo (l : Launch) (D : va_G) (k : Nat → ClassId) (a ra ia v : Nat → Nat) (rr ii : Nat → Option Nat) (hq : RQ ra ia rr ii) (s : CSt) (mo : OB) (G : GLs s mo) : ∃ (r : Int32) (s2 : CSt) (w : OB), (∀ sz, CtI l yX8_undo wsX8_undo (rmK 4 0 0) [.ref (a 0)] D k sz (CWs k a ra ia rr ii s) (fun (q : Int32) (_ : Unit) => q = r) (fun _ : Unit => CWs k a ra ia rr ii s2) 0 0) ∧ (∀ sz, CtI l yX9_undo wsX9_undo (rmK 4 0 0) [.ref (v 0)] D k sz (moW k v mo) (fun (q : Int32) (_ : Unit) => q = r) (fun _ : Unit => moW k v w) 0 0) ∧ GLs s2 w := by
  obtain ⟨r, rm2, ac2, w, e1, e2, G2⟩ := g_undo (F := 4096) (by decide) G
  exact ⟨r, { s with rm := rm2, ac := ac2 }, w, fun sz => k_X8_undo l D k sz a ra ia rr ii hq s 4096 e1, fun sz => c_X9_undo l D k sz v 4096 mo e2, G2⟩
set_option maxHeartbeats 4000000 in
set_option maxRecDepth 100000 in
theorem t_ahead (l : Launch) (D : va_G) (k : Nat → ClassId) (a ra ia v : Nat → Nat) (rr ii : Nat → Option Nat) (hq : RQ ra ia rr ii) (s : CSt) (mo : OB) (G : GLs s mo) (x1 : Int32) (x2 : Int32) (x3 : Int32) : ∃ (r : Int32) (s2 : CSt) (w : OB), (∀ sz, CtI l yX8_ahead wsX8_ahead (rmK 7 0 0) [.ref (a 0), .int x1, .int x2, .int x3] D k sz (CWs k a ra ia rr ii s) (fun (q : Int32) (_ : Unit) => q = r) (fun _ : Unit => CWs k a ra ia rr ii s2) 0 0) ∧ (∀ sz, CtI l yX9_ahead wsX9_ahead (rmK 8 0 0) [.ref (v 0), .int x1, .int x2, .int x3] D k sz (moW k v mo) (fun (q : Int32) (_ : Unit) => q = r) (fun _ : Unit => moW k v w) 0 0) ∧ GLs s2 w := by
  obtain ⟨r, tm2, rz2, w, e1, e2, G2⟩ := g_ahead (F := 4096) (xrr := rr) (x1 := x1) (x2 := x2) (x3 := x3) (by decide) G
  exact ⟨r, { s with tm := tm2, rz := rz2 }, w, fun sz => k_X8_ahead l D k sz a ra ia rr ii hq s 4096 x1 x2 x3 e1, fun sz => c_X9_ahead l D k sz v 4096 x1 x2 x3 mo e2, G2⟩
set_option maxHeartbeats 4000000 in
set_option maxRecDepth 100000 in
theorem t_falls (l : Launch) (D : va_G) (k : Nat → ClassId) (a ra ia v : Nat → Nat) (rr ii : Nat → Option Nat) (hq : RQ ra ia rr ii) (s : CSt) (mo : OB) (G : GLs s mo) (x1 : Int32) : ∃ (r : Int32) (s2 : CSt) (w : OB), (∀ sz, CtI l yX8_falls wsX8_falls (rmK 6 0 0) [.ref (a 0), .int x1] D k sz (CWs k a ra ia rr ii s) (fun (q : Int32) (_ : Unit) => q = r) (fun _ : Unit => CWs k a ra ia rr ii s2) 0 0) ∧ (∀ sz, CtI l yX9_falls wsX9_falls (rmK 7 0 0) [.ref (v 0), .int x1] D k sz (moW k v mo) (fun (q : Int32) (_ : Unit) => q = r) (fun _ : Unit => moW k v w) 0 0) ∧ GLs s2 w := by
  obtain ⟨r, tm2, rz2, w, e1, e2, G2⟩ := g_falls (F := 4096) (xrr := rr) (x1 := x1) (by decide) G
  exact ⟨r, { s with tm := tm2, rz := rz2 }, w, fun sz => k_X8_falls l D k sz a ra ia rr ii hq s 4096 x1 e1, fun sz => c_X9_falls l D k sz v 4096 x1 mo e2, G2⟩
set_option maxHeartbeats 4000000 in
set_option maxRecDepth 100000 in
theorem t_felled (l : Launch) (D : va_G) (k : Nat → ClassId) (a ra ia v : Nat → Nat) (rr ii : Nat → Option Nat) (hq : RQ ra ia rr ii) (s : CSt) (mo : OB) (G : GLs s mo) (x1 : Int32) : ∃ (r : Int32) (s2 : CSt) (w : OB), (∀ sz, CtI l yX8_felled wsX8_felled (rmK 5 0 0) [.ref (a 0), .int x1] D k sz (CWs k a ra ia rr ii s) (fun (q : Int32) (_ : Unit) => q = r) (fun _ : Unit => CWs k a ra ia rr ii s2) 0 0) ∧ (∀ sz, CtI l yX9_felled wsX9_felled (rmK 7 0 0) [.ref (v 0), .int x1] D k sz (moW k v mo) (fun (q : Int32) (_ : Unit) => q = r) (fun _ : Unit => moW k v w) 0 0) ∧ GLs s2 w := by
  obtain ⟨r, tm2, w, e1, e2, G2⟩ := g_felled (F := 4096) (x1 := x1) (by decide) G
  exact ⟨r, { s with tm := tm2 }, w, fun sz => k_X8_felled l D k sz a ra ia rr ii hq s 4096 x1 e1, fun sz => c_X9_felled l D k sz v 4096 x1 mo e2, G2⟩
set_option maxHeartbeats 4000000 in
set_option maxRecDepth 100000 in
theorem t_tall (l : Launch) (D : va_G) (k : Nat → ClassId) (a ra ia v : Nat → Nat) (rr ii : Nat → Option Nat) (hq : RQ ra ia rr ii) (s : CSt) (mo : OB) (G : GLs s mo) (x1 : Int32) : ∃ (r : Int32) (s2 : CSt) (w : OB), (∀ sz, CtI l yX8_tall wsX8_tall (rmK 5 0 0) [.ref (a 0), .int x1] D k sz (CWs k a ra ia rr ii s) (fun (q : Int32) (_ : Unit) => q = r) (fun _ : Unit => CWs k a ra ia rr ii s2) 0 0) ∧ (∀ sz, CtI l yX9_tall wsX9_tall (rmK 7 0 0) [.ref (v 0), .int x1] D k sz (moW k v mo) (fun (q : Int32) (_ : Unit) => q = r) (fun _ : Unit => moW k v w) 0 0) ∧ GLs s2 w := by
  obtain ⟨r, tm2, w, e1, e2, G2⟩ := g_tall (F := 4096) (x1 := x1) (by decide) G
  exact ⟨r, { s with tm := tm2 }, w, fun sz => k_X8_tall l D k sz a ra ia rr ii hq s 4096 x1 e1, fun sz => c_X9_tall l D k sz v 4096 x1 mo e2, G2⟩
set_option maxHeartbeats 4000000 in
set_option maxRecDepth 100000 in
theorem t_ease (l : Launch) (D : va_G) (k : Nat → ClassId) (a ra ia v : Nat → Nat) (rr ii : Nat → Option Nat) (hq : RQ ra ia rr ii) (s : CSt) (mo : OB) (G : GLs s mo) (x1 : Int32) : ∃ (r : Int32) (s2 : CSt) (w : OB), (∀ sz, CtI l yX8_ease wsX8_ease (rmK 4 0 0) [.ref (a 0), .int x1] D k sz (CWs k a ra ia rr ii s) (fun (q : Int32) (_ : Unit) => q = r) (fun _ : Unit => CWs k a ra ia rr ii s2) 0 0) ∧ (∀ sz, CtI l yX9_ease wsX9_ease (rmK 5 0 0) [.ref (v 0), .int x1] D k sz (moW k v mo) (fun (q : Int32) (_ : Unit) => q = r) (fun _ : Unit => moW k v w) 0 0) ∧ GLs s2 w := by
  obtain ⟨r, tm2, e1, e2, G2⟩ := g_ease (F := 4096) (x1 := x1) (by decide) G
  exact ⟨r, { s with tm := tm2 }, mo, fun sz => k_X8_ease l D k sz a ra ia rr ii hq s 4096 x1 e1, fun sz => c_X9_ease l D k sz v 4096 x1 mo e2, G2⟩
set_option maxHeartbeats 4000000 in
set_option maxRecDepth 100000 in
theorem t_way (l : Launch) (D : va_G) (k : Nat → ClassId) (a ra ia v : Nat → Nat) (rr ii : Nat → Option Nat) (hq : RQ ra ia rr ii) (s : CSt) (mo : OB) (G : GLs s mo) (x1 : Int32) : ∃ (r r' : Int32) (s2 : CSt) (w : OB), (∀ sz, CtI l yX8_way wsX8_way (rmK 5 0 0) [.ref (a 0), .int x1] D k sz (CWs k a ra ia rr ii s) (fun (q : Int32) (_ : Unit) => q = r) (fun _ : Unit => CWs k a ra ia rr ii s2) 0 0) ∧ (∀ sz, CtI l yX9_way wsX9_way (rmK 6 0 0) [.ref (v 0), .int x1] D k sz (moW k v mo) (fun (q : Int32) (_ : Unit) => q = r') (fun _ : Unit => moW k v w) 0 0) ∧ GLs s2 w := by
  obtain ⟨r, r', tm2, xs2, w, e1, e2, G2⟩ := g_way (F := 4096) (xsr := s.xs) (x1 := x1) (by decide) G
  exact ⟨r, r', { s with tm := tm2, xs := xs2 }, w, fun sz => k_X8_way l D k sz a ra ia rr ii hq s 4096 x1 e1, fun sz => c_X9_way l D k sz v 4096 x1 mo e2, G2⟩
set_option maxHeartbeats 4000000 in
set_option maxRecDepth 100000 in
theorem t_most (l : Launch) (D : va_G) (k : Nat → ClassId) (a ra ia v : Nat → Nat) (rr ii : Nat → Option Nat) (hq : RQ ra ia rr ii) (s : CSt) (mo : OB) (G : GLs s mo) (x1 : Int32) : ∃ (r : Int32) (s2 : CSt) (w : OB), (∀ sz, CtI l yX8_most wsX8_most (rmK 3 0 0) [.ref (a 0), .int x1] D k sz (CWs k a ra ia rr ii s) (fun (q : Int32) (_ : Unit) => q = r) (fun _ : Unit => CWs k a ra ia rr ii s2) 0 0) ∧ (∀ sz, CtI l yX9_most wsX9_most (rmK 5 0 0) [.ref (v 0), .int x1] D k sz (moW k v mo) (fun (q : Int32) (_ : Unit) => q = r) (fun _ : Unit => moW k v w) 0 0) ∧ GLs s2 w := by
  obtain ⟨r, tm2, w, e1, e2, G2⟩ := g_most (F := 4096) (x1 := x1) (by decide) G
  exact ⟨r, { s with tm := tm2 }, w, fun sz => k_X8_most l D k sz a ra ia rr ii hq s 4096 x1 e1, fun sz => c_X9_most l D k sz v 4096 x1 mo e2, G2⟩
set_option maxHeartbeats 4000000 in
set_option maxRecDepth 100000 in
theorem t_heavy (l : Launch) (D : va_G) (k : Nat → ClassId) (a ra ia v : Nat → Nat) (rr ii : Nat → Option Nat) (hq : RQ ra ia rr ii) (s : CSt) (mo : OB) (G : GLs s mo) (x1 : Int32) (x2 : Int32) : ∃ (r : Int32) (s2 : CSt) (w : OB), (∀ sz, CtI l yX8_heavy wsX8_heavy (rmK 4 0 0) [.ref (a 0), .int x1, .int x2] D k sz (CWs k a ra ia rr ii s) (fun (q : Int32) (_ : Unit) => q = r) (fun _ : Unit => CWs k a ra ia rr ii s2) 0 0) ∧ (∀ sz, CtI l yX9_heavy wsX9_heavy (rmK 5 0 0) [.ref (v 0), .int x1, .int x2] D k sz (moW k v mo) (fun (q : Int32) (_ : Unit) => q = r) (fun _ : Unit => moW k v w) 0 0) ∧ GLs s2 w := by
  obtain ⟨r, tm2, w, e1, e2, G2⟩ := g_heavy (F := 4096) (x1 := x1) (x2 := x2) (by decide) G
  exact ⟨r, { s with tm := tm2 }, w, fun sz => k_X8_heavy l D k sz a ra ia rr ii hq s 4096 x1 x2 e1, fun sz => c_X9_heavy l D k sz v 4096 x1 x2 mo e2, G2⟩
set_option maxHeartbeats 4000000 in
set_option maxRecDepth 100000 in
theorem t_strung (l : Launch) (D : va_G) (k : Nat → ClassId) (a ra ia v : Nat → Nat) (rr ii : Nat → Option Nat) (hq : RQ ra ia rr ii) (s : CSt) (mo : OB) (G : GLs s mo) (x1 : Int32) : ∃ (r : Int32) (s2 : CSt) (w : OB), (∀ sz, CtI l yX8_strung wsX8_strung (rmK 7 0 0) [.ref (a 0), .int x1] D k sz (CWs k a ra ia rr ii s) (fun (q : Int32) (_ : Unit) => q = r) (fun _ : Unit => CWs k a ra ia rr ii s2) 0 0) ∧ (∀ sz, CtI l yX9_strung wsX9_strung (rmK 9 0 0) [.ref (v 0), .int x1] D k sz (moW k v mo) (fun (q : Int32) (_ : Unit) => q = r) (fun _ : Unit => moW k v w) 0 0) ∧ GLs s2 w := by
  obtain ⟨r, tm2, rz2, w, e1, e2, G2⟩ := g_strung (F := 4096) (xrr := rr) (x1 := x1) (by decide) G
  exact ⟨r, { s with tm := tm2, rz := rz2 }, w, fun sz => k_X8_strung l D k sz a ra ia rr ii hq s 4096 x1 e1, fun sz => c_X9_strung l D k sz v 4096 x1 mo e2, G2⟩
set_option maxHeartbeats 4000000 in
set_option maxRecDepth 100000 in
theorem t_rests (l : Launch) (D : va_G) (k : Nat → ClassId) (a ra ia v : Nat → Nat) (rr ii : Nat → Option Nat) (hq : RQ ra ia rr ii) (s : CSt) (mo : OB) (G : GLs s mo) (x1 : Int32) (x2 : Int32) (x3 : Int32) (x4 : Int32) : ∃ (r : Int32) (s2 : CSt) (w : OB), (∀ sz, CtI l yX8_rests wsX8_rests (rmK 7 0 0) [.ref (a 0), .int x1, .int x2, .int x3, .int x4] D k sz (CWs k a ra ia rr ii s) (fun (q : Int32) (_ : Unit) => q = r) (fun _ : Unit => CWs k a ra ia rr ii s2) 0 0) ∧ (∀ sz, CtI l yX9_rests wsX9_rests (rmK 8 0 0) [.ref (v 0), .int x1, .int x2, .int x3, .int x4] D k sz (moW k v mo) (fun (q : Int32) (_ : Unit) => q = r) (fun _ : Unit => moW k v w) 0 0) ∧ GLs s2 w := by
  obtain ⟨r, tm2, xp2, xq2, rz2, w, e1, e2, G2⟩ := g_rests (F := 4096) (xrr := rr) (x1 := x1) (x2 := x2) (x3 := x3) (x4 := x4) (by decide) G
  exact ⟨r, { s with tm := tm2, xp := xp2, xq := xq2, rz := rz2 }, w, fun sz => k_X8_rests l D k sz a ra ia rr ii hq s 4096 x1 x2 x3 x4 e1, fun sz => c_X9_rests l D k sz v 4096 x1 x2 x3 x4 mo e2, G2⟩
set_option maxHeartbeats 4000000 in
set_option maxRecDepth 100000 in
theorem t_ring (l : Launch) (D : va_G) (k : Nat → ClassId) (a ra ia v : Nat → Nat) (rr ii : Nat → Option Nat) (hq : RQ ra ia rr ii) (s : CSt) (mo : OB) (G : GLs s mo) (x1 : Int32) : ∃ (r : Int32) (s2 : CSt) (w : OB), (∀ sz, CtI l yX8_ring wsX8_ring (rmK 7 0 0) [.ref (a 0), .int x1] D k sz (CWs k a ra ia rr ii s) (fun (q : Int32) (_ : Unit) => q = r) (fun _ : Unit => CWs k a ra ia rr ii s2) 0 0) ∧ (∀ sz, CtI l yX9_ring wsX9_ring (rmK 8 0 0) [.ref (v 0), .int x1] D k sz (moW k v mo) (fun (q : Int32) (_ : Unit) => q = r) (fun _ : Unit => moW k v w) 0 0) ∧ GLs s2 w := by
  obtain ⟨r, tm2, xer2, rz2, w, e1, e2, G2⟩ := g_ring (F := 4096) (xer := s.xe) (xrr := rr) (x1 := x1) (by decide) G
  exact ⟨r, { s with tm := tm2, xe := xer2, rz := rz2 }, w, fun sz => k_X8_ring l D k sz a ra ia rr ii hq s 4096 x1 e1, fun sz => c_X9_ring l D k sz v 4096 x1 mo e2, G2⟩
set_option maxHeartbeats 4000000 in
set_option maxRecDepth 100000 in
theorem t_pence (l : Launch) (D : va_G) (k : Nat → ClassId) (a ra ia v : Nat → Nat) (rr ii : Nat → Option Nat) (hq : RQ ra ia rr ii) (s : CSt) (mo : OB) (G : GLs s mo) (x1 : Int32) (x2 : Int32) : ∃ (r : Int32) (s2 : CSt) (w : OB), (∀ sz, CtI l yX8_pence wsX8_pence (rmK 3 0 0) [.ref (a 0), .int x1, .int x2] D k sz (CWs k a ra ia rr ii s) (fun (q : Int32) (_ : Unit) => q = r) (fun _ : Unit => CWs k a ra ia rr ii s2) 0 0) ∧ (∀ sz, CtI l yX9_pence wsX9_pence (rmK 6 0 0) [.ref (v 0), .int x1, .int x2] D k sz (moW k v mo) (fun (q : Int32) (_ : Unit) => q = r) (fun _ : Unit => moW k v w) 0 0) ∧ GLs s2 w := by
  obtain ⟨r, e1, e2⟩ := g_pence (F := 4096) (x1 := x1) (x2 := x2) (by decide) G
  exact ⟨r, s, mo, fun sz => k_X8_pence l D k sz a ra ia rr ii hq s 4096 x1 x2 e1, fun sz => c_X9_pence l D k sz v 4096 x1 x2 mo e2, G⟩
set_option maxHeartbeats 4000000 in
set_option maxRecDepth 100000 in
theorem t_note (l : Launch) (D : va_G) (k : Nat → ClassId) (a ra ia v : Nat → Nat) (rr ii : Nat → Option Nat) (hq : RQ ra ia rr ii) (s : CSt) (mo : OB) (G : GLs s mo) (x1 : Int32) (x2 : Int32) (x3 : Int32) : ∃ (r : Int32) (s2 : CSt) (w : OB), (∀ sz, CtI l yX8_note wsX8_note (rmK 2 0 0) [.ref (a 0), .int x1, .int x2, .int x3] D k sz (CWs k a ra ia rr ii s) (fun (q : Int32) (_ : Unit) => q = r) (fun _ : Unit => CWs k a ra ia rr ii s2) 0 0) ∧ (∀ sz, CtI l yX9_note wsX9_note (rmK 3 0 0) [.ref (v 0), .int x1, .int x2, .int x3] D k sz (moW k v mo) (fun (q : Int32) (_ : Unit) => q = r) (fun _ : Unit => moW k v w) 0 0) ∧ GLs s2 w := by
  obtain ⟨r, nt2, w, e1, e2, G2⟩ := g_note (F := 4096) (x1 := x1) (x2 := x2) (x3 := x3) (by decide) G
  exact ⟨r, { s with nt := nt2 }, w, fun sz => k_X8_note l D k sz a ra ia rr ii hq s 4096 x1 x2 x3 e1, fun sz => c_X9_note l D k sz v 4096 x1 x2 x3 mo e2, G2⟩
set_option maxHeartbeats 4000000 in
set_option maxRecDepth 100000 in
theorem t_ruled (l : Launch) (D : va_G) (k : Nat → ClassId) (a ra ia v : Nat → Nat) (rr ii : Nat → Option Nat) (hq : RQ ra ia rr ii) (s : CSt) (mo : OB) (G : GLs s mo) (x1 : Int32) : ∃ (r : Int32) (s2 : CSt) (w : OB), (∀ sz, CtI l yX8_ruled wsX8_ruled (rmK 7 0 0) [.ref (a 0), .int x1] D k sz (CWs k a ra ia rr ii s) (fun (q : Int32) (_ : Unit) => q = r) (fun _ : Unit => CWs k a ra ia rr ii s2) 0 0) ∧ (∀ sz, CtI l yX9_ruled wsX9_ruled (rmK 10 0 0) [.ref (v 0), .int x1] D k sz (moW k v mo) (fun (q : Int32) (_ : Unit) => q = r) (fun _ : Unit => moW k v w) 0 0) ∧ GLs s2 w := by
  obtain ⟨r, tm2, rz2, w, e1, e2, G2⟩ := g_ruled (F := 4096) (xrr := rr) (x1 := x1) (by decide) G
  exact ⟨r, { s with tm := tm2, rz := rz2 }, w, fun sz => k_X8_ruled l D k sz a ra ia rr ii hq s 4096 x1 e1, fun sz => c_X9_ruled l D k sz v 4096 x1 mo e2, G2⟩
set_option maxHeartbeats 4000000 in
set_option maxRecDepth 100000 in
theorem t_look (l : Launch) (D : va_G) (k : Nat → ClassId) (a ra ia v : Nat → Nat) (rr ii : Nat → Option Nat) (hq : RQ ra ia rr ii) (s : CSt) (mo : OB) (G : GLs s mo) (x1 : Int32) (x2 : Int32) : ∃ (r : Int32) (s2 : CSt) (w : OB), (∀ sz, CtI l yX8_look wsX8_look (rmK 8 0 0) [.ref (a 0), .int x1, .int x2] D k sz (CWs k a ra ia rr ii s) (fun (q : Int32) (_ : Unit) => q = r) (fun _ : Unit => CWs k a ra ia rr ii s2) 0 0) ∧ (∀ sz, CtI l yX9_look wsX9_look (rmK 10 0 0) [.ref (v 0), .int x1, .int x2] D k sz (moW k v mo) (fun (q : Int32) (_ : Unit) => q = r) (fun _ : Unit => moW k v w) 0 0) ∧ GLs s2 w := by
  obtain ⟨r, tm2, xt2, rz2, w, e1, e2, G2⟩ := g_look (F := 4096) (xt := s.xt) (xrr := rr) (x1 := x1) (x2 := x2) (by decide) G
  exact ⟨r, { s with tm := tm2, xt := xt2, rz := rz2 }, w, fun sz => k_X8_look l D k sz a ra ia rr ii hq s 4096 x1 x2 e1, fun sz => c_X9_look l D k sz v 4096 x1 x2 mo e2, G2⟩
set_option maxHeartbeats 4000000 in
set_option maxRecDepth 100000 in
theorem t_seed (l : Launch) (D : va_G) (k : Nat → ClassId) (a ra ia v : Nat → Nat) (rr ii : Nat → Option Nat) (hq : RQ ra ia rr ii) (s : CSt) (mo : OB) (G : GLs s mo) (x1 : Int32) : ∃ (r : Int32) (s2 : CSt) (w : OB), (∀ sz, CtI l yX8_seed wsX8_seed (rmK 1 0 0) [.ref (a 0), .int x1] D k sz (CWs k a ra ia rr ii s) (fun (q : Int32) (_ : Unit) => q = r) (fun _ : Unit => CWs k a ra ia rr ii s2) 0 0) ∧ (∀ sz, CtI l yX9_seed wsX9_seed (rmK 1 0 0) [.ref (v 0), .int x1] D k sz (moW k v mo) (fun (q : Int32) (_ : Unit) => q = r) (fun _ : Unit => moW k v w) 0 0) ∧ GLs s2 w := by
  obtain ⟨r, si2, w, e1, e2, G2⟩ := g_seed (F := 4096) (x1 := x1) (by decide) G
  exact ⟨r, { s with si := si2 }, w, fun sz => k_X8_seed l D k sz a ra ia rr ii hq s 4096 x1 e1, fun sz => c_X9_seed l D k sz v 4096 x1 mo e2, G2⟩
set_option maxHeartbeats 4000000 in
set_option maxRecDepth 100000 in
theorem t_toasts (l : Launch) (D : va_G) (k : Nat → ClassId) (a ra ia v : Nat → Nat) (rr ii : Nat → Option Nat) (hq : RQ ra ia rr ii) (s : CSt) (mo : OB) (G : GLs s mo) (x1 : Int32) (x2 : Int32) (x3 : Int32) (x4 : Int32) : ∃ (r : Int32) (s2 : CSt) (w : OB), (∀ sz, CtI l yX8_toasts wsX8_toasts (rmK 7 0 0) [.ref (a 0), .int x1, .int x2, .int x3, .int x4] D k sz (CWs k a ra ia rr ii s) (fun (q : Int32) (_ : Unit) => q = r) (fun _ : Unit => CWs k a ra ia rr ii s2) 0 0) ∧ (∀ sz, CtI l yX9_toasts wsX9_toasts (rmK 7 0 0) [.ref (v 0), .int x1, .int x2, .int x3, .int x4] D k sz (moW k v mo) (fun (q : Int32) (_ : Unit) => q = r) (fun _ : Unit => moW k v w) 0 0) ∧ GLs s2 w := by
  obtain ⟨r, tm2, rz2, w, e1, e2, G2⟩ := g_toasts (F := 4096) (xrr := rr) (x1 := x1) (x2 := x2) (x3 := x3) (x4 := x4) (by decide) G
  exact ⟨r, { s with tm := tm2, rz := rz2 }, w, fun sz => k_X8_toasts l D k sz a ra ia rr ii hq s 4096 x1 x2 x3 x4 e1, fun sz => c_X9_toasts l D k sz v 4096 x1 x2 x3 x4 mo e2, G2⟩
set_option maxHeartbeats 4000000 in
set_option maxRecDepth 100000 in
theorem t_count (l : Launch) (D : va_G) (k : Nat → ClassId) (a ra ia v : Nat → Nat) (rr ii : Nat → Option Nat) (hq : RQ ra ia rr ii) (s : CSt) (mo : OB) (G : GLs s mo) (x1 : Int32) : ∃ (r : Int32) (s2 : CSt) (w : OB), (∀ sz, CtI l yX8_count wsX8_count (rmK 3 0 0) [.ref (a 0), .int x1] D k sz (CWs k a ra ia rr ii s) (fun (q : Int32) (_ : Unit) => q = r) (fun _ : Unit => CWs k a ra ia rr ii s2) 0 0) ∧ (∀ sz, CtI l yX9_count wsX9_count (rmK 6 0 0) [.ref (v 0), .int x1] D k sz (moW k v mo) (fun (q : Int32) (_ : Unit) => q = r) (fun _ : Unit => moW k v w) 0 0) ∧ GLs s2 w := by
  obtain ⟨r, e1, e2⟩ := g_count (F := 4096) (x1 := x1) (by decide) G
  exact ⟨r, s, mo, fun sz => k_X8_count l D k sz a ra ia rr ii hq s 4096 x1 e1, fun sz => c_X9_count l D k sz v 4096 x1 mo e2, G⟩
set_option maxHeartbeats 4000000 in
set_option maxRecDepth 100000 in
theorem t_image (l : Launch) (D : va_G) (k : Nat → ClassId) (a ra ia v : Nat → Nat) (rr ii : Nat → Option Nat) (hq : RQ ra ia rr ii) (s : CSt) (mo : OB) (G : GLs s mo) (x1 : Int32) : ∃ (r : Int32) (s2 : CSt) (w : OB), (∀ sz, CtI l yX8_image wsX8_image (rmK 4 0 0) [.ref (a 0), .int x1] D k sz (CWs k a ra ia rr ii s) (fun (q : Int32) (_ : Unit) => q = r) (fun _ : Unit => CWs k a ra ia rr ii s2) 0 0) ∧ (∀ sz, CtI l yX9_image wsX9_image (rmK 3 0 0) [.ref (v 0), .int x1] D k sz (moW k v mo) (fun (q : Int32) (_ : Unit) => q = r) (fun _ : Unit => moW k v w) 0 0) ∧ GLs s2 w := by
  by_cases hb : 0 ≤ x1.toInt ∧ x1.toInt < 4
  · obtain ⟨i, hi, rfl⟩ := ix_of (n := 4) (x := x1) hb
    match i, hi with
    | 0, hi =>
      obtain ⟨r, q, w, e1, e2, G2⟩ := g_image (F := 4096) (k := 0) (xmr := ii) hi (by decide) G
      exact ⟨r, { s with xg := upd s.xg 0 (vp_nar .boolean 1), iz := uF s.iz 0 q }, w, fun sz => k_X8_image0 l D k sz a ra ia rr ii hq s 4096 (nI 0) (fun _ => hq.2 0 (by decide)) e1, fun sz => c_X9_image l D k sz v 4096 (nI 0) mo e2, G2⟩
    | 1, hi =>
      obtain ⟨r, q, w, e1, e2, G2⟩ := g_image (F := 4096) (k := 1) (xmr := ii) hi (by decide) G
      exact ⟨r, { s with xg := upd s.xg 1 (vp_nar .boolean 1), iz := uF s.iz 1 q }, w, fun sz => k_X8_image1 l D k sz a ra ia rr ii hq s 4096 (nI 1) (fun _ => hq.2 1 (by decide)) e1, fun sz => c_X9_image l D k sz v 4096 (nI 1) mo e2, G2⟩
    | 2, hi =>
      obtain ⟨r, q, w, e1, e2, G2⟩ := g_image (F := 4096) (k := 2) (xmr := ii) hi (by decide) G
      exact ⟨r, { s with xg := upd s.xg 2 (vp_nar .boolean 1), iz := uF s.iz 2 q }, w, fun sz => k_X8_image2 l D k sz a ra ia rr ii hq s 4096 (nI 2) (fun _ => hq.2 2 (by decide)) e1, fun sz => c_X9_image l D k sz v 4096 (nI 2) mo e2, G2⟩
    | 3, hi =>
      obtain ⟨r, q, w, e1, e2, G2⟩ := g_image (F := 4096) (k := 3) (xmr := ii) hi (by decide) G
      exact ⟨r, { s with xg := upd s.xg 3 (vp_nar .boolean 1), iz := uF s.iz 3 q }, w, fun sz => k_X8_image3 l D k sz a ra ia rr ii hq s 4096 (nI 3) (fun _ => hq.2 3 (by decide)) e1, fun sz => c_X9_image l D k sz v 4096 (nI 3) mo e2, G2⟩
  · have hn : ib x1 4 → ii (Int32.toNatClampNeg x1) = some (ia 0) := fun z => absurd (ib_4 z) hb
    obtain ⟨e1, e2⟩ := g_image0 (F := 4096) (xi := s.xi) (si := s.si) (xg := s.xg) (rm := s.rm) (ac := s.ac) (nt := s.nt) (mo := mo) (sj := (s.iz 0).1) (rn := (s.iz 0).2.1) (ae := (s.iz 0).2.2.1) (nu := (s.iz 0).2.2.2) (xmr := ii) hb
    have t8 : ∀ sz, CtI l yX8_image wsX8_image (rmK 4 0 0) [.ref (a 0), .int x1] D k sz (CWs k a ra ia rr ii s) (fun (q : Int32) (_ : Unit) => q = -1) (fun _ : Unit => CWs k a ra ia rr ii { s with xg := s.xg, iz := uF s.iz 0 ((s.iz 0).1, (s.iz 0).2.1, (s.iz 0).2.2.1, (s.iz 0).2.2.2) }) 0 0 := fun sz => k_X8_image0 l D k sz a ra ia rr ii hq s 4096 x1 hn e1
    rw [iz_same] at t8
    exact ⟨-1, s, mo, t8, fun sz => c_X9_image l D k sz v 4096 x1 mo e2, G⟩
set_option maxHeartbeats 4000000 in
set_option maxRecDepth 100000 in
theorem t_back (l : Launch) (D : va_G) (k : Nat → ClassId) (a ra ia v : Nat → Nat) (rr ii : Nat → Option Nat) (hq : RQ ra ia rr ii) (s : CSt) (mo : OB) (G : GLs s mo) (x1 : Int32) : ∃ (r : Int32) (s2 : CSt) (w : OB), (∀ sz, CtI l yX8_back wsX8_back (rmK 4 0 0) [.ref (a 0), .int x1] D k sz (CWs k a ra ia rr ii s) (fun (q : Int32) (_ : Unit) => q = r) (fun _ : Unit => CWs k a ra ia rr ii s2) 0 0) ∧ (∀ sz, CtI l yX9_back wsX9_back (rmK 3 0 0) [.ref (v 0), .int x1] D k sz (moW k v mo) (fun (q : Int32) (_ : Unit) => q = r) (fun _ : Unit => moW k v w) 0 0) ∧ GLs s2 w := by
  by_cases hb : 0 ≤ x1.toInt ∧ x1.toInt < 4
  · obtain ⟨i, hi, rfl⟩ := ix_of (n := 4) (x := x1) hb
    match i, hi with
    | 0, hi =>
      obtain ⟨r, si2, rm2, ac2, nt2, w, e1, e2, G2⟩ := g_back (F := 4096) (k := 0) (xmr := ii) hi (by decide) G
      exact ⟨r, { s with si := si2, rm := rm2, ac := ac2, nt := nt2 }, w, fun sz => k_X8_back0 l D k sz a ra ia rr ii hq s 4096 (nI 0) (fun _ => hq.2 0 (by decide)) e1, fun sz => c_X9_back l D k sz v 4096 (nI 0) mo e2, G2⟩
    | 1, hi =>
      obtain ⟨r, si2, rm2, ac2, nt2, w, e1, e2, G2⟩ := g_back (F := 4096) (k := 1) (xmr := ii) hi (by decide) G
      exact ⟨r, { s with si := si2, rm := rm2, ac := ac2, nt := nt2 }, w, fun sz => k_X8_back1 l D k sz a ra ia rr ii hq s 4096 (nI 1) (fun _ => hq.2 1 (by decide)) e1, fun sz => c_X9_back l D k sz v 4096 (nI 1) mo e2, G2⟩
    | 2, hi =>
      obtain ⟨r, si2, rm2, ac2, nt2, w, e1, e2, G2⟩ := g_back (F := 4096) (k := 2) (xmr := ii) hi (by decide) G
      exact ⟨r, { s with si := si2, rm := rm2, ac := ac2, nt := nt2 }, w, fun sz => k_X8_back2 l D k sz a ra ia rr ii hq s 4096 (nI 2) (fun _ => hq.2 2 (by decide)) e1, fun sz => c_X9_back l D k sz v 4096 (nI 2) mo e2, G2⟩
    | 3, hi =>
      obtain ⟨r, si2, rm2, ac2, nt2, w, e1, e2, G2⟩ := g_back (F := 4096) (k := 3) (xmr := ii) hi (by decide) G
      exact ⟨r, { s with si := si2, rm := rm2, ac := ac2, nt := nt2 }, w, fun sz => k_X8_back3 l D k sz a ra ia rr ii hq s 4096 (nI 3) (fun _ => hq.2 3 (by decide)) e1, fun sz => c_X9_back l D k sz v 4096 (nI 3) mo e2, G2⟩
  · have hn : ib x1 4 → ii (Int32.toNatClampNeg x1) = some (ia 0) := fun z => absurd (ib_4 z) hb
    obtain ⟨e1, e2⟩ := g_back0 (F := 4096) (xi := s.xi) (si := s.si) (xg := s.xg) (rm := s.rm) (ac := s.ac) (nt := s.nt) (mo := mo) (sj := (s.iz 0).1) (rn := (s.iz 0).2.1) (ae := (s.iz 0).2.2.1) (nu := (s.iz 0).2.2.2) (xmr := ii) hb
    exact ⟨-1, s, mo, fun sz => k_X8_back0 l D k sz a ra ia rr ii hq s 4096 x1 hn e1, fun sz => c_X9_back l D k sz v 4096 x1 mo e2, G⟩
