/-! longs, rests -/
theorem HallOk.us {s2 s3 v : Int32} {so co w f : Nat → Int32} {i : Nat} (h : HallOk s2 s3 so co w) (hv : iv 0 3 v) (e : f = upd so i v) : HallOk s2 s3 f co w := by
  refine ⟨fun c hc => ?_, h.2⟩
  by_cases hi : c = i
  · rw [e, hi, pk_us]; exact hv
  · rw [e, pk_un hi]; exact h.1 c hc
