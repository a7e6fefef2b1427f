/-! The looks of the other one. -/
theorem in91 {n : Nat} (h : n < 91) : vp_in (nI n) 91 := in_nI h (by decide)
