/-! The objects as lists of cells: at the addresses a, b, g .. what v, t, y .. hold. -/
abbrev tyz (ct : Nat → ClassId) : List (ClassId × FieldType) := [(ct 0, .int), (ct 1, .object "ChronicleRows$State"), (ct 2, .boolean), (ct 3, .array .int)]
def wS (ct : Nat → ClassId) (a : Nat → Nat) (v : Mem) : va_W := [(a 0, .inr (4, [.ref (a 1), .ref (a 2), .ref (a 3), .ref (a 4), .ref (a 5), .ref (a 6), .ref (a 7), .int (v 7 0), .int (v 8 0), .int (v 9 0)])), (a 1, .inl (ct 0, 20, .inl (v 0))), (a 2, .inl (ct 0, 20, .inl (v 1))), (a 3, .inl (ct 0, 20, .inl (v 2))), (a 4, .inl (ct 0, 10, .inl (v 3))), (a 5, .inl (ct 0, 10, .inl (v 4))), (a 6, .inl (ct 0, 24, .inl (v 5))), (a 7, .inl (ct 0, 4, .inl (v 6)))]
def wT (ct : Nat → ClassId) (a : Nat → Nat) (v : Mem) : va_W := [(a 0, .inr (5, [.ref (a 1), .int (v 1 0), .int (v 2 0), .int (v 3 0), .int (v 4 0), .int (v 5 0)])), (a 1, .inl (ct 0, 60, .inl (v 0)))]
def wL (ct : Nat → ClassId) (a : Nat → Nat) (v : Mem) : va_W := [(a 0, .inr (1, [.ref (a 1), .ref (a 2), .int (v 2 0)])), (a 1, .inl (ct 0, 6, .inl (v 0))), (a 2, .inl (ct 0, 6, .inl (v 1)))]
def wO (ct : Nat → ClassId) (a : Nat → Nat) (v : Mem) : va_W := [(a 0, .inr (0, [.ref (a 1), .ref (a 2)])), (a 1, .inl (ct 0, 6, .inl (v 0))), (a 2, .inl (ct 0, 6, .inl (v 1)))]
def wR (ct : Nat → ClassId) (a : Nat → Nat) (v : Mem) : va_W := [(a 0, .inr (2, [.ref (a 1), .ref (a 2), .ref (a 3), .ref (a 4), .ref (a 5), .ref (a 6), .ref (a 7), .ref (a 8), .ref (a 9), .ref (a 10), .int (v 10 0), .int (v 11 0), .int (v 12 0)])), (a 1, .inl (ct 0, 6, .inl (v 0))), (a 2, .inl (ct 0, 6, .inl (v 1))), (a 3, .inl (ct 0, 20, .inl (v 2))), (a 4, .inl (ct 0, 20, .inl (v 3))), (a 5, .inl (ct 0, 6, .inl (v 4))), (a 6, .inl (ct 0, 6, .inl (v 5))), (a 7, .inl (ct 0, 6, .inl (v 6))), (a 8, .inl (ct 0, 6, .inl (v 7))), (a 9, .inl (ct 0, 6, .inl (v 8))), (a 10, .inl (ct 3, 6, .inr (.inr (.inr (.inr (fun i => if i < 6 then some (a (20 + i)) else none)))))), (a 20, .inl (ct 0, 6, .inl (v 20))), (a 21, .inl (ct 0, 6, .inl (v 21))), (a 22, .inl (ct 0, 6, .inl (v 22))), (a 23, .inl (ct 0, 6, .inl (v 23))), (a 24, .inl (ct 0, 6, .inl (v 24))), (a 25, .inl (ct 0, 6, .inl (v 25)))]
def wV (ct : Nat → ClassId) (g : Nat → Nat → Nat) (v : Mem) : va_W := [(g 4 0, .inr (3, [.ref (g 4 1), .int (v 1 0), .int (v 2 0)])), (g 4 1, .inl (ct 1, 6, .inr (.inr (.inr (.inr (fun i => if i < 6 then some (g (5 + i) 0) else none))))))]
def wG (ct : Nat → ClassId) (g : Nat → Nat → Nat) (r : Nat → Mem) : va_W := wS ct (g 5) (r 0) ++ (wS ct (g 6) (r 1) ++ (wS ct (g 7) (r 2) ++ (wS ct (g 8) (r 3) ++ (wS ct (g 9) (r 4) ++ wS ct (g 10) (r 5)))))
def wZ (ct : Nat → ClassId) (g : Nat → Nat → Nat) (r : Nat → Mem) : va_W := wS ct (g 2) (r 0) ++ wS ct (g 3) (r 1)
def wC (ct : Nat → ClassId) (g : Nat → Nat → Nat) (v : Mem) : va_W := [(g 0 0, .inr (6, [.ref (g 1 0), .ref (g 0 1), .ref (g 0 2), .ref (g 4 0), .ref (g 11 0), .ref (g 12 0), .ref (g 13 0), .ref (g 14 0)])), (g 0 1, .inl (ct 1, 2, .inr (.inr (.inr (.inr (fun i => if i < 2 then some (g (2 + i) 0) else none)))))), (g 0 2, .inl (ct 2, 2, .inl (v 2)))]
/-- a row of ints of its own -/
def wI (N : Nat) (ct : Nat → ClassId) (a : Nat) (v : Mem) : va_W := [(a, .inl (ct 0, N, .inl (v 0)))]
def freshM : Mem := fun _ _ => 0
def deadM : Mem := fun _ _ => 0
def rset (r : Nat → Mem) (i : Nat) (m : Mem) : Nat → Mem := fun j => if j = i then m else r j
abbrev ix (i : Int32) : Nat := i.toNatClampNeg
theorem vp_lt {i : Int32} {n : Nat} (h : vp_in i n) : ix i < n := Nat.not_le.mp fun q => h (Or.inr q)
theorem vp_c6 {i : Int32} (h : vp_in i 6) : ix i = 0 ∨ ix i = 1 ∨ ix i = 2 ∨ ix i = 3 ∨ ix i = 4 ∨ ix i = 5 := by have := vp_lt h; omega
theorem vp_c2 {i : Int32} (h : vp_in i 2) : ix i = 0 ∨ ix i = 1 := by have := vp_lt h; omega
theorem in_R {ct : Nat → ClassId} {a : Nat → Nat} {v : Mem} {i : Nat} (h : i < 6) : (wR ct a v)[11 + i]? = some (a (20 + i), .inl (ct 0, 6, .inl (v (20 + i)))) := by
  rcases (show i = 0 ∨ i = 1 ∨ i = 2 ∨ i = 3 ∨ i = 4 ∨ i = 5 by omega) with rfl | rfl | rfl | rfl | rfl | rfl <;> rfl
theorem in_Rs {ct : Nat → ClassId} {a : Nat → Nat} {v : Mem} {i k : Nat} {x : Int32} (h : i < 6) : (wR ct a v).set (11 + i) (a (20 + i), .inl (ct 0, 6, .inl (upd (v (20 + i)) k x))) = wR ct a (mset v (20 + i) k x) := by
  rcases (show i = 0 ∨ i = 1 ∨ i = 2 ∨ i = 3 ∨ i = 4 ∨ i = 5 by omega) with rfl | rfl | rfl | rfl | rfl | rfl <;> rfl
