/-! What each method of the law needs to come to its end with post, by program out of its bytecode. -/
def PL_low (p1 : Int32) (p2 : Int32) (post : Int32 → Prop) : Prop :=
  (¬ p2 = 0) ∧ post ((p1 &&& 2147483647) - (p1 &&& 2147483647) / p2 * p2)

def PL_place_9 (ap : Mem) (aq : Mem) (post : Int32 → Prop) : Nat → Int32 → Int32 → Prop
  | 0, _, _ => False
  | n + 1, x2, x3 => vp_in x3 24 ∧ (((aq 0 (ix x3)) = x2) → post (x3 - x3 / 6 * 6)) ∧ ((¬ (aq 0 (ix x3)) = x2) → PL_place_9 ap aq post n x2 (x3 + 1))

def PL_place (ap : Mem) (aq : Mem) (p3 : Int32) (post : Int32 → Prop) : Prop :=
  vp_in (2 * p3) 40 ∧ ∀ q2 : Int32, q2 = 6 * (ap 0 (ix (2 * p3))) → ∃ n5, PL_place_9 ap aq post n5 p3 q2

def PL_middle (ap : Mem) (ac : Mem) (aq : Mem) (p4 : Int32) (post : Int32 → Prop) : Prop :=
  vp_in (2 * p4) 20 ∧ PL_place ap aq (ac 0 (ix (2 * p4))) (fun r2 => vp_in ((2 * p4) + 1) 20 ∧ PL_place ap aq (ac 0 (ix ((2 * p4) + 1))) (fun r5 => post (r2 + r5)))

def PL_crosses_23 (ap : Mem) (ac : Mem) (aq : Mem) (an : Mem) (post : Int32 → Prop) (K6 : Int32 → Int32 → Int32 → Prop) : Nat → Int32 → Int32 → Int32 → Int32 → Prop
  | 0, _, _, _, _ => False
  | n + 1, x4, x5, x6, x7 => vp_in (3 + x4) 7 ∧ (((an 0 (ix (3 + x4))) ≤ x7) → K6 x4 x5 (x6 + 1)) ∧ ((¬ (an 0 (ix (3 + x4))) ≤ x7) → vp_in ((6 * x4) + x6) 24 ∧ vp_in ((2 * (aq 0 (ix ((6 * x4) + x6)))) + 1) 40 ∧ ∀ q8 : Int32, q8 = ap 0 (ix ((2 * (aq 0 (ix ((6 * x4) + x6)))) + 1)) → vp_in ((6 * x4) + x7) 24 ∧ vp_in ((2 * (aq 0 (ix ((6 * x4) + x7)))) + 1) 40 ∧ ∀ q11 : Int32, q11 = ap 0 (ix ((2 * (aq 0 (ix ((6 * x4) + x7)))) + 1)) → ((q8 < 0) → ∀ q13 : Int32, q13 = x5 + 0 → PL_crosses_23 ap ac aq an post K6 n x4 q13 x6 (x7 + 1)) ∧ ((¬ q8 < 0) → ((q11 < 0) → ∀ q15 : Int32, q15 = x5 + 0 → PL_crosses_23 ap ac aq an post K6 n x4 q15 x6 (x7 + 1)) ∧ ((¬ q11 < 0) → PL_middle ap ac aq q8 (fun r16 => PL_middle ap ac aq q11 (fun r18 => ((r16 ≤ r18) → ∀ q21 : Int32, q21 = x5 + 0 → PL_crosses_23 ap ac aq an post K6 n x4 q21 x6 (x7 + 1)) ∧ ((¬ r16 ≤ r18) → ∀ q22 : Int32, q22 = x5 + 1 → PL_crosses_23 ap ac aq an post K6 n x4 q22 x6 (x7 + 1)))))))

def PL_crosses_6 (ap : Mem) (ac : Mem) (aq : Mem) (an : Mem) (post : Int32 → Prop) : Nat → Int32 → Int32 → Int32 → Prop
  | 0, _, _, _ => False
  | n + 1, x4, x5, x6 => vp_in (3 + x4) 7 ∧ (((an 0 (ix (3 + x4))) ≤ x6) → post x5) ∧ ((¬ (an 0 (ix (3 + x4))) ≤ x6) → ∀ q3 : Int32, q3 = x6 + 1 → ∃ n23, PL_crosses_23 ap ac aq an post (PL_crosses_6 ap ac aq an post n) n23 x4 x5 x6 q3)

def PL_crosses (ap : Mem) (ac : Mem) (aq : Mem) (an : Mem) (p5 : Int32) (post : Int32 → Prop) : Prop :=
  ∃ n24, PL_crosses_6 ap ac aq an post n24 p5 0 0

def PL_all (ap : Mem) (ac : Mem) (aq : Mem) (an : Mem) (post : Int32 → Prop) : Prop :=
  PL_crosses ap ac aq an 1 (fun r1 => PL_crosses ap ac aq an 2 (fun r3 => PL_crosses ap ac aq an 3 (fun r5 => post ((r1 + r3) + r5))))

def PL_ofTwo (ap : Mem) (ac : Mem) (aq : Mem) (an : Mem) (p5 : Int32) (post : Int32 → Prop) : Prop :=
  PL_crosses ap ac aq an p5 (fun r1 => ((¬ p5 = 3) → PL_crosses ap ac aq an (p5 + 1) (fun r4 => post (r1 + r4))) ∧ ((p5 = 3) → post (r1 + 0)))

def PL_couples_5 (ac : Mem) (an : Mem) (post : Int32 → Prop) : Nat → Int32 → Int32 → Int32 → Prop
  | 0, _, _, _ => False
  | n + 1, x2, x3, x4 => vp_in 1 7 ∧ (((2 * (an 0 (ix 1))) ≤ x4) → post x3) ∧ ((¬ (2 * (an 0 (ix 1))) ≤ x4) → vp_in x4 20 ∧ ((¬ (ac 0 (ix x4)) = x2) → ∀ q5 : Int32, q5 = x3 + 0 → PL_couples_5 ac an post n x2 q5 (x4 + 1)) ∧ (((ac 0 (ix x4)) = x2) → ∀ q6 : Int32, q6 = x3 + 1 → PL_couples_5 ac an post n x2 q6 (x4 + 1)))

def PL_couples (ac : Mem) (an : Mem) (p3 : Int32) (post : Int32 → Prop) : Prop :=
  ∃ n7, PL_couples_5 ac an post n7 p3 0 0

def PL_ancestors_66 (ap : Mem) (ac : Mem) (an : Mem) (post : Int32 → Prop) (K12 : Int32 → Int32 → Int32 → Prop) (K20 : Int32 → Int32 → Int32 → Int32 → Prop) (x3 : Int32) (x4 : Int32) (x5 : Int32) (x6 : Int32) (z0 : Int32) : Prop :=
  ((z0 = 0) → ∀ q10 : Int32, q10 = x4 ||| 0 → K20 x3 q10 x5 (x6 + 1)) ∧ ((¬ z0 = 0) → vp_in ((2 * x6) + 1) 40 ∧ vp_in (2 * (ap 0 (ix ((2 * x6) + 1)))) 20 ∧ vp_in ((2 * x6) + 1) 40 ∧ vp_in ((2 * (ap 0 (ix ((2 * x6) + 1)))) + 1) 20 ∧ ∀ q15 : Int32, q15 = x4 ||| ((1 <<< ((ac 0 (ix (2 * (ap 0 (ix ((2 * x6) + 1)))))) &&& 31)) ||| (1 <<< ((ac 0 (ix ((2 * (ap 0 (ix ((2 * x6) + 1)))) + 1))) &&& 31))) → K20 x3 q15 x5 (x6 + 1))

def PL_ancestors_65 (ap : Mem) (ac : Mem) (an : Mem) (post : Int32 → Prop) (K12 : Int32 → Int32 → Int32 → Prop) (K20 : Int32 → Int32 → Int32 → Int32 → Prop) (x3 : Int32) (x4 : Int32) (x5 : Int32) (x6 : Int32) : Prop :=
  PL_ancestors_66 ap ac an post K12 K20 x3 x4 x5 x6 0

def PL_ancestors_20 (ap : Mem) (ac : Mem) (an : Mem) (post : Int32 → Prop) (K12 : Int32 → Int32 → Int32 → Prop) : Nat → Int32 → Int32 → Int32 → Int32 → Prop
  | 0, _, _, _, _ => False
  | n + 1, x3, x4, x5, x6 => vp_in 0 7 ∧ (((an 0 (ix 0)) ≤ x6) → K12 x3 x4 (x5 + (-1))) ∧ ((¬ (an 0 (ix 0)) ≤ x6) → vp_in (2 * x6) 40 ∧ ((¬ (ap 0 (ix (2 * x6))) = x5) → PL_ancestors_65 ap ac an post K12 (PL_ancestors_20 ap ac an post K12 n) x3 x4 x5 x6) ∧ (((ap 0 (ix (2 * x6))) = x5) → ((¬ ((x4 >>> (x6 &&& 31)) &&& 1) = 1) → PL_ancestors_65 ap ac an post K12 (PL_ancestors_20 ap ac an post K12 n) x3 x4 x5 x6) ∧ ((((x4 >>> (x6 &&& 31)) &&& 1) = 1) → vp_in ((2 * x6) + 1) 40 ∧ (((ap 0 (ix ((2 * x6) + 1))) < 0) → PL_ancestors_65 ap ac an post K12 (PL_ancestors_20 ap ac an post K12 n) x3 x4 x5 x6) ∧ ((¬ (ap 0 (ix ((2 * x6) + 1))) < 0) → PL_ancestors_66 ap ac an post K12 (PL_ancestors_20 ap ac an post K12 n) x3 x4 x5 x6 1))))

def PL_ancestors_12 (ap : Mem) (ac : Mem) (an : Mem) (post : Int32 → Prop) : Nat → Int32 → Int32 → Int32 → Prop
  | 0, _, _, _ => False
  | n + 1, x3, x4, x5 => ((x5 ≤ 0) → post (x4 &&& ((1 <<< (x3 &&& 31)) ^^^ ((-1))))) ∧ ((¬ x5 ≤ 0) → ∃ n19, PL_ancestors_20 ap ac an post (PL_ancestors_12 ap ac an post n) n19 x3 x4 x5 0)

def PL_ancestors (ap : Mem) (ac : Mem) (an : Mem) (p4 : Int32) (post : Int32 → Prop) : Prop :=
  ∀ q1 : Int32, q1 = 1 <<< (p4 &&& 31) → vp_in (2 * p4) 40 ∧ ∀ q3 : Int32, q3 = ap 0 (ix (2 * p4)) → ∃ n20, PL_ancestors_12 ap ac an post n20 p4 q1 q3

def PL_ones_4 (post : Int32 → Prop) : Nat → Int32 → Int32 → Prop
  | 0, _, _ => False
  | n + 1, x1, x2 => ((x2 = 0) → post x1) ∧ ((¬ x2 = 0) → ∀ q2 : Int32, q2 = x2 &&& (x2 - 1) → PL_ones_4 post n (x1 + 1) q2)

def PL_ones (p1 : Int32) (post : Int32 → Prop) : Prop :=
  ∃ n3, PL_ones_4 post n3 0 p1

def PL_lays_105 (an : Mem) (post : Mem → Prop) (K48 : Mem → Int32 → Int32 → Int32 → Int32 → Int32 → Prop) : Nat → Mem → Int32 → Int32 → Int32 → Int32 → Int32 → Int32 → Int32 → Int32 → Prop
  | 0, _, _, _, _, _, _, _, _, _ => False
  | n + 1, aq, x2, x4, x5, x6, x7, x9, x10, x11 => ((x11 < 0) → vp_in ((6 * x2) + x7) 24 ∧ ∀ aq12 : Mem, aq12 = mset aq 0 (ix ((6 * x2) + x7)) x10 → ∀ q13 : Int32, q13 = x5 &&& ((1 <<< (x10 &&& 31)) ^^^ ((-1))) → K48 aq12 x2 x4 q13 x6 (x7 + 1)) ∧ ((¬ x11 < 0) → ((¬ ((x5 >>> (x11 &&& 31)) &&& 1) = 1) → PL_lays_105 an post K48 n aq x2 x4 x5 x6 x7 x9 x10 (x11 + (-1))) ∧ ((((x5 >>> (x11 &&& 31)) &&& 1) = 1) → PL_ones (x5 &&& ((1 <<< (x11 &&& 31)) - 1)) (fun r15 => ((¬ r15 = x9) → PL_lays_105 an post K48 n aq x2 x4 x5 x6 x7 x9 x10 (x11 + (-1))) ∧ ((r15 = x9) → PL_lays_105 an post K48 n aq x2 x4 x5 x6 x7 x9 x11 (x11 + (-1))))))

def PL_lays_61 (an : Mem) (post : Mem → Prop) (K48 : Mem → Int32 → Int32 → Int32 → Int32 → Int32 → Prop) : Nat → Mem → Int32 → Int32 → Int32 → Int32 → Int32 → Int32 → Int32 → Prop
  | 0, _, _, _, _, _, _, _, _ => False
  | n + 1, aq, x2, x4, x5, x6, x7, x8, x9 => (((x4 - x7) ≤ x9) → (¬ x8 = 0) ∧ ∀ q7 : Int32, q7 = x6 / x8 → (¬ x8 = 0) ∧ ∀ q9 : Int32, q9 = x6 - x6 / x8 * x8 → ∃ n18, PL_lays_105 an post K48 n18 aq x2 x4 x5 q9 x7 q7 0 19) ∧ ((¬ (x4 - x7) ≤ x9) → ∀ q19 : Int32, q19 = x8 * x9 → PL_lays_61 an post K48 n aq x2 x4 x5 x6 x7 q19 (x9 + 1))

def PL_lays_48 (an : Mem) (post : Mem → Prop) : Nat → Mem → Int32 → Int32 → Int32 → Int32 → Int32 → Prop
  | 0, _, _, _, _, _, _ => False
  | n + 1, aq, x2, x4, x5, x6, x7 => ((x4 ≤ x7) → post aq) ∧ ((¬ x4 ≤ x7) → ∃ n20, PL_lays_61 an post (PL_lays_48 an post n) n20 aq x2 x4 x5 x6 x7 1 2)

def PL_lays_13 (an : Mem) (post : Mem → Prop) : Nat → Mem → Int32 → Int32 → Int32 → Int32 → Int32 → Prop
  | 0, _, _, _, _, _, _ => False
  | n + 1, aq, x2, x3, x4, x5, x6 => ((x4 ≤ x6) → ∃ n21, PL_lays_48 an post n21 aq x2 x4 x5 x3 0) ∧ ((¬ x4 ≤ x6) → vp_in ((6 * x2) + x6) 24 ∧ ∀ q23 : Int32, q23 = x5 ||| (1 <<< ((aq 0 (ix ((6 * x2) + x6))) &&& 31)) → PL_lays_13 an post n aq x2 x3 x4 q23 (x6 + 1))

def PL_lays (aq : Mem) (an : Mem) (p3 : Int32) (p4 : Int32) (post : Mem → Prop) : Prop :=
  vp_in (3 + p3) 7 ∧ ∀ q2 : Int32, q2 = an 0 (ix (3 + p3)) → ∃ n24, PL_lays_13 an post n24 aq p3 p4 q2 0 0

def PL_copy_2 (aq : Mem) (post : Mem → Prop) : Nat → Mem → Int32 → Prop
  | 0, _, _ => False
  | n + 1, ar, x2 => ((24 ≤ x2) → post ar) ∧ ((¬ 24 ≤ x2) → vp_in x2 24 ∧ vp_in x2 24 ∧ ∀ ar4 : Mem, ar4 = mset ar 0 (ix x2) (aq 0 (ix x2)) → PL_copy_2 aq post n ar4 (x2 + 1))

def PL_copy (aq : Mem) (ar : Mem) (post : Mem → Prop) : Prop :=
  ∃ n5, PL_copy_2 aq post n5 ar 0

def PL_best_96 (ap : Mem) (ac : Mem) (aq : Mem) (an : Mem) (post : Int32 → Prop) (K53 : Mem → Int32 → Int32 → Int32 → Int32 → Int32 → Prop) (ar : Mem) (x4 : Int32) (x5 : Int32) (x8 : Int32) (x9 : Int32) (x10 : Int32) (z0 : Int32) : Prop :=
  ((x8 ≤ x10) → K53 ar x4 x5 z0 x8 (x9 + 1)) ∧ ((¬ x8 ≤ x10) → K53 ar x4 x5 z0 x10 (x9 + 1))

def PL_best_53 (ap : Mem) (ac : Mem) (aq : Mem) (an : Mem) (post : Int32 → Prop) : Nat → Mem → Int32 → Int32 → Int32 → Int32 → Int32 → Prop
  | 0, _, _, _, _, _, _ => False
  | n + 1, ar, x4, x5, x7, x8, x9 => ((x5 ≤ x9) → post x7) ∧ ((¬ x5 ≤ x9) → PL_lays ar an x4 x9 (fun ar7 => PL_ofTwo ap ac ar7 an x4 (fun r8 => ((x8 ≤ r8) → PL_best_96 ap ac aq an post (PL_best_53 ap ac aq an post n) ar7 x4 x5 x8 x9 r8 x7) ∧ ((¬ x8 ≤ r8) → PL_best_96 ap ac aq an post (PL_best_53 ap ac aq an post n) ar7 x4 x5 x8 x9 r8 x9))))

def PL_best_6 (ap : Mem) (ac : Mem) (aq : Mem) (an : Mem) (post : Int32 → Prop) : Nat → Mem → Int32 → Int32 → Int32 → Prop
  | 0, _, _, _, _ => False
  | n + 1, ar, x4, x5, x6 => vp_in (3 + x4) 7 ∧ (((an 0 (ix (3 + x4))) < x6) → PL_copy aq freshM (fun ar4 => ∃ n12, PL_best_53 ap ac aq an post n12 ar4 x4 x5 0 999 0)) ∧ ((¬ (an 0 (ix (3 + x4))) < x6) → ∀ q13 : Int32, q13 = x5 * x6 → PL_best_6 ap ac aq an post n deadM x4 q13 (x6 + 1))

def PL_best (ap : Mem) (ac : Mem) (aq : Mem) (an : Mem) (p5 : Int32) (post : Int32 → Prop) : Prop :=
  ∃ n14, PL_best_6 ap ac aq an post n14 deadM p5 1 2

def PL_arePeople_408 (kc : Mem) (v : Mem) (b : Mem) (ap : Mem) (ac : Mem) (aq : Mem) (an : Mem) (post : Int32 → Mem → Prop) (y : Mem) (z0 : UInt64) (z1 : UInt64) : Prop :=
  ((¬ (Op.cmpValue (FP.dcmp z1 z0) .l) = 0) → post 0 y) ∧ (((Op.cmpValue (FP.dcmp z1 z0) .l) = 0) → post 1 y)

def PL_arePeople_350 (kc : Mem) (v : Mem) (b : Mem) (ap : Mem) (ac : Mem) (aq : Mem) (an : Mem) (post : Int32 → Mem → Prop) (y : Mem) (x5 : Int32) (x6 : Int32) (x7 : Int32) (x8 : Int32) : Prop :=
  ((x8 = 0) → post 0 y) ∧ ((¬ x8 = 0) → PX7_count_nt kc v b y 2 (fun r9 y11 => ((¬ r9 = x5) → post 0 y11) ∧ ((r9 = x5) → PX7_count_nt kc v b y11 4 (fun r13 y15 => ((¬ r13 = x6) → post 0 y15) ∧ ((r13 = x6) → PX7_count_nt kc v b y15 5 (fun r17 y19 => ((¬ r17 = x7) → post 0 y19) ∧ ((r17 = x7) → PX7_straightShare kc v (fun r21 => ((¬ x5 = 0) → vf_n64 (FP.ddiv (FP.i2d (x5 - x6)) (FP.i2d x5)) ∧ PL_arePeople_408 kc v b ap ac aq an post y19 (FP.ddiv (FP.i2d (x5 - x6)) (FP.i2d x5)) r21) ∧ ((x5 = 0) → PL_arePeople_408 kc v b ap ac aq an post y19 0x3ff0000000000000 r21)))))))))

def PL_arePeople_319 (kc : Mem) (v : Mem) (b : Mem) (ap : Mem) (ac : Mem) (aq : Mem) (an : Mem) (post : Int32 → Mem → Prop) (K31 : Mem → Int32 → Int32 → Int32 → Int32 → Int32 → Prop) (y : Mem) (x5 : Int32) (x7 : Int32) (x8 : Int32) (x9 : Int32) (z0 : Int32) (z1 : Int32) : Prop :=
  ∀ q38 : Int32, q38 = z1 + z0 → PL_couples ac an x9 (fun r39 => ((r39 ≤ 1) → ∀ q42 : Int32, q42 = x7 + 0 → K31 y x5 q38 q42 x8 (x9 + 1)) ∧ ((¬ r39 ≤ 1) → ∀ q43 : Int32, q43 = x7 + 1 → K31 y x5 q38 q43 x8 (x9 + 1))
)
def PL_arePeople_318 (kc : Mem) (v : Mem) (b : Mem) (ap : Mem) (ac : Mem) (aq : Mem) (an : Mem) (post : Int32 → Mem → Prop) (K31 : Mem → Int32 → Int32 → Int32 → Int32 → Int32 → Prop) (y : Mem) (x5 : Int32) (x7 : Int32) (x8 : Int32) (x9 : Int32) (z0 : Int32) : Prop :=
  PL_arePeople_319 kc v b ap ac aq an post K31 y x5 x7 x8 x9 0 z0

def PL_arePeople_284 (kc : Mem) (v : Mem) (b : Mem) (ap : Mem) (ac : Mem) (aq : Mem) (an : Mem) (post : Int32 → Mem → Prop) (K31 : Mem → Int32 → Int32 → Int32 → Int32 → Int32 → Prop) (y : Mem) (x6 : Int32) (x7 : Int32) (x8 : Int32) (x9 : Int32) (x12 : Int32) (z0 : Int32) (z1 : Int32) : Prop :=
  ∀ q36 : Int32, q36 = z1 + z0 → ((x12 < 0) → PL_arePeople_318 kc v b ap ac aq an post K31 y q36 x7 x8 x9 x6) ∧ ((¬ x12 < 0) → PL_middle ap ac aq x12 (fun r44 => PL_place ap aq x9 (fun r46 => ((r44 = (2 * r46)) → PL_arePeople_318 kc v b ap ac aq an post K31 y q36 x7 x8 x9 x6) ∧ ((¬ r44 = (2 * r46)) → PL_arePeople_319 kc v b ap ac aq an post K31 y q36 x7 x8 x9 1 x6))))

def PL_arePeople_270 (kc : Mem) (v : Mem) (b : Mem) (ap : Mem) (ac : Mem) (aq : Mem) (an : Mem) (post : Int32 → Mem → Prop) (K31 : Mem → Int32 → Int32 → Int32 → Int32 → Int32 → Prop) (y : Mem) (x5 : Int32) (x6 : Int32) (x7 : Int32) (x9 : Int32) (x12 : Int32) (z0 : Int32) : Prop :=
  ((x12 < 0) → PL_arePeople_284 kc v b ap ac aq an post K31 y x6 x7 z0 x9 x12 0 x5) ∧ ((¬ x12 < 0) → PL_arePeople_284 kc v b ap ac aq an post K31 y x6 x7 z0 x9 x12 1 x5)

def PL_arePeople_269 (kc : Mem) (v : Mem) (b : Mem) (ap : Mem) (ac : Mem) (aq : Mem) (an : Mem) (post : Int32 → Mem → Prop) (K31 : Mem → Int32 → Int32 → Int32 → Int32 → Int32 → Prop) (y : Mem) (x5 : Int32) (x6 : Int32) (x7 : Int32) (x9 : Int32) (x12 : Int32) : Prop :=
  PL_arePeople_270 kc v b ap ac aq an post K31 y x5 x6 x7 x9 x12 0

def PL_arePeople_64 (kc : Mem) (v : Mem) (b : Mem) (ap : Mem) (ac : Mem) (aq : Mem) (an : Mem) (post : Int32 → Mem → Prop) (K31 : Mem → Int32 → Int32 → Int32 → Int32 → Int32 → Prop) : Nat → Mem → Int32 → Int32 → Int32 → Int32 → Int32 → Int32 → Int32 → Int32 → Prop
  | 0, _, _, _, _, _, _, _, _, _ => False
  | n + 1, y, x5, x6, x7, x9, x10, x11, x12, x13 => vp_in 0 7 ∧ (((an 0 (ix 0)) ≤ x13) → PX7_personOf_nt kc v x9 0 (fun r31 => vp_in (2 * x9) 40 ∧ ((¬ r31 = (ap 0 (ix (2 * x9)))) → PL_arePeople_269 kc v b ap ac aq an post K31 y x5 x6 x7 x9 x12) ∧ ((r31 = (ap 0 (ix (2 * x9)))) → PX7_personOf_nt kc v x9 1 (fun r49 => PL_place ap aq x9 (fun r51 => ((¬ r49 = r51) → PL_arePeople_269 kc v b ap ac aq an post K31 y x5 x6 x7 x9 x12) ∧ ((r49 = r51) → PX7_personOf_nt kc v x9 2 (fun r54 => ((¬ r54 = x12) → PL_arePeople_269 kc v b ap ac aq an post K31 y x5 x6 x7 x9 x12) ∧ ((r54 = x12) → PX7_personOf_nt kc v x9 3 (fun r57 => PL_couples ac an x9 (fun r59 => ((¬ r57 = r59) → PL_arePeople_269 kc v b ap ac aq an post K31 y x5 x6 x7 x9 x12) ∧ ((r57 = r59) → PX7_personOf_nt kc v x9 4 (fun r62 => ((¬ r62 = x11) → PL_arePeople_269 kc v b ap ac aq an post K31 y x5 x6 x7 x9 x12) ∧ ((r62 = x11) → PX7_personOf_nt kc v x9 5 (fun r65 => ((¬ r65 = x10) → PL_arePeople_269 kc v b ap ac aq an post K31 y x5 x6 x7 x9 x12) ∧ ((r65 = x10) → PX7_personOf_nt kc v x9 6 (fun r68 => PL_ancestors ap ac an x9 (fun r70 => PL_ones r70 (fun r72 => ((¬ r68 = r72) → PL_arePeople_269 kc v b ap ac aq an post K31 y x5 x6 x7 x9 x12) ∧ ((r68 = r72) → PL_arePeople_270 kc v b ap ac aq an post K31 y x5 x6 x7 x9 x12 1))))))))))))))))))) ∧ ((¬ (an 0 (ix 0)) ≤ x13) → PL_ancestors ap ac an x13 (fun r75 => ∀ q77 : Int32, q77 = x10 + ((r75 >>> (x9 &&& 31)) &&& 1) → vp_in ((2 * x13) + 1) 40 ∧ (((ap 0 (ix ((2 * x13) + 1))) < 0) → ∀ q80 : Int32, q80 = x11 + 0 → PL_arePeople_64 kc v b ap ac aq an post K31 n y x5 x6 x7 x9 q77 q80 x12 (x13 + 1)) ∧ ((¬ (ap 0 (ix ((2 * x13) + 1))) < 0) → vp_in ((2 * x13) + 1) 40 ∧ vp_in (2 * (ap 0 (ix ((2 * x13) + 1)))) 20 ∧ (((ac 0 (ix (2 * (ap 0 (ix ((2 * x13) + 1)))))) = x9) → ∀ q84 : Int32, q84 = x11 + 1 → PL_arePeople_64 kc v b ap ac aq an post K31 n y x5 x6 x7 x9 q77 q84 x12 (x13 + 1)) ∧ ((¬ (ac 0 (ix (2 * (ap 0 (ix ((2 * x13) + 1)))))) = x9) → vp_in ((2 * x13) + 1) 40 ∧ vp_in ((2 * (ap 0 (ix ((2 * x13) + 1)))) + 1) 20 ∧ ((¬ (ac 0 (ix ((2 * (ap 0 (ix ((2 * x13) + 1)))) + 1))) = x9) → ∀ q88 : Int32, q88 = x11 + 0 → PL_arePeople_64 kc v b ap ac aq an post K31 n y x5 x6 x7 x9 q77 q88 x12 (x13 + 1)) ∧ (((ac 0 (ix ((2 * (ap 0 (ix ((2 * x13) + 1)))) + 1))) = x9) → ∀ q89 : Int32, q89 = x11 + 1 → PL_arePeople_64 kc v b ap ac aq an post K31 n y x5 x6 x7 x9 q77 q89 x12 (x13 + 1))))))

def PL_arePeople_31 (kc : Mem) (v : Mem) (b : Mem) (ap : Mem) (ac : Mem) (aq : Mem) (an : Mem) (post : Int32 → Mem → Prop) : Nat → Mem → Int32 → Int32 → Int32 → Int32 → Int32 → Prop
  | 0, _, _, _, _, _, _ => False
  | n + 1, y, x5, x6, x7, x8, x9 => vp_in 0 7 ∧ (((an 0 (ix 0)) ≤ x9) → PL_arePeople_350 kc v b ap ac aq an post y x5 x6 x7 x8) ∧ ((¬ (an 0 (ix 0)) ≤ x9) → ((x8 = 0) → PL_arePeople_350 kc v b ap ac aq an post y x5 x6 x7 x8) ∧ ((¬ x8 = 0) → vp_in ((2 * x9) + 1) 40 ∧ ∀ q28 : Int32, q28 = ap 0 (ix ((2 * x9) + 1)) → ∃ n90, PL_arePeople_64 kc v b ap ac aq an post (PL_arePeople_31 kc v b ap ac aq an post n) n90 y x5 x6 x7 x9 0 0 q28 0))

def PL_arePeople (kc : Mem) (v : Mem) (b : Mem) (y : Mem) (ap : Mem) (ac : Mem) (aq : Mem) (an : Mem) (post : Int32 → Mem → Prop) : Prop :=
  PX7_count_nt kc v b y 0 (fun r1 y3 => vp_in 0 7 ∧ ((¬ r1 = (an 0 (ix 0))) → ∃ n91, PL_arePeople_31 kc v b ap ac aq an post n91 y3 0 0 0 0 0) ∧ ((r1 = (an 0 (ix 0))) → ∃ n92, PL_arePeople_31 kc v b ap ac aq an post n92 y3 0 0 0 1 0))

def PL_areRows_380 (kc : Mem) (v : Mem) (b : Mem) (ap : Mem) (ac : Mem) (aq : Mem) (an : Mem) (post : Int32 → Mem → Prop) (K273 : Mem → Int32 → Int32 → Int32 → Prop) (K334 : Mem → Int32 → Int32 → Int32 → Int32 → Prop) (y : Mem) (x5 : Int32) (x7 : Int32) (x8 : Int32) (z0 : Int32) (z1 : Int32) : Prop :=
  ((¬ z1 = z0) → K334 y x5 0 x7 (x8 + 1)) ∧ ((z1 = z0) → K334 y x5 1 x7 (x8 + 1))

def PL_areRows_334 (kc : Mem) (v : Mem) (b : Mem) (ap : Mem) (ac : Mem) (aq : Mem) (an : Mem) (post : Int32 → Mem → Prop) (K273 : Mem → Int32 → Int32 → Int32 → Prop) : Nat → Mem → Int32 → Int32 → Int32 → Int32 → Prop
  | 0, _, _, _, _, _ => False
  | n + 1, y, x5, x6, x7, x8 => ((7 ≤ x8) → K273 y x5 x6 (x7 + 1)) ∧ ((¬ 7 ≤ x8) → ((x6 = 0) → PL_areRows_334 kc v b ap ac aq an post K273 n y x5 0 x7 (x8 + 1)) ∧ ((¬ x6 = 0) → PX7_at_nt kc v x7 x8 (fun r17 => vp_in (3 + x7) 7 ∧ (((an 0 (ix (3 + x7))) ≤ x8) → PL_areRows_380 kc v b ap ac aq an post K273 (PL_areRows_334 kc v b ap ac aq an post K273 n) y x5 x7 x8 ((-1)) r17) ∧ ((¬ (an 0 (ix (3 + x7))) ≤ x8) → vp_in ((6 * x7) + x8) 24 ∧ PL_areRows_380 kc v b ap ac aq an post K273 (PL_areRows_334 kc v b ap ac aq an post K273 n) y x5 x7 x8 (aq 0 (ix ((6 * x7) + x8))) r17))))

def PL_areRows_273 (kc : Mem) (v : Mem) (b : Mem) (ap : Mem) (ac : Mem) (aq : Mem) (an : Mem) (post : Int32 → Mem → Prop) : Nat → Mem → Int32 → Int32 → Int32 → Prop
  | 0, _, _, _, _ => False
  | n + 1, y, x5, x6, x7 => ((4 ≤ x7) → ((x6 = 0) → post 0 y) ∧ ((¬ x6 = 0) → PX7_count_nt kc v b y 6 (fun r10 y12 => ((¬ r10 = x5) → post 0 y12) ∧ ((r10 = x5) → post 1 y12)))) ∧ ((¬ 4 ≤ x7) → ((x6 = 0) → ∃ n23, PL_areRows_334 kc v b ap ac aq an post (PL_areRows_273 kc v b ap ac aq an post n) n23 y x5 0 x7 0) ∧ ((¬ x6 = 0) → PX7_crossings_nt kc v y x7 0 (fun r24 y26 => PL_crosses ap ac aq an x7 (fun r27 => ((¬ r24 = r27) → ∃ n30, PL_areRows_334 kc v b ap ac aq an post (PL_areRows_273 kc v b ap ac aq an post n) n30 y26 x5 0 x7 0) ∧ ((r24 = r27) → PX7_crossings_nt kc v y26 x7 1 (fun r31 y33 => PL_crosses ap ac aq an x7 (fun r34 => ((¬ r31 = r34) → ∃ n37, PL_areRows_334 kc v b ap ac aq an post (PL_areRows_273 kc v b ap ac aq an post n) n37 y33 x5 0 x7 0) ∧ ((r31 = r34) → ∃ n38, PL_areRows_334 kc v b ap ac aq an post (PL_areRows_273 kc v b ap ac aq an post n) n38 y33 x5 1 x7 0))))))))

def PL_areRows_247 (kc : Mem) (v : Mem) (b : Mem) (ap : Mem) (ac : Mem) (aq : Mem) (an : Mem) (post : Int32 → Mem → Prop) (K54 : Mem → Int32 → Int32 → Int32 → Prop) (y : Mem) (x5 : Int32) (x7 : Int32) (x9 : Int32) (z0 : Int32) : Prop :=
  ((x9 ≤ 0) → ∀ q57 : Int32, q57 = x5 + 0 → K54 y q57 z0 (x7 + 1)) ∧ ((¬ x9 ≤ 0) → ∀ q58 : Int32, q58 = x5 + 1 → K54 y q58 z0 (x7 + 1))

def PL_areRows_246 (kc : Mem) (v : Mem) (b : Mem) (ap : Mem) (ac : Mem) (aq : Mem) (an : Mem) (post : Int32 → Mem → Prop) (K54 : Mem → Int32 → Int32 → Int32 → Prop) (y : Mem) (x5 : Int32) (x7 : Int32) (x9 : Int32) : Prop :=
  PL_areRows_247 kc v b ap ac aq an post K54 y x5 x7 x9 0

def PL_areRows_74 (kc : Mem) (v : Mem) (b : Mem) (ap : Mem) (ac : Mem) (aq : Mem) (an : Mem) (post : Int32 → Mem → Prop) (K54 : Mem → Int32 → Int32 → Int32 → Prop) : Nat → Mem → Int32 → Int32 → Int32 → Int32 → Prop
  | 0, _, _, _, _, _ => False
  | n + 1, y, x5, x7, x8, x9 => vp_in 0 7 ∧ (((an 0 (ix 0)) ≤ x9) → vp_in (2 * x7) 20 ∧ PL_ancestors ap ac an (ac 0 (ix (2 * x7))) (fun r45 => vp_in ((2 * x7) + 1) 20 ∧ PL_ancestors ap ac an (ac 0 (ix ((2 * x7) + 1))) (fun r48 => PL_ones (r45 &&& r48) (fun r50 => PX7_coupleOf_nt kc v x7 0 (fun r52 => vp_in (2 * x7) 20 ∧ ((¬ r52 = (ac 0 (ix (2 * x7)))) → PL_areRows_246 kc v b ap ac aq an post K54 y x5 x7 r50) ∧ ((r52 = (ac 0 (ix (2 * x7)))) → PX7_coupleOf_nt kc v x7 1 (fun r59 => vp_in ((2 * x7) + 1) 20 ∧ ((¬ r59 = (ac 0 (ix ((2 * x7) + 1)))) → PL_areRows_246 kc v b ap ac aq an post K54 y x5 x7 r50) ∧ ((r59 = (ac 0 (ix ((2 * x7) + 1)))) → PX7_coupleOf_nt kc v x7 2 (fun r63 => vp_in (2 * x7) 20 ∧ vp_in (2 * (ac 0 (ix (2 * x7)))) 40 ∧ ((¬ r63 = (ap 0 (ix (2 * (ac 0 (ix (2 * x7))))))) → PL_areRows_246 kc v b ap ac aq an post K54 y x5 x7 r50) ∧ ((r63 = (ap 0 (ix (2 * (ac 0 (ix (2 * x7))))))) → PX7_coupleOf_nt kc v x7 3 (fun r68 => PL_middle ap ac aq x7 (fun r70 => ((¬ r68 = r70) → PL_areRows_246 kc v b ap ac aq an post K54 y x5 x7 r50) ∧ ((r68 = r70) → PX7_coupleOf_nt kc v x7 4 (fun r73 => ((¬ r73 = x8) → PL_areRows_246 kc v b ap ac aq an post K54 y x5 x7 r50) ∧ ((r73 = x8) → PX7_coupleOf_nt kc v x7 5 (fun r76 => ((¬ r76 = r50) → PL_areRows_246 kc v b ap ac aq an post K54 y x5 x7 r50) ∧ ((r76 = r50) → PL_areRows_247 kc v b ap ac aq an post K54 y x5 x7 r50 1))))))))))))))))) ∧ ((¬ (an 0 (ix 0)) ≤ x9) → vp_in ((2 * x9) + 1) 40 ∧ ((¬ (ap 0 (ix ((2 * x9) + 1))) = x7) → ∀ q81 : Int32, q81 = x8 + 0 → PL_areRows_74 kc v b ap ac aq an post K54 n y x5 x7 q81 (x9 + 1)) ∧ (((ap 0 (ix ((2 * x9) + 1))) = x7) → ∀ q82 : Int32, q82 = x8 + 1 → PL_areRows_74 kc v b ap ac aq an post K54 n y x5 x7 q82 (x9 + 1)))

def PL_areRows_54 (kc : Mem) (v : Mem) (b : Mem) (ap : Mem) (ac : Mem) (aq : Mem) (an : Mem) (post : Int32 → Mem → Prop) : Nat → Mem → Int32 → Int32 → Int32 → Prop
  | 0, _, _, _, _ => False
  | n + 1, y, x5, x6, x7 => vp_in 1 7 ∧ (((an 0 (ix 1)) ≤ x7) → ∃ n39, PL_areRows_273 kc v b ap ac aq an post n39 y x5 x6 0) ∧ ((¬ (an 0 (ix 1)) ≤ x7) → ((x6 = 0) → ∃ n41, PL_areRows_273 kc v b ap ac aq an post n41 y x5 x6 0) ∧ ((¬ x6 = 0) → ∃ n83, PL_areRows_74 kc v b ap ac aq an post (PL_areRows_54 kc v b ap ac aq an post n) n83 y x5 x7 0 0))

def PL_areRows (kc : Mem) (v : Mem) (b : Mem) (y : Mem) (ap : Mem) (ac : Mem) (aq : Mem) (an : Mem) (post : Int32 → Mem → Prop) : Prop :=
  PX7_count_nt kc v b y 1 (fun r1 y3 => vp_in 1 7 ∧ ((¬ r1 = (an 0 (ix 1))) → ∃ n84, PL_areRows_54 kc v b ap ac aq an post n84 y3 0 0 0) ∧ ((r1 = (an 0 (ix 1))) → PX7_count_nt kc v b y3 7 (fun r85 y87 => vp_in 2 7 ∧ ((¬ r85 = (an 0 (ix 2))) → ∃ n90, PL_areRows_54 kc v b ap ac aq an post n90 y87 0 0 0) ∧ ((r85 = (an 0 (ix 2))) → PX7_count_nt kc v b y87 3 (fun r91 y93 => PL_all ap ac aq an (fun r94 => ((¬ r91 = r94) → ∃ n97, PL_areRows_54 kc v b ap ac aq an post n97 y93 0 0 0) ∧ ((r91 = r94) → ∃ n98, PL_areRows_54 kc v b ap ac aq an post n98 y93 0 1 0)))))))

def PL_isLeast_379 (kc : Mem) (ap : Mem) (ac : Mem) (aq : Mem) (an : Mem) (post : Int32 → Mem → Mem → Mem → Prop) (K252 : Mem → Mem → Mem → Mem → Int32 → Int32 → Int32 → Prop) (v : Mem) (y : Mem) (x : Mem) (ar : Mem) (x11 : Int32) (x12 : Int32) (x13 : Int32) (x15 : Int32) : Prop :=
  ((x11 = 0) → K252 v y x ar 0 x12 (x13 + 1)) ∧ ((¬ x11 = 0) → PX7_nearness_nt kc v x12 x13 (fun r31 => ((¬ r31 = x15) → K252 v y x ar 0 x12 (x13 + 1)) ∧ ((r31 = x15) → PX7_nearness_nt kc v x13 x12 (fun r34 => ((¬ r34 = x15) → K252 v y x ar 0 x12 (x13 + 1)) ∧ ((r34 = x15) → K252 v y x ar 1 x12 (x13 + 1))))))

def PL_isLeast_311 (kc : Mem) (ap : Mem) (ac : Mem) (aq : Mem) (an : Mem) (post : Int32 → Mem → Mem → Mem → Prop) (K252 : Mem → Mem → Mem → Mem → Int32 → Int32 → Int32 → Prop) (K298 : Mem → Mem → Mem → Mem → Int32 → Int32 → Int32 → Int32 → Int32 → Int32 → Prop) : Nat → Mem → Mem → Mem → Mem → Int32 → Int32 → Int32 → Int32 → Int32 → Int32 → Int32 → Prop
  | 0, _, _, _, _, _, _, _, _, _, _, _ => False
  | n + 1, v, y, x, ar, x11, x12, x13, x14, x15, x16, x17 => vp_in 0 7 ∧ (((an 0 (ix 0)) ≤ x17) → K298 v y x ar x11 x12 x13 x14 x15 (x16 + (-1))) ∧ ((¬ (an 0 (ix 0)) ≤ x17) → vp_in (2 * x17) 40 ∧ ((¬ (ap 0 (ix (2 * x17))) = x16) → PL_isLeast_311 kc ap ac aq an post K252 K298 n v y x ar x11 x12 x13 x14 x15 x16 (x17 + 1)) ∧ (((ap 0 (ix (2 * x17))) = x16) → ((¬ ((x14 >>> (x17 &&& 31)) &&& 1) = 1) → PL_isLeast_311 kc ap ac aq an post K252 K298 n v y x ar x11 x12 x13 x14 x15 x16 (x17 + 1)) ∧ ((((x14 >>> (x17 &&& 31)) &&& 1) = 1) → vp_in (2 * x12) 40 ∧ vp_in (2 * x13) 40 ∧ ∀ q45 : Int32, q45 = ((ap 0 (ix (2 * x12))) + (ap 0 (ix (2 * x13)))) - (2 * x16) → PL_isLeast_311 kc ap ac aq an post K252 K298 n v y x ar x11 x12 x13 x14 q45 x16 (x17 + 1))))

def PL_isLeast_298 (kc : Mem) (ap : Mem) (ac : Mem) (aq : Mem) (an : Mem) (post : Int32 → Mem → Mem → Mem → Prop) (K252 : Mem → Mem → Mem → Mem → Int32 → Int32 → Int32 → Prop) : Nat → Mem → Mem → Mem → Mem → Int32 → Int32 → Int32 → Int32 → Int32 → Int32 → Prop
  | 0, _, _, _, _, _, _, _, _, _, _ => False
  | n + 1, v, y, x, ar, x11, x12, x13, x14, x15, x16 => ((x16 < 0) → PL_isLeast_379 kc ap ac aq an post K252 v y x ar x11 x12 x13 x15) ∧ ((¬ x16 < 0) → ((0 ≤ x15) → PL_isLeast_379 kc ap ac aq an post K252 v y x ar x11 x12 x13 x15) ∧ ((¬ 0 ≤ x15) → ∃ n46, PL_isLeast_311 kc ap ac aq an post K252 (PL_isLeast_298 kc ap ac aq an post K252 n) n46 v y x ar x11 x12 x13 x14 x15 x16 0))

def PL_isLeast_252 (kc : Mem) (ap : Mem) (ac : Mem) (aq : Mem) (an : Mem) (post : Int32 → Mem → Mem → Mem → Prop) : Nat → Mem → Mem → Mem → Mem → Int32 → Int32 → Int32 → Prop
  | 0, _, _, _, _, _, _, _ => False
  | n + 1, v, y, x, ar, x11, x12, x13 => vp_in 0 7 ∧ (((an 0 (ix 0)) ≤ x13) → isB x11 ∧ post x11 v y x) ∧ ((¬ (an 0 (ix 0)) ≤ x13) → PL_ancestors ap ac an x12 (fun r24 => PL_ancestors ap ac an x13 (fun r26 => ∀ q28 : Int32, q28 = (r24 ||| (1 <<< (x12 &&& 31))) &&& (r26 ||| (1 <<< (x13 &&& 31))) → ∃ n47, PL_isLeast_298 kc ap ac aq an post (PL_isLeast_252 kc ap ac aq an post n) n47 v y x ar x11 x12 x13 q28 ((-1)) 3)))

def PL_isLeast_236 (kc : Mem) (ap : Mem) (ac : Mem) (aq : Mem) (an : Mem) (post : Int32 → Mem → Mem → Mem → Prop) (v : Mem) (y : Mem) (x : Mem) (ar : Mem) (x6 : Int32) (z0 : Int32) : Prop :=
  vp_in 0 7 ∧ PL_low x6 (an 0 (ix 0)) (fun r19 => ∃ n48, PL_isLeast_252 kc ap ac aq an post n48 v y x ar z0 r19 0
)
def PL_isLeast_235 (kc : Mem) (ap : Mem) (ac : Mem) (aq : Mem) (an : Mem) (post : Int32 → Mem → Mem → Mem → Prop) (v : Mem) (y : Mem) (x : Mem) (ar : Mem) (x6 : Int32) : Prop :=
  PL_isLeast_236 kc ap ac aq an post v y x ar x6 0

def PL_isLeast_168 (kc : Mem) (ap : Mem) (ac : Mem) (aq : Mem) (an : Mem) (post : Int32 → Mem → Mem → Mem → Prop) (K66 : Mem → Mem → Mem → Mem → Int32 → Int32 → Int32 → Int32 → Int32 → Int32 → Prop) (v : Mem) (y : Mem) (x : Mem) (ar : Mem) (x5 : Int32) (x6 : Int32) (x8 : Int32) (x10 : Int32) (x11 : Int32) (z0 : Int32) : Prop :=
  vp_in x11 24 ∧ vp_in x11 24 ∧ ∀ ar72 : Mem, ar72 = mset ar 0 (ix x11) (aq 0 (ix x11)) → vp_in (x11 + 1) 24 ∧ vp_in (x11 + 1) 24 ∧ ∀ ar75 : Mem, ar75 = mset ar72 0 (ix (x11 + 1)) (aq 0 (ix (x11 + 1))) → K66 v y x ar75 x5 x6 x8 z0 x10 (x11 + 1)

def PL_isLeast_152 (kc : Mem) (ap : Mem) (ac : Mem) (aq : Mem) (an : Mem) (post : Int32 → Mem → Mem → Mem → Prop) (K66 : Mem → Mem → Mem → Mem → Int32 → Int32 → Int32 → Int32 → Int32 → Int32 → Prop) (v : Mem) (y : Mem) (x : Mem) (ar : Mem) (x5 : Int32) (x6 : Int32) (x8 : Int32) (x9 : Int32) (x11 : Int32) (x12 : Int32) (z0 : Int32) : Prop :=
  ((x9 ≤ x12) → PL_isLeast_168 kc ap ac aq an post K66 v y x ar x5 x6 x8 z0 x11 x9) ∧ ((¬ x9 ≤ x12) → PL_isLeast_168 kc ap ac aq an post K66 v y x ar x5 x6 x8 z0 x11 x12)

def PL_isLeast_66 (kc : Mem) (ap : Mem) (ac : Mem) (aq : Mem) (an : Mem) (post : Int32 → Mem → Mem → Mem → Prop) : Nat → Mem → Mem → Mem → Mem → Int32 → Int32 → Int32 → Int32 → Int32 → Int32 → Prop
  | 0, _, _, _, _, _, _, _, _, _, _ => False
  | n + 1, v, y, x, ar, x5, x6, x8, x9, x10, x11 => ((24 ≤ x11) → PX7_least_nt kc v x x5 0 (fun r14 x16 => ((¬ r14 = x8) → PL_isLeast_235 kc ap ac aq an post v y x16 ar x6) ∧ ((r14 = x8) → PX7_least_nt kc v x16 x5 1 (fun r49 x51 => ((¬ r49 = x8) → PL_isLeast_235 kc ap ac aq an post v y x51 ar x6) ∧ ((r49 = x8) → PX7_bestSwap kc v y (fun r53 v55 y56 => ((¬ r53 = x10) → PL_isLeast_235 kc ap ac aq an post v55 y56 x51 ar x6) ∧ ((r53 = x10) → PL_isLeast_236 kc ap ac aq an post v55 y56 x51 ar x6 1))))))) ∧ ((¬ 24 ≤ x11) → vp_in (3 + (x11 / 6)) 7 ∧ (((an 0 (ix (3 + (x11 / 6)))) ≤ ((x11 - x11 / 6 * 6) + 1)) → PL_isLeast_66 kc ap ac aq an post n v y x ar x5 x6 x8 x9 x10 (x11 + 1)) ∧ ((¬ (an 0 (ix (3 + (x11 / 6)))) ≤ ((x11 - x11 / 6 * 6) + 1)) → vp_in (x11 + 1) 24 ∧ vp_in x11 24 ∧ ∀ ar62 : Mem, ar62 = mset ar 0 (ix x11) (aq 0 (ix (x11 + 1))) → vp_in x11 24 ∧ vp_in (x11 + 1) 24 ∧ ∀ ar65 : Mem, ar65 = mset ar62 0 (ix (x11 + 1)) (aq 0 (ix x11)) → PL_all ap ac ar65 an (fun r66 => ((x9 ≤ r66) → PL_isLeast_152 kc ap ac aq an post (PL_isLeast_66 kc ap ac aq an post n) v y x ar65 x5 x6 x8 x9 x11 r66 x10) ∧ ((¬ x9 ≤ r66) → PL_isLeast_152 kc ap ac aq an post (PL_isLeast_66 kc ap ac aq an post n) v y x ar65 x5 x6 x8 x9 x11 r66 ((10 * (x11 / 6)) + (x11 - x11 / 6 * 6))))))

def PL_isLeast (kc : Mem) (v : Mem) (y : Mem) (x : Mem) (ap : Mem) (ac : Mem) (aq : Mem) (an : Mem) (p6 : Int32) (p7 : Int32) (post : Int32 → Mem → Mem → Mem → Prop) : Prop :=
  PL_copy aq freshM (fun ar2 => PL_best ap ac aq an p6 (fun r3 => PL_lays ar2 an p6 r3 (fun ar6 => PL_ofTwo ap ac ar6 an p6 (fun r7 => PL_all ap ac aq an (fun r9 => PL_copy aq ar6 (fun ar12 => ∃ n76, PL_isLeast_66 kc ap ac aq an post n76 v y x ar12 p6 p7 r7 r9 ((-1)) 0))))))

def PL_comes_18 (post : Int32 → Mem → Mem → Mem → Prop) (ap : Mem) (aq : Mem) (an : Mem) : Prop :=
  vp_in 2 7 ∧ vp_in 2 7 ∧ ∀ an5 : Mem, an5 = mset an 0 (ix 2) ((an 0 (ix 2)) + 1) → post ((-1)) ap aq an5

def PL_comes (ap : Mem) (aq : Mem) (an : Mem) (p4 : Int32) (p5 : Int32) (post : Int32 → Mem → Mem → Mem → Prop) : Prop :=
  vp_in (3 + p4) 7 ∧ (((an 0 (ix (3 + p4))) = 6) → PL_comes_18 post ap aq an) ∧ ((¬ (an 0 (ix (3 + p4))) = 6) → vp_in 0 7 ∧ ((¬ (an 0 (ix 0)) = 20) → vp_in 0 7 ∧ vp_in (2 * (an 0 (ix 0))) 40 ∧ ∀ ap10 : Mem, ap10 = mset ap 0 (ix (2 * (an 0 (ix 0)))) p4 → vp_in 0 7 ∧ vp_in ((2 * (an 0 (ix 0))) + 1) 40 ∧ ∀ ap13 : Mem, ap13 = mset ap10 0 (ix ((2 * (an 0 (ix 0))) + 1)) p5 → vp_in (3 + p4) 7 ∧ vp_in 0 7 ∧ vp_in ((6 * p4) + (an 0 (ix (3 + p4)))) 24 ∧ ∀ aq17 : Mem, aq17 = mset aq 0 (ix ((6 * p4) + (an 0 (ix (3 + p4))))) (an 0 (ix 0)) → vp_in (3 + p4) 7 ∧ vp_in (3 + p4) 7 ∧ ∀ an20 : Mem, an20 = mset an 0 (ix (3 + p4)) ((an 0 (ix (3 + p4))) + 1) → vp_in 0 7 ∧ vp_in 0 7 ∧ ∀ an23 : Mem, an23 = mset an20 0 (ix 0) ((an20 0 (ix 0)) + 1) → vp_in 0 7 ∧ post ((an23 0 (ix 0)) - 1) ap13 aq17 an23) ∧ (((an 0 (ix 0)) = 20) → PL_comes_18 post ap aq an))

def PL_marries_156 (ap : Mem) (post : Int32 → Mem → Mem → Prop) (ac : Mem) (an : Mem) (x5 : Int32) (x6 : Int32) (z0 : Int32) : Prop :=
  ((z0 ≤ 0) → vp_in 1 7 ∧ vp_in (2 * (an 0 (ix 1))) 20 ∧ ∀ ac13 : Mem, ac13 = mset ac 0 (ix (2 * (an 0 (ix 1)))) x5 → vp_in 1 7 ∧ vp_in ((2 * (an 0 (ix 1))) + 1) 20 ∧ ∀ ac16 : Mem, ac16 = mset ac13 0 (ix ((2 * (an 0 (ix 1))) + 1)) x6 → vp_in 1 7 ∧ vp_in 1 7 ∧ ∀ an19 : Mem, an19 = mset an 0 (ix 1) ((an 0 (ix 1)) + 1) → vp_in 1 7 ∧ post ((an19 0 (ix 1)) + 9) ac16 an19) ∧ ((¬ z0 ≤ 0) → vp_in 2 7 ∧ vp_in 2 7 ∧ ∀ an23 : Mem, an23 = mset an 0 (ix 2) ((an 0 (ix 2)) + 1) → post z0 ac an23)

def PL_marries_116 (ap : Mem) (post : Int32 → Mem → Mem → Prop) (ac : Mem) (an : Mem) (x5 : Int32) (x6 : Int32) : Prop :=
  PL_marries_156 ap post ac an x5 x6 2

def PL_marries_151 (ap : Mem) (post : Int32 → Mem → Mem → Prop) (ac : Mem) (an : Mem) (x5 : Int32) (x6 : Int32) : Prop :=
  PL_marries_156 ap post ac an x5 x6 4

def PL_marries_29 (ap : Mem) (post : Int32 → Mem → Mem → Prop) : Nat → Mem → Mem → Int32 → Int32 → Int32 → Int32 → Prop
  | 0, _, _, _, _, _, _ => False
  | n + 1, ac, an, x5, x6, x7, x8 => vp_in 1 7 ∧ (((an 0 (ix 1)) ≤ x8) → vp_in 1 7 ∧ ((¬ (an 0 (ix 1)) = 10) → vp_in (2 * x5) 40 ∧ vp_in (2 * x6) 40 ∧ ((¬ (ap 0 (ix (2 * x5))) = (ap 0 (ix (2 * x6)))) → PL_marries_116 ap post ac an x5 x6) ∧ (((ap 0 (ix (2 * x5))) = (ap 0 (ix (2 * x6)))) → vp_in (2 * x5) 40 ∧ ((¬ (ap 0 (ix (2 * x5))) = 3) → ((x7 = 0) → PL_couples ac an x5 (fun r27 => ((1 < r27) → PL_marries_151 ap post ac an x5 x6) ∧ ((¬ 1 < r27) → PL_couples ac an x6 (fun r30 => ((r30 ≤ 1) → PL_marries_156 ap post ac an x5 x6 0) ∧ ((¬ r30 ≤ 1) → PL_marries_151 ap post ac an x5 x6))))) ∧ ((¬ x7 = 0) → PL_marries_156 ap post ac an x5 x6 3)) ∧ (((ap 0 (ix (2 * x5))) = 3) → PL_marries_116 ap post ac an x5 x6))) ∧ (((an 0 (ix 1)) = 10) → PL_marries_156 ap post ac an x5 x6 1)) ∧ ((¬ (an 0 (ix 1)) ≤ x8) → ((¬ x7 = 0) → PL_marries_29 ap post n ac an x5 x6 1 (x8 + 1)) ∧ ((x7 = 0) → vp_in (2 * x8) 20 ∧ ((¬ (ac 0 (ix (2 * x8))) = x5) → PL_marries_29 ap post n ac an x5 x6 0 (x8 + 1)) ∧ (((ac 0 (ix (2 * x8))) = x5) → vp_in ((2 * x8) + 1) 20 ∧ ((¬ (ac 0 (ix ((2 * x8) + 1))) = x6) → PL_marries_29 ap post n ac an x5 x6 0 (x8 + 1)) ∧ (((ac 0 (ix ((2 * x8) + 1))) = x6) → PL_marries_29 ap post n ac an x5 x6 1 (x8 + 1)))))

def PL_marries_12 (ap : Mem) (post : Int32 → Mem → Mem → Prop) (ac : Mem) (an : Mem) (x3 : Int32) (x4 : Int32) (z0 : Int32) : Prop :=
  ∀ q2 : Int32, q2 = (x3 + x4) - z0 → ∃ n38, PL_marries_29 ap post n38 ac an z0 q2 0 0

def PL_marries (ap : Mem) (ac : Mem) (an : Mem) (p4 : Int32) (p5 : Int32) (post : Int32 → Mem → Mem → Prop) : Prop :=
  ((p5 ≤ p4) → PL_marries_12 ap post ac an p4 p5 p5) ∧ ((¬ p5 ≤ p4) → PL_marries_12 ap post ac an p4 p5 p4)

def PL_acts_197 (kc : Mem) (post : Int32 → Mem → Mem → (Nat → Mem) → Mem → Mem → Mem → Mem → Mem → Mem → Mem → Prop) (v : Mem) (b : Mem) (r : Nat → Mem) (y : Mem) (o : Mem) (x : Mem) (ap : Mem) (ac : Mem) (aq : Mem) (an : Mem) (ar : Mem) (z0 : Int32) : Prop :=
  vp_in 1 7 ∧ (((an 0 (ix 1)) = 0) → post 1 v b r y o x ap ac aq an) ∧ ((¬ (an 0 (ix 1)) = 0) → PX7_child_nt kc v b r z0 (fun r117 v119 b120 r121 => vp_in (2 * z0) 20 ∧ vp_in (2 * (ac 0 (ix (2 * z0)))) 40 ∧ PL_comes ap aq an ((ap 0 (ix (2 * (ac 0 (ix (2 * z0)))))) + 1) z0 (fun r124 ap126 aq127 an128 => ((¬ r117 = r124) → post 0 v119 b120 r121 y o x ap126 ac aq127 an128) ∧ ((r117 = r124) → post 1 v119 b120 r121 y o x ap126 ac aq127 an128))))

def PL_acts_495 (kc : Mem) (post : Int32 → Mem → Mem → (Nat → Mem) → Mem → Mem → Mem → Mem → Mem → Mem → Mem → Prop) (K383 : Mem → Mem → (Nat → Mem) → Mem → Mem → Mem → Mem → Mem → Mem → Mem → Mem → Int32 → Int32 → Int32 → Int32 → Prop) (K404 : Mem → Mem → (Nat → Mem) → Mem → Mem → Mem → Mem → Mem → Mem → Mem → Mem → Int32 → Int32 → Int32 → Int32 → Int32 → Int32 → Int32 → Prop) (v : Mem) (b : Mem) (r : Nat → Mem) (y : Mem) (o : Mem) (x : Mem) (ap : Mem) (ac : Mem) (aq : Mem) (an : Mem) (ar : Mem) (x7 : Int32) (x15 : Int32) (x16 : Int32) (x17 : Int32) (x19 : Int32) (x20 : Int32) (x22 : Int32) (x23 : Int32) (z0 : Int32) : Prop :=
  ((x23 = 0) → K404 v b r y o x ap ac aq an ar x7 x15 x16 x17 z0 x19 (x20 + 1)) ∧ ((¬ x23 = 0) → K404 v b r y o x ap ac aq an ar x7 x15 x16 x17 z0 x22 (x20 + 1))

def PL_acts_481 (kc : Mem) (post : Int32 → Mem → Mem → (Nat → Mem) → Mem → Mem → Mem → Mem → Mem → Mem → Mem → Prop) (K383 : Mem → Mem → (Nat → Mem) → Mem → Mem → Mem → Mem → Mem → Mem → Mem → Mem → Int32 → Int32 → Int32 → Int32 → Prop) (K404 : Mem → Mem → (Nat → Mem) → Mem → Mem → Mem → Mem → Mem → Mem → Mem → Mem → Int32 → Int32 → Int32 → Int32 → Int32 → Int32 → Int32 → Prop) (v : Mem) (b : Mem) (r : Nat → Mem) (y : Mem) (o : Mem) (x : Mem) (ap : Mem) (ac : Mem) (aq : Mem) (an : Mem) (ar : Mem) (x7 : Int32) (x15 : Int32) (x16 : Int32) (x17 : Int32) (x18 : Int32) (x19 : Int32) (x20 : Int32) (x22 : Int32) (z0 : Int32) : Prop :=
  ((z0 = 0) → PL_acts_495 kc post K383 K404 v b r y o x ap ac aq an ar x7 x15 x16 x17 x19 x20 x22 z0 x18) ∧ ((¬ z0 = 0) → PL_acts_495 kc post K383 K404 v b r y o x ap ac aq an ar x7 x15 x16 x17 x19 x20 x22 z0 x20)

def PL_acts_480 (kc : Mem) (post : Int32 → Mem → Mem → (Nat → Mem) → Mem → Mem → Mem → Mem → Mem → Mem → Mem → Prop) (K383 : Mem → Mem → (Nat → Mem) → Mem → Mem → Mem → Mem → Mem → Mem → Mem → Mem → Int32 → Int32 → Int32 → Int32 → Prop) (K404 : Mem → Mem → (Nat → Mem) → Mem → Mem → Mem → Mem → Mem → Mem → Mem → Mem → Int32 → Int32 → Int32 → Int32 → Int32 → Int32 → Int32 → Prop) (v : Mem) (b : Mem) (r : Nat → Mem) (y : Mem) (o : Mem) (x : Mem) (ap : Mem) (ac : Mem) (aq : Mem) (an : Mem) (ar : Mem) (x7 : Int32) (x15 : Int32) (x16 : Int32) (x17 : Int32) (x18 : Int32) (x19 : Int32) (x20 : Int32) (x22 : Int32) : Prop :=
  PL_acts_481 kc post K383 K404 v b r y o x ap ac aq an ar x7 x15 x16 x17 x18 x19 x20 x22 0

def PL_acts_476 (kc : Mem) (post : Int32 → Mem → Mem → (Nat → Mem) → Mem → Mem → Mem → Mem → Mem → Mem → Mem → Prop) (K383 : Mem → Mem → (Nat → Mem) → Mem → Mem → Mem → Mem → Mem → Mem → Mem → Mem → Int32 → Int32 → Int32 → Int32 → Prop) (K404 : Mem → Mem → (Nat → Mem) → Mem → Mem → Mem → Mem → Mem → Mem → Mem → Mem → Int32 → Int32 → Int32 → Int32 → Int32 → Int32 → Int32 → Prop) (v : Mem) (b : Mem) (r : Nat → Mem) (y : Mem) (o : Mem) (x : Mem) (ap : Mem) (ac : Mem) (aq : Mem) (an : Mem) (ar : Mem) (x7 : Int32) (x15 : Int32) (x16 : Int32) (x17 : Int32) (x18 : Int32) (x19 : Int32) (x20 : Int32) (x22 : Int32) : Prop :=
  PL_acts_481 kc post K383 K404 v b r y o x ap ac aq an ar x7 x15 x16 x17 x18 x19 x20 x22 1

def PL_acts_452 (kc : Mem) (post : Int32 → Mem → Mem → (Nat → Mem) → Mem → Mem → Mem → Mem → Mem → Mem → Mem → Prop) (K383 : Mem → Mem → (Nat → Mem) → Mem → Mem → Mem → Mem → Mem → Mem → Mem → Mem → Int32 → Int32 → Int32 → Int32 → Prop) (K404 : Mem → Mem → (Nat → Mem) → Mem → Mem → Mem → Mem → Mem → Mem → Mem → Mem → Int32 → Int32 → Int32 → Int32 → Int32 → Int32 → Int32 → Prop) (v : Mem) (b : Mem) (r : Nat → Mem) (y : Mem) (o : Mem) (x : Mem) (ap : Mem) (ac : Mem) (aq : Mem) (an : Mem) (ar : Mem) (x7 : Int32) (x15 : Int32) (x16 : Int32) (x17 : Int32) (x18 : Int32) (x19 : Int32) (x20 : Int32) (z0 : Int32) : Prop :=
  ((¬ ((x16 >>> (x20 &&& 31)) &&& 1) = 0) → PL_acts_480 kc post K383 K404 v b r y o x ap ac aq an ar x7 x15 x16 x17 x18 x19 x20 z0) ∧ ((((x16 >>> (x20 &&& 31)) &&& 1) = 0) → ((x18 < 0) → PL_acts_476 kc post K383 K404 v b r y o x ap ac aq an ar x7 x15 x16 x17 x18 x19 x20 z0) ∧ ((¬ x18 < 0) → ((x19 ≤ z0) → PL_acts_480 kc post K383 K404 v b r y o x ap ac aq an ar x7 x15 x16 x17 x18 x19 x20 z0) ∧ ((¬ x19 ≤ z0) → PL_acts_476 kc post K383 K404 v b r y o x ap ac aq an ar x7 x15 x16 x17 x18 x19 x20 z0)))

def PL_acts_404 (kc : Mem) (post : Int32 → Mem → Mem → (Nat → Mem) → Mem → Mem → Mem → Mem → Mem → Mem → Mem → Prop) (K383 : Mem → Mem → (Nat → Mem) → Mem → Mem → Mem → Mem → Mem → Mem → Mem → Mem → Int32 → Int32 → Int32 → Int32 → Prop) : Nat → Mem → Mem → (Nat → Mem) → Mem → Mem → Mem → Mem → Mem → Mem → Mem → Mem → Int32 → Int32 → Int32 → Int32 → Int32 → Int32 → Int32 → Prop
  | 0, _, _, _, _, _, _, _, _, _, _, _, _, _, _, _, _, _, _ => False
  | n + 1, v, b, r, y, o, x, ap, ac, aq, an, ar, x7, x15, x16, x17, x18, x19, x20 => vp_in (3 + x7) 7 ∧ (((an 0 (ix (3 + x7))) ≤ x20) → ∀ q220 : Int32, q220 = x16 ||| (1 <<< (x18 &&& 31)) → vp_in ((6 * x7) + x18) 24 ∧ vp_in ((6 * x7) + x17) 24 ∧ ∀ ar223 : Mem, ar223 = mset ar 0 (ix ((6 * x7) + x17)) (aq 0 (ix ((6 * x7) + x18))) → ((¬ x18 = x17) → ∀ q225 : Int32, q225 = x15 + 1 → K383 v b r y o x ap ac aq an ar223 x7 q225 q220 (x17 + 1)) ∧ ((x18 = x17) → ∀ q226 : Int32, q226 = x15 + 0 → K383 v b r y o x ap ac aq an ar223 x7 q226 q220 (x17 + 1))) ∧ ((¬ (an 0 (ix (3 + x7))) ≤ x20) → vp_in ((6 * x7) + x20) 24 ∧ vp_in ((2 * (aq 0 (ix ((6 * x7) + x20)))) + 1) 40 ∧ ∀ q229 : Int32, q229 = ap 0 (ix ((2 * (aq 0 (ix ((6 * x7) + x20)))) + 1)) → ((0 ≤ q229) → PL_middle ap ac aq q229 (fun r231 => PL_acts_452 kc post K383 (PL_acts_404 kc post K383 n) v b r y o x ap ac aq an ar x7 x15 x16 x17 x18 x19 x20 r231)) ∧ ((¬ 0 ≤ q229) → PL_acts_452 kc post K383 (PL_acts_404 kc post K383 n) v b r y o x ap ac aq an ar x7 x15 x16 x17 x18 x19 x20 99))

def PL_acts_383 (kc : Mem) (post : Int32 → Mem → Mem → (Nat → Mem) → Mem → Mem → Mem → Mem → Mem → Mem → Mem → Prop) : Nat → Mem → Mem → (Nat → Mem) → Mem → Mem → Mem → Mem → Mem → Mem → Mem → Mem → Int32 → Int32 → Int32 → Int32 → Prop
  | 0, _, _, _, _, _, _, _, _, _, _, _, _, _, _, _ => False
  | n + 1, v, b, r, y, o, x, ap, ac, aq, an, ar, x7, x15, x16, x17 => vp_in (3 + x7) 7 ∧ (((an 0 (ix (3 + x7))) ≤ x17) → PL_copy ar aq (fun aq210 => PX7_byParents_nt kc v b r o x7 (fun r211 v213 b214 r215 o216 => ((¬ r211 = x15) → post 0 v213 b214 r215 y o216 x ap ac aq210 an) ∧ ((r211 = x15) → post 1 v213 b214 r215 y o216 x ap ac aq210 an)))) ∧ ((¬ (an 0 (ix (3 + x7))) ≤ x17) → ∃ n238, PL_acts_404 kc post (PL_acts_383 kc post n) n238 v b r y o x ap ac aq an ar x7 x15 x16 x17 ((-1)) 0 0)

def PL_acts_22 (kc : Mem) (post : Int32 → Mem → Mem → (Nat → Mem) → Mem → Mem → Mem → Mem → Mem → Mem → Mem → Prop) (v : Mem) (b : Mem) (r : Nat → Mem) (y : Mem) (o : Mem) (x : Mem) (ap : Mem) (ac : Mem) (aq : Mem) (an : Mem) (ar : Mem) (x6 : Int32) (x7 : Int32) (z0 : Int32) : Prop :=
  (z0 = 0 → PX7_person_nt kc v b r x7 (fun r6 v8 b9 r10 => PL_comes ap aq an x7 ((-1)) (fun r11 ap13 aq14 an15 => ((¬ r6 = r11) → post 0 v8 b9 r10 y o x ap13 ac aq14 an15) ∧ ((r6 = r11) → post 1 v8 b9 r10 y o x ap13 ac aq14 an15)))) ∧ (¬ z0 = 0 → (z0 = 1 → PX7_person_nt kc v b r x7 (fun r18 v20 b21 r22 => PL_comes ap aq an x7 ((-1)) (fun r23 ap25 aq26 an27 => ((¬ r18 = r23) → post 0 v20 b21 r22 y o x ap25 ac aq26 an27) ∧ ((r18 = r23) → post 1 v20 b21 r22 y o x ap25 ac aq26 an27)))) ∧ (¬ z0 = 1 → (z0 = 2 → vp_in 0 7 ∧ PL_low x6 (an 0 (ix 0)) (fun r31 => vp_in 0 7 ∧ PL_low (x6 >>> (5 &&& 31)) ((an 0 (ix 0)) - 1) (fun r34 => vp_in 0 7 ∧ (¬ (an 0 (ix 0)) = 0) ∧ ∀ q38 : Int32, q38 = ((r31 + 1) + r34) - ((r31 + 1) + r34) / (an 0 (ix 0)) * (an 0 (ix 0)) → PX7_marry_nt kc v b r r31 q38 (fun r39 v41 b42 r43 => PL_marries ap ac an r31 q38 (fun r44 ac46 an47 => ((¬ r39 = r44) → post 0 v41 b42 r43 y o x ap ac46 aq an47) ∧ ((r39 = r44) → post 1 v41 b42 r43 y o x ap ac46 aq an47)))))) ∧ (¬ z0 = 2 → (z0 = 3 → vp_in 0 7 ∧ PL_low x6 (an 0 (ix 0)) (fun r51 => vp_in 0 7 ∧ PL_low (x6 >>> (5 &&& 31)) ((an 0 (ix 0)) - 1) (fun r54 => vp_in 0 7 ∧ (¬ (an 0 (ix 0)) = 0) ∧ ∀ q58 : Int32, q58 = ((r51 + 1) + r54) - ((r51 + 1) + r54) / (an 0 (ix 0)) * (an 0 (ix 0)) → PX7_marry_nt kc v b r r51 q58 (fun r59 v61 b62 r63 => PL_marries ap ac an r51 q58 (fun r64 ac66 an67 => ((¬ r59 = r64) → post 0 v61 b62 r63 y o x ap ac66 aq an67) ∧ ((r59 = r64) → post 1 v61 b62 r63 y o x ap ac66 aq an67)))))) ∧ (¬ z0 = 3 → (z0 = 4 → vp_in 0 7 ∧ PL_low x6 (an 0 (ix 0)) (fun r71 => vp_in 0 7 ∧ PL_low (x6 >>> (5 &&& 31)) ((an 0 (ix 0)) - 1) (fun r74 => vp_in 0 7 ∧ (¬ (an 0 (ix 0)) = 0) ∧ ∀ q78 : Int32, q78 = ((r71 + 1) + r74) - ((r71 + 1) + r74) / (an 0 (ix 0)) * (an 0 (ix 0)) → PX7_marry_nt kc v b r r71 q78 (fun r79 v81 b82 r83 => PL_marries ap ac an r71 q78 (fun r84 ac86 an87 => ((¬ r79 = r84) → post 0 v81 b82 r83 y o x ap ac86 aq an87) ∧ ((r79 = r84) → post 1 v81 b82 r83 y o x ap ac86 aq an87)))))) ∧ (¬ z0 = 4 → (z0 = 5 → vp_in 0 7 ∧ PL_low x6 (an 0 (ix 0)) (fun r91 => vp_in 0 7 ∧ PL_low (x6 >>> (5 &&& 31)) ((an 0 (ix 0)) - 1) (fun r94 => vp_in 0 7 ∧ (¬ (an 0 (ix 0)) = 0) ∧ ∀ q98 : Int32, q98 = ((r91 + 1) + r94) - ((r91 + 1) + r94) / (an 0 (ix 0)) * (an 0 (ix 0)) → PX7_marry_nt kc v b r r91 q98 (fun r99 v101 b102 r103 => PL_marries ap ac an r91 q98 (fun r104 ac106 an107 => ((¬ r99 = r104) → post 0 v101 b102 r103 y o x ap ac106 aq an107) ∧ ((r99 = r104) → post 1 v101 b102 r103 y o x ap ac106 aq an107)))))) ∧ (¬ z0 = 5 → (z0 = 6 → vp_in 1 7 ∧ ((¬ (an 0 (ix 1)) = 0) → vp_in 1 7 ∧ PL_low x6 (an 0 (ix 1)) (fun r113 => PL_acts_197 kc post v b r y o x ap ac aq an deadM r113)) ∧ (((an 0 (ix 1)) = 0) → PL_acts_197 kc post v b r y o x ap ac aq an deadM 0)) ∧ (¬ z0 = 6 → (z0 = 7 → vp_in 1 7 ∧ ((¬ (an 0 (ix 1)) = 0) → vp_in 1 7 ∧ PL_low x6 (an 0 (ix 1)) (fun r134 => PL_acts_197 kc post v b r y o x ap ac aq an deadM r134)) ∧ (((an 0 (ix 1)) = 0) → PL_acts_197 kc post v b r y o x ap ac aq an deadM 0)) ∧ (¬ z0 = 7 → (z0 = 8 → vp_in 1 7 ∧ ((¬ (an 0 (ix 1)) = 0) → vp_in 1 7 ∧ PL_low x6 (an 0 (ix 1)) (fun r140 => PL_acts_197 kc post v b r y o x ap ac aq an deadM r140)) ∧ (((an 0 (ix 1)) = 0) → PL_acts_197 kc post v b r y o x ap ac aq an deadM 0)) ∧ (¬ z0 = 8 → (z0 = 9 → vp_in 1 7 ∧ ((¬ (an 0 (ix 1)) = 0) → vp_in 1 7 ∧ PL_low x6 (an 0 (ix 1)) (fun r146 => PL_acts_197 kc post v b r y o x ap ac aq an deadM r146)) ∧ (((an 0 (ix 1)) = 0) → PL_acts_197 kc post v b r y o x ap ac aq an deadM 0)) ∧ (¬ z0 = 9 → (z0 = 10 → vp_in (3 + x7) 7 ∧ ((2 ≤ (an 0 (ix (3 + x7)))) → vp_in (3 + x7) 7 ∧ PL_low (x6 >>> (2 &&& 31)) ((an 0 (ix (3 + x7))) - 1) (fun r152 => ∀ q154 : Int32, q154 = (6 * x7) + r152 → PL_all ap ac aq an (fun r155 => vp_in q154 24 ∧ ∀ q158 : Int32, q158 = aq 0 (ix q154) → vp_in (q154 + 1) 24 ∧ vp_in q154 24 ∧ ∀ aq161 : Mem, aq161 = mset aq 0 (ix q154) (aq 0 (ix (q154 + 1))) → vp_in (q154 + 1) 24 ∧ ∀ aq163 : Mem, aq163 = mset aq161 0 (ix (q154 + 1)) q158 → PX7_swap_nt kc v b r y x7 (q154 - q154 / 6 * 6) (fun r164 v166 b167 r168 y169 => PL_all ap ac aq163 an (fun r170 => ((¬ r164 = ((r170 - r155) + 100)) → post 0 v166 b167 r168 y169 o x ap ac aq163 an) ∧ ((r164 = ((r170 - r155) + 100)) → post 1 v166 b167 r168 y169 o x ap ac aq163 an)))))) ∧ ((¬ 2 ≤ (an 0 (ix (3 + x7)))) → PX7_at_nt kc v x7 1 (fun r173 => ((¬ r173 = ((-1))) → post 0 v b r y o x ap ac aq an) ∧ ((r173 = ((-1))) → post 1 v b r y o x ap ac aq an)))) ∧ (¬ z0 = 10 → (z0 = 11 → vp_in (3 + x7) 7 ∧ ((2 ≤ (an 0 (ix (3 + x7)))) → vp_in (3 + x7) 7 ∧ PL_low (x6 >>> (2 &&& 31)) ((an 0 (ix (3 + x7))) - 1) (fun r180 => ∀ q182 : Int32, q182 = (6 * x7) + r180 → PL_all ap ac aq an (fun r183 => vp_in q182 24 ∧ ∀ q186 : Int32, q186 = aq 0 (ix q182) → vp_in (q182 + 1) 24 ∧ vp_in q182 24 ∧ ∀ aq189 : Mem, aq189 = mset aq 0 (ix q182) (aq 0 (ix (q182 + 1))) → vp_in (q182 + 1) 24 ∧ ∀ aq191 : Mem, aq191 = mset aq189 0 (ix (q182 + 1)) q186 → PX7_swap_nt kc v b r y x7 (q182 - q182 / 6 * 6) (fun r192 v194 b195 r196 y197 => PL_all ap ac aq191 an (fun r198 => ((¬ r192 = ((r198 - r183) + 100)) → post 0 v194 b195 r196 y197 o x ap ac aq191 an) ∧ ((r192 = ((r198 - r183) + 100)) → post 1 v194 b195 r196 y197 o x ap ac aq191 an)))))) ∧ ((¬ 2 ≤ (an 0 (ix (3 + x7)))) → PX7_at_nt kc v x7 1 (fun r201 => ((¬ r201 = ((-1))) → post 0 v b r y o x ap ac aq an) ∧ ((r201 = ((-1))) → post 1 v b r y o x ap ac aq an)))) ∧ (¬ z0 = 11 → (z0 = 12 → PL_copy aq freshM (fun ar206 => ∃ n239, PL_acts_383 kc post n239 v b r y o x ap ac aq an ar206 x7 0 0 0)) ∧ (¬ z0 = 12 → PL_best ap ac aq an x7 (fun r240 => PL_lays aq an x7 r240 (fun aq243 => PX7_untangle_nt kc v b r x x7 (fun r244 v246 b247 r248 x249 => PL_ofTwo ap ac aq243 an x7 (fun r250 => ((¬ r244 = r250) → post 0 v246 b247 r248 y o x249 ap ac aq243 an) ∧ ((r244 = r250) → post 1 v246 b247 r248 y o x249 ap ac aq243 an))))))))))))))))))

def PL_acts (kc : Mem) (v : Mem) (b : Mem) (r : Nat → Mem) (y : Mem) (o : Mem) (x : Mem) (ap : Mem) (ac : Mem) (aq : Mem) (an : Mem) (p6 : Int32) (p7 : Int32) (post : Int32 → Mem → Mem → (Nat → Mem) → Mem → Mem → Mem → Mem → Mem → Mem → Mem → Prop) : Prop :=
  PL_low p7 4 (fun r1 => vp_in 0 7 ∧ ((2 ≤ (an 0 (ix 0))) → PL_acts_22 kc post v b r y o x ap ac aq an deadM p7 r1 p6) ∧ ((¬ 2 ≤ (an 0 (ix 0))) → PL_acts_22 kc post v b r y o x ap ac aq an deadM p7 r1 0))
