/-! What each method needs of memory and arguments to come to its end with post, by program out of its bytecode. -/
def PX5_isPerson (v : Mem) (p1 : Int32) (post : Int32 → Prop) : Prop :=
  ((p1 < 0) → post 0) ∧ ((¬ p1 < 0) → (((v 7 0) ≤ p1) → post 0) ∧ ((¬ (v 7 0) ≤ p1) → post 1))

def PX5_parentsOf (v : Mem) (p1 : Int32) (post : Int32 → Prop) : Prop :=
  PX5_isPerson v p1 (fun r1 => ((r1 = 0) → post ((-1))) ∧ ((¬ r1 = 0) → vp_in p1 20 ∧ post (v 2 (ix p1))))

def PX5_isCouple (v : Mem) (p1 : Int32) (post : Int32 → Prop) : Prop :=
  ((p1 < 0) → post 0) ∧ ((¬ p1 < 0) → (((v 8 0) ≤ p1) → post 0) ∧ ((¬ (v 8 0) ≤ p1) → post 1))

def PX5_lesserOf (v : Mem) (p1 : Int32) (post : Int32 → Prop) : Prop :=
  PX5_isCouple v p1 (fun r1 => ((r1 = 0) → post ((-1))) ∧ ((¬ r1 = 0) → vp_in p1 10 ∧ post (v 3 (ix p1))))

def PX5_greaterOf (v : Mem) (p1 : Int32) (post : Int32 → Prop) : Prop :=
  PX5_isCouple v p1 (fun r1 => ((r1 = 0) → post ((-1))) ∧ ((¬ r1 = 0) → vp_in p1 10 ∧ post (v 4 (ix p1))))

def PX0_parentBits (v : Mem) (p2 : Int32) (post : Int32 → Prop) : Prop :=
  PX5_parentsOf v p2 (fun r1 => ((¬ r1 = ((-1))) → PX5_lesserOf v r1 (fun r4 => PX5_greaterOf v r1 (fun r6 => post ((1 <<< (r4 &&& 31)) ||| (1 <<< (r6 &&& 31)))))) ∧ ((r1 = ((-1))) → post 0))

def PX0_ancestors_10 (v : Mem) (post : Int32 → Prop) : Nat → Int32 → Int32 → Prop
  | 0, _, _ => False
  | n + 1, x2, x3 => ((x3 < 0) → post x2) ∧ ((¬ x3 < 0) → (((x2 &&& (1 <<< (x3 &&& 31))) = 0) → PX0_ancestors_10 v post n x2 (x3 + (-1))) ∧ ((¬ (x2 &&& (1 <<< (x3 &&& 31))) = 0) → PX0_parentBits v x3 (fun r6 => ∀ q8 : Int32, q8 = x2 ||| r6 → PX0_ancestors_10 v post n q8 (x3 + (-1)))))

def PX0_ancestors (v : Mem) (p2 : Int32) (post : Int32 → Prop) : Prop :=
  PX0_parentBits v p2 (fun r1 => ∀ q3 : Int32, q3 = p2 - 1 → ∃ n9, PX0_ancestors_10 v post n9 r1 q3)

def PX5_people (v : Mem) (post : Int32 → Prop) : Prop :=
  post (v 7 0)

def PX0_descendants_8 (v : Mem) (post : Int32 → Prop) : Nat → Int32 → Int32 → Int32 → Prop
  | 0, _, _, _ => False
  | n + 1, x1, x2, x3 => PX5_people v (fun r3 => ((r3 ≤ x3) → post (x2 &&& ((1 <<< (x1 &&& 31)) ^^^ ((-1))))) ∧ ((¬ r3 ≤ x3) → PX0_parentBits v x3 (fun r6 => (((r6 &&& x2) = 0) → PX0_descendants_8 v post n x1 x2 (x3 + 1)) ∧ ((¬ (r6 &&& x2) = 0) → ∀ q9 : Int32, q9 = x2 ||| (1 <<< (x3 &&& 31)) → PX0_descendants_8 v post n x1 q9 (x3 + 1))))
)
def PX0_descendants (v : Mem) (p2 : Int32) (post : Int32 → Prop) : Prop :=
  ∀ q1 : Int32, q1 = 1 <<< (p2 &&& 31) → ∀ q2 : Int32, q2 = p2 + 1 → ∃ n10, PX0_descendants_8 v post n10 p2 q1 q2

def PX0_commonAncestors (v : Mem) (p2 : Int32) (post : Int32 → Prop) : Prop :=
  PX5_lesserOf v p2 (fun r1 => PX0_ancestors v r1 (fun r3 => PX5_greaterOf v p2 (fun r5 => PX0_ancestors v r5 (fun r7 => post (r3 &&& r7)))))

def PX5_couples (v : Mem) (post : Int32 → Prop) : Prop :=
  post (v 8 0)

def PX0_kinCouples_4 (v : Mem) (post : Int32 → Prop) : Nat → Int32 → Int32 → Prop
  | 0, _, _ => False
  | n + 1, x1, x2 => PX5_couples v (fun r1 => ((r1 ≤ x2) → post x1) ∧ ((¬ r1 ≤ x2) → PX0_commonAncestors v x2 (fun r4 => ((r4 = 0) → PX0_kinCouples_4 v post n x1 (x2 + 1)) ∧ ((¬ r4 = 0) → PX0_kinCouples_4 v post n (x1 + 1) (x2 + 1))))
)
def PX0_kinCouples (v : Mem) (post : Int32 → Prop) : Prop :=
  ∃ n7, PX0_kinCouples_4 v post n7 0 0

def PX5_rowOf (v : Mem) (p1 : Int32) (post : Int32 → Prop) : Prop :=
  PX5_isPerson v p1 (fun r1 => ((r1 = 0) → post ((-1))) ∧ ((¬ r1 = 0) → vp_in p1 20 ∧ post (v 0 (ix p1))))

def PX0_fewestLines_26 (v : Mem) (post : Int32 → Prop) : Nat → Int32 → Int32 → Int32 → Int32 → Int32 → Prop
  | 0, _, _, _, _, _ => False
  | n + 1, x1, x2, x3, x4, x5 => PX5_people v (fun r6 => ((r6 ≤ x5) → post x4) ∧ ((¬ r6 ≤ x5) → (((x3 &&& (1 <<< (x5 &&& 31))) = 0) → PX0_fewestLines_26 v post n x1 x2 x3 x4 (x5 + 1)) ∧ ((¬ (x3 &&& (1 <<< (x5 &&& 31))) = 0) → PX5_rowOf v x1 (fun r10 => PX5_rowOf v x2 (fun r12 => PX5_rowOf v x5 (fun r14 => ∀ q16 : Int32, q16 = (r10 + r12) - (2 * r14) → ((x4 = ((-1))) → PX0_fewestLines_26 v post n x1 x2 x3 q16 (x5 + 1)) ∧ ((¬ x4 = ((-1))) → ((x4 ≤ q16) → PX0_fewestLines_26 v post n x1 x2 x3 x4 (x5 + 1)) ∧ ((¬ x4 ≤ q16) → PX0_fewestLines_26 v post n x1 x2 x3 q16 (x5 + 1))))))))
)
def PX0_fewestLines (v : Mem) (p2 : Int32) (p3 : Int32) (post : Int32 → Prop) : Prop :=
  PX0_ancestors v p2 (fun r1 => PX0_ancestors v p3 (fun r3 => ∀ q5 : Int32, q5 = (r1 ||| (1 <<< (p2 &&& 31))) &&& (r3 ||| (1 <<< (p3 &&& 31))) → ∃ n19, PX0_fewestLines_26 v post n19 p2 p3 q5 ((-1)) 0))

def PX5_sizeOf (v : Mem) (p1 : Int32) (post : Int32 → Prop) : Prop :=
  ((p1 < 0) → post 0) ∧ ((¬ p1 < 0) → ((4 ≤ p1) → post 0) ∧ ((¬ 4 ≤ p1) → vp_in p1 4 ∧ post (v 6 (ix p1))))

def PX5_personAt (v : Mem) (p1 : Int32) (p2 : Int32) (post : Int32 → Prop) : Prop :=
  ((p2 < 0) → post ((-1))) ∧ ((¬ p2 < 0) → PX5_sizeOf v p1 (fun r2 => ((r2 ≤ p2) → post ((-1))) ∧ ((¬ r2 ≤ p2) → vp_in ((p1 * 6) + p2) 24 ∧ post (v 5 (ix ((p1 * 6) + p2))))))

def PX5_placeOf (v : Mem) (p1 : Int32) (post : Int32 → Prop) : Prop :=
  PX5_isPerson v p1 (fun r1 => ((r1 = 0) → post ((-1))) ∧ ((¬ r1 = 0) → vp_in p1 20 ∧ post (v 1 (ix p1))))

def PX5_middleOf (v : Mem) (p1 : Int32) (post : Int32 → Prop) : Prop :=
  PX5_isCouple v p1 (fun r1 => ((r1 = 0) → post ((-1))) ∧ ((¬ r1 = 0) → vp_in p1 10 ∧ PX5_placeOf v (v 3 (ix p1)) (fun r5 => vp_in p1 10 ∧ PX5_placeOf v (v 4 (ix p1)) (fun r8 => post (r5 + r8)))))

def PX5_middleAbove (v : Mem) (p1 : Int32) (post : Int32 → Prop) : Prop :=
  PX5_parentsOf v p1 (fun r1 => PX5_middleOf v r1 (fun r3 => post r3))

def PX1_placeByKey_5 (o : Mem) (post : Int32 → Prop) : Nat → Int32 → Int32 → Int32 → Int32 → Prop
  | 0, _, _, _, _ => False
  | n + 1, x1, x2, x3, x4 => ((x2 ≤ x4) → post x3) ∧ ((¬ x2 ≤ x4) → vp_in x4 6 ∧ vp_in x1 6 ∧ (((o 0 (ix x4)) < (o 0 (ix x1))) → PX1_placeByKey_5 o post n x1 x2 (x3 + 1) (x4 + 1)) ∧ ((¬ (o 0 (ix x4)) < (o 0 (ix x1))) → vp_in x4 6 ∧ vp_in x1 6 ∧ ((¬ (o 0 (ix x4)) = (o 0 (ix x1))) → PX1_placeByKey_5 o post n x1 x2 x3 (x4 + 1)) ∧ (((o 0 (ix x4)) = (o 0 (ix x1))) → ((x1 ≤ x4) → PX1_placeByKey_5 o post n x1 x2 x3 (x4 + 1)) ∧ ((¬ x1 ≤ x4) → PX1_placeByKey_5 o post n x1 x2 (x3 + 1) (x4 + 1)))))

def PX1_placeByKey (o : Mem) (p1 : Int32) (p2 : Int32) (post : Int32 → Prop) : Prop :=
  ∃ n9, PX1_placeByKey_5 o post n9 p1 p2 0 0

def PX5_lay (v : Mem) (p1 : Int32) (p2 : Int32) (p3 : Int32) (post : Mem → Prop) : Prop :=
  PX5_isPerson v p3 (fun r1 => ((r1 = 0) → post v) ∧ ((¬ r1 = 0) → ((p2 < 0) → post v) ∧ ((¬ p2 < 0) → PX5_sizeOf v p1 (fun r5 => ((r5 ≤ p2) → post v) ∧ ((¬ r5 ≤ p2) → vp_in ((p1 * 6) + p2) 24 ∧ ∀ v9 : Mem, v9 = mset v 5 (ix ((p1 * 6) + p2)) p3 → vp_in p3 20 ∧ ∀ v11 : Mem, v11 = mset v9 1 (ix p3) p2 → post v11)))))

def PX1_lay_114 (post : Int32 → Mem → Mem → Prop) : Nat → Mem → Mem → Int32 → Int32 → Int32 → Int32 → Prop
  | 0, _, _, _, _, _, _ => False
  | n + 1, o, v, x2, x3, x4, x5 => ((x3 ≤ x5) → post x4 o v) ∧ ((¬ x3 ≤ x5) → vp_in x5 6 ∧ PX5_lay v x2 x5 (o 1 (ix x5)) (fun v9 => PX1_lay_114 post n o v9 x2 x3 x4 (x5 + 1)))

def PX1_lay_66 (post : Int32 → Mem → Mem → Prop) : Nat → Mem → Mem → Int32 → Int32 → Int32 → Int32 → Prop
  | 0, _, _, _, _, _, _ => False
  | n + 1, o, v, x2, x3, x4, x5 => ((x3 ≤ x5) → ∃ n10, PX1_lay_114 post n10 o v x2 x3 x4 0) ∧ ((¬ x3 ≤ x5) → PX1_placeByKey o x5 x3 (fun r11 => PX5_personAt v x2 x5 (fun r13 => vp_in r11 6 ∧ ∀ o16 : Mem, o16 = mset o 1 (ix r11) r13 → ((r11 = x5) → PX1_lay_66 post n o16 v x2 x3 x4 (x5 + 1)) ∧ ((¬ r11 = x5) → PX1_lay_66 post n o16 v x2 x3 (x4 + 1) (x5 + 1)))))

def PX1_lay_53 (post : Int32 → Mem → Mem → Prop) (K14 : Mem → Mem → Int32 → Int32 → Int32 → Prop) (o : Mem) (v : Mem) (x2 : Int32) (x3 : Int32) (x4 : Int32) (z0 : Int32) (z1 : Int32) : Prop :=
  vp_in z1 6 ∧ ∀ o25 : Mem, o25 = mset o 0 (ix z1) z0 → K14 o25 v x2 x3 (x4 + 1)

def PX1_lay_14 (post : Int32 → Mem → Mem → Prop) : Nat → Mem → Mem → Int32 → Int32 → Int32 → Prop
  | 0, _, _, _, _, _ => False
  | n + 1, o, v, x2, x3, x4 => ((x3 ≤ x4) → ∃ n18, PX1_lay_66 post n18 o v x2 x3 0 0) ∧ ((¬ x3 ≤ x4) → PX5_personAt v x2 x4 (fun r19 => PX5_middleAbove v r19 (fun r21 => ((¬ r21 = ((-1))) → PX1_lay_53 post (PX1_lay_14 post n) o v x2 x3 x4 r21 x4) ∧ ((r21 = ((-1))) → PX1_lay_53 post (PX1_lay_14 post n) o v x2 x3 x4 1000 x4))))

def PX1_lay (o : Mem) (v : Mem) (p2 : Int32) (post : Int32 → Mem → Mem → Prop) : Prop :=
  PX5_sizeOf v p2 (fun r1 => ∀ q3 : Int32, q3 = (if 6 < r1 then 6 else r1) → ∃ n26, PX1_lay_14 post n26 o v p2 q3 0)

def PX2_collect_7 (v : Mem) (post : Mem → Prop) : Nat → Mem → Int32 → Int32 → Prop
  | 0, _, _, _ => False
  | n + 1, y, x2, x3 => PX5_sizeOf v x2 (fun r2 => ((r2 ≤ x3) → post y) ∧ ((¬ r2 ≤ x3) → ((6 ≤ x3) → post y) ∧ ((¬ 6 ≤ x3) → PX5_personAt v x2 x3 (fun r6 => PX5_middleAbove v r6 (fun r8 => ((r8 = ((-1))) → PX2_collect_7 v post n y x2 (x3 + 1)) ∧ ((¬ r8 = ((-1))) → vp_in (y 2 0) 6 ∧ ∀ y12 : Mem, y12 = mset y 0 (ix (y 2 0)) r8 → vp_in (y12 2 0) 6 ∧ ∀ y14 : Mem, y14 = mset y12 1 (ix (y12 2 0)) x3 → ∀ y15 : Mem, y15 = mset y14 2 0 ((y14 2 0) + 1) → PX2_collect_7 v post n y15 x2 (x3 + 1))))))
)
def PX2_collect (y : Mem) (v : Mem) (p2 : Int32) (post : Mem → Prop) : Prop :=
  ∀ y1 : Mem, y1 = mset y 2 0 0 → ∃ n16, PX2_collect_7 v post n16 y1 p2 0

def PX2_crossedPairs_16 (y : Mem) (post : Int32 → Prop) (K4 : Int32 → Int32 → Prop) : Nat → Int32 → Int32 → Int32 → Prop
  | 0, _, _, _ => False
  | n + 1, x1, x2, x3 => (((y 2 0) ≤ x3) → K4 x1 (x2 + 1)) ∧ ((¬ (y 2 0) ≤ x3) → vp_in x3 6 ∧ vp_in x2 6 ∧ (((y 0 (ix x2)) ≤ (y 0 (ix x3))) → PX2_crossedPairs_16 y post K4 n x1 x2 (x3 + 1)) ∧ ((¬ (y 0 (ix x2)) ≤ (y 0 (ix x3))) → PX2_crossedPairs_16 y post K4 n (x1 + 1) x2 (x3 + 1)))

def PX2_crossedPairs_4 (y : Mem) (post : Int32 → Prop) : Nat → Int32 → Int32 → Prop
  | 0, _, _ => False
  | n + 1, x1, x2 => (((y 2 0) ≤ x2) → post x1) ∧ ((¬ (y 2 0) ≤ x2) → ∀ q2 : Int32, q2 = x2 + 1 → ∃ n7, PX2_crossedPairs_16 y post (PX2_crossedPairs_4 y post n) n7 x1 x2 q2)

def PX2_crossedPairs (y : Mem) (post : Int32 → Prop) : Prop :=
  ∃ n8, PX2_crossedPairs_4 y post n8 0 0

def PX2_sortByMiddles_83 (post : Mem → Prop) (K2 : Mem → Int32 → Prop) (y : Mem) (x1 : Int32) (x2 : Int32) (x3 : Int32) (x4 : Int32) : Prop :=
  vp_in x4 6 ∧ ∀ y8 : Mem, y8 = mset y 0 (ix x4) x2 → vp_in x4 6 ∧ ∀ y10 : Mem, y10 = mset y8 1 (ix x4) x3 → K2 y10 (x1 + 1)

def PX2_sortByMiddles_27 (post : Mem → Prop) (K2 : Mem → Int32 → Prop) : Nat → Mem → Int32 → Int32 → Int32 → Int32 → Prop
  | 0, _, _, _, _, _ => False
  | n + 1, y, x1, x2, x3, x4 => ((x4 ≤ 0) → PX2_sortByMiddles_83 post K2 y x1 x2 x3 x4) ∧ ((¬ x4 ≤ 0) → vp_in (x4 - 1) 6 ∧ (((y 0 (ix (x4 - 1))) ≤ x2) → PX2_sortByMiddles_83 post K2 y x1 x2 x3 x4) ∧ ((¬ (y 0 (ix (x4 - 1))) ≤ x2) → vp_in (x4 - 1) 6 ∧ vp_in x4 6 ∧ ∀ y15 : Mem, y15 = mset y 0 (ix x4) (y 0 (ix (x4 - 1))) → vp_in (x4 - 1) 6 ∧ vp_in x4 6 ∧ ∀ y18 : Mem, y18 = mset y15 1 (ix x4) (y15 1 (ix (x4 - 1))) → PX2_sortByMiddles_27 post K2 n y18 x1 x2 x3 (x4 + (-1))))

def PX2_sortByMiddles_2 (post : Mem → Prop) : Nat → Mem → Int32 → Prop
  | 0, _, _ => False
  | n + 1, y, x1 => (((y 2 0) ≤ x1) → post y) ∧ ((¬ (y 2 0) ≤ x1) → vp_in x1 6 ∧ ∀ q3 : Int32, q3 = y 0 (ix x1) → vp_in x1 6 ∧ ∀ q5 : Int32, q5 = y 1 (ix x1) → ∃ n19, PX2_sortByMiddles_27 post (PX2_sortByMiddles_2 post n) n19 y x1 q3 q5 x1)

def PX2_sortByMiddles (y : Mem) (post : Mem → Prop) : Prop :=
  ∃ n20, PX2_sortByMiddles_2 post n20 y 1

def PX2_crossedOneByOne_18 (post : Int32 → Mem → Prop) (K8 : Mem → Int32 → Int32 → Prop) : Nat → Mem → Int32 → Int32 → Int32 → Prop
  | 0, _, _, _, _ => False
  | n + 1, y, x1, x2, x3 => ((x2 ≤ x3) → K8 y x1 (x2 + 1)) ∧ ((¬ x2 ≤ x3) → vp_in x3 6 ∧ vp_in x2 6 ∧ (((y 0 (ix x2)) ≤ (y 0 (ix x3))) → PX2_crossedOneByOne_18 post K8 n y x1 x2 (x3 + 1)) ∧ ((¬ (y 0 (ix x2)) ≤ (y 0 (ix x3))) → vp_in x3 6 ∧ vp_in x2 6 ∧ (((y 1 (ix x3)) ≤ (y 1 (ix x2))) → PX2_crossedOneByOne_18 post K8 n y x1 x2 (x3 + 1)) ∧ ((¬ (y 1 (ix x3)) ≤ (y 1 (ix x2))) → PX2_crossedOneByOne_18 post K8 n y (x1 + 1) x2 (x3 + 1))))

def PX2_crossedOneByOne_8 (post : Int32 → Mem → Prop) : Nat → Mem → Int32 → Int32 → Prop
  | 0, _, _, _ => False
  | n + 1, y, x1, x2 => (((y 2 0) ≤ x2) → post x1 y) ∧ ((¬ (y 2 0) ≤ x2) → ∃ n11, PX2_crossedOneByOne_18 post (PX2_crossedOneByOne_8 post n) n11 y x1 x2 0)

def PX2_crossedOneByOne (y : Mem) (post : Int32 → Mem → Prop) : Prop :=
  PX2_sortByMiddles y (fun y2 => ∃ n12, PX2_crossedOneByOne_8 post n12 y2 0 0)

def PX3_listPeople_7 (v : Mem) (post : Mem → Prop) : Nat → Mem → Int32 → Int32 → Prop
  | 0, _, _, _ => False
  | n + 1, x, x2, x3 => PX5_people v (fun r2 => ((r2 ≤ x3) → post x) ∧ ((¬ r2 ≤ x3) → ((6 ≤ (x 10 0)) → post x) ∧ ((¬ 6 ≤ (x 10 0)) → PX5_rowOf v x3 (fun r6 => ((¬ r6 = x2) → PX3_listPeople_7 v post n x x2 (x3 + 1)) ∧ ((r6 = x2) → vp_in (x 10 0) 6 ∧ ∀ x10 : Mem, x10 = mset x 0 (ix (x 10 0)) x3 → ∀ x11 : Mem, x11 = mset x10 10 0 ((x10 10 0) + 1) → PX3_listPeople_7 v post n x11 x2 (x3 + 1)))))
)
def PX3_listPeople (x : Mem) (v : Mem) (p2 : Int32) (post : Mem → Prop) : Prop :=
  ∀ x1 : Mem, x1 = mset x 10 0 0 → ∃ n12, PX3_listPeople_7 v post n12 x1 p2 0

def PX3_noteLinesTo_76 (v : Mem) (post : Mem → Prop) (K2 : Mem → Int32 → Prop) (x : Mem) (x2 : Int32) (x4 : Int32) : Prop :=
  vp_in x2 6 ∧ vp_in (x 0 (ix x2)) 20 ∧ ∀ x8 : Mem, x8 = mset x 3 (ix (x 0 (ix x2))) x4 → K2 x8 (x2 + 1)

def PX3_noteLinesTo_27 (v : Mem) (post : Mem → Prop) (K2 : Mem → Int32 → Prop) : Nat → Mem → Int32 → Int32 → Int32 → Int32 → Prop
  | 0, _, _, _, _, _ => False
  | n + 1, x, x2, x3, x4, x5 => (((x 10 0) ≤ x5) → PX3_noteLinesTo_76 v post K2 x x2 x4) ∧ ((¬ (x 10 0) ≤ x5) → ((x3 = ((-1))) → PX3_noteLinesTo_76 v post K2 x x2 x4) ∧ ((¬ x3 = ((-1))) → vp_in x5 6 ∧ PX5_middleAbove v (x 0 (ix x5)) (fun r11 => ((r11 ≤ x3) → PX3_noteLinesTo_27 v post K2 n x x2 x3 x4 (x5 + 1)) ∧ ((¬ r11 ≤ x3) → vp_in x5 6 ∧ ∀ q15 : Int32, q15 = x4 ||| (1 <<< ((x 0 (ix x5)) &&& 31)) → PX3_noteLinesTo_27 v post K2 n x x2 x3 q15 (x5 + 1)))))

def PX3_noteLinesTo_2 (v : Mem) (post : Mem → Prop) : Nat → Mem → Int32 → Prop
  | 0, _, _ => False
  | n + 1, x, x2 => (((x 10 0) ≤ x2) → post x) ∧ ((¬ (x 10 0) ≤ x2) → vp_in x2 6 ∧ PX5_middleAbove v (x 0 (ix x2)) (fun r3 => ∃ n16, PX3_noteLinesTo_27 v post (PX3_noteLinesTo_2 v post n) n16 x x2 r3 0 0))

def PX3_noteLinesTo (x : Mem) (v : Mem) (post : Mem → Prop) : Prop :=
  ∃ n17, PX3_noteLinesTo_2 v post n17 x 0

def PX3_indexOfCouple_2 (v : Mem) (post : Int32 → Mem → Prop) : Nat → Mem → Int32 → Int32 → Prop
  | 0, _, _, _ => False
  | n + 1, x, x2, x3 => (((x 11 0) ≤ x3) → (((x 11 0) < 6) → ∀ q3 : Int32, q3 = x 11 0 → ∀ x4 : Mem, x4 = mset x 11 0 ((x 11 0) + 1) → vp_in q3 6 ∧ ∀ x6 : Mem, x6 = mset x4 4 (ix q3) x2 → PX5_lesserOf v x2 (fun r7 => vp_in q3 6 ∧ ∀ x10 : Mem, x10 = mset x6 5 (ix q3) r7 → PX5_greaterOf v x2 (fun r11 => vp_in q3 6 ∧ ∀ x14 : Mem, x14 = mset x10 6 (ix q3) r11 → post q3 x14))) ∧ ((¬ (x 11 0) < 6) → post ((-1)) x)) ∧ ((¬ (x 11 0) ≤ x3) → vp_in x3 6 ∧ ((¬ (x 4 (ix x3)) = x2) → PX3_indexOfCouple_2 v post n x x2 (x3 + 1)) ∧ (((x 4 (ix x3)) = x2) → post x3 x))

def PX3_indexOfCouple (x : Mem) (v : Mem) (p2 : Int32) (post : Int32 → Mem → Prop) : Prop :=
  ∃ n17, PX3_indexOfCouple_2 v post n17 x p2 0

def PX3_listCouples_56 (v : Mem) (post : Mem → Prop) (K7 : Mem → Int32 → Int32 → Prop) (x : Mem) (x2 : Int32) (x3 : Int32) (z0 : Int32) (z1 : Int32) : Prop :=
  vp_in z1 6 ∧ ∀ x15 : Mem, x15 = mset x 8 (ix z1) z0 → K7 x15 x2 (x3 + 1)

def PX3_listCouples_7 (v : Mem) (post : Mem → Prop) : Nat → Mem → Int32 → Int32 → Prop
  | 0, _, _, _ => False
  | n + 1, x, x2, x3 => PX5_sizeOf v x2 (fun r2 => ((r2 ≤ x3) → post x) ∧ ((¬ r2 ≤ x3) → ((6 ≤ x3) → post x) ∧ ((¬ 6 ≤ x3) → PX5_personAt v x2 x3 (fun r6 => PX5_parentsOf v r6 (fun r8 => ((¬ r8 = ((-1))) → PX3_indexOfCouple x v r8 (fun r11 x13 => PX3_listCouples_56 v post (PX3_listCouples_7 v post n) x13 x2 x3 r11 x3)) ∧ ((r8 = ((-1))) → PX3_listCouples_56 v post (PX3_listCouples_7 v post n) x x2 x3 ((-1)) x3)))))
)
def PX3_listCouples (x : Mem) (v : Mem) (p2 : Int32) (post : Mem → Prop) : Prop :=
  ∀ x1 : Mem, x1 = mset x 11 0 0 → ∃ n16, PX3_listCouples_7 v post n16 x1 p2 0

def PX3_noteLinesFrom_52 (post : Mem → Prop) (K43 : Mem → Int32 → Int32 → Prop) : Nat → Mem → Int32 → Int32 → Int32 → Prop
  | 0, _, _, _, _ => False
  | n + 1, x, x1, x2, x3 => ((x1 ≤ x3) → K43 x x1 (x2 + 1)) ∧ ((¬ x1 ≤ x3) → vp_in x2 6 ∧ (((x 8 (ix x2)) = ((-1))) → PX3_noteLinesFrom_52 post K43 n x x1 x2 (x3 + 1)) ∧ ((¬ (x 8 (ix x2)) = ((-1))) → vp_in x3 6 ∧ (((x 8 (ix x3)) = ((-1))) → PX3_noteLinesFrom_52 post K43 n x x1 x2 (x3 + 1)) ∧ ((¬ (x 8 (ix x3)) = ((-1))) → vp_in x3 6 ∧ vp_in (x 8 (ix x3)) 6 ∧ vp_in x2 6 ∧ vp_in (x 8 (ix x2)) 6 ∧ vp_in (x 8 (ix x2)) 6 ∧ ∀ x14 : Mem, x14 = mset x (20 + ix (x 8 (ix x3))) (ix (x 8 (ix x2))) ((x (20 + ix (x 8 (ix x3))) (ix (x 8 (ix x2)))) + 1) → PX3_noteLinesFrom_52 post K43 n x14 x1 x2 (x3 + 1))))

def PX3_noteLinesFrom_43 (post : Mem → Prop) : Nat → Mem → Int32 → Int32 → Prop
  | 0, _, _, _ => False
  | n + 1, x, x1, x2 => ((x1 ≤ x2) → post x) ∧ ((¬ x1 ≤ x2) → ∀ q3 : Int32, q3 = x2 + 1 → ∃ n15, PX3_noteLinesFrom_52 post (PX3_noteLinesFrom_43 post n) n15 x x1 x2 q3)

def PX3_noteLinesFrom_12 (post : Mem → Prop) (K2 : Mem → Int32 → Int32 → Prop) : Nat → Mem → Int32 → Int32 → Int32 → Prop
  | 0, _, _, _, _ => False
  | n + 1, x, x1, x2, x3 => (((x 11 0) ≤ x3) → K2 x x1 (x2 + 1)) ∧ ((¬ (x 11 0) ≤ x3) → vp_in x2 6 ∧ vp_in x3 6 ∧ ∀ x20 : Mem, x20 = mset x (20 + ix x2) (ix x3) 0 → PX3_noteLinesFrom_12 post K2 n x20 x1 x2 (x3 + 1))

def PX3_noteLinesFrom_2 (post : Mem → Prop) : Nat → Mem → Int32 → Int32 → Prop
  | 0, _, _, _ => False
  | n + 1, x, x1, x2 => (((x 11 0) ≤ x2) → ∃ n16, PX3_noteLinesFrom_43 post n16 x x1 0) ∧ ((¬ (x 11 0) ≤ x2) → ∃ n21, PX3_noteLinesFrom_12 post (PX3_noteLinesFrom_2 post n) n21 x x1 x2 0)

def PX3_noteLinesFrom (x : Mem) (p1 : Int32) (post : Mem → Prop) : Prop :=
  ∃ n22, PX3_noteLinesFrom_2 post n22 x p1 0

def PX3_prepare (x : Mem) (v : Mem) (p2 : Int32) (post : Mem → Prop) : Prop :=
  PX3_listPeople x v p2 (fun x2 => PX3_noteLinesTo x2 v (fun x4 => PX3_listCouples x4 v (p2 + 1) (fun x6 => PX5_sizeOf v (p2 + 1) (fun r7 => PX3_noteLinesFrom x6 r7 (fun x10 => post x10)))))

def PJ6_bitCount_0f7a4 (p1 : Int32) (post : Int32 → Prop) : Prop :=
  ∀ q1 : Int32, q1 = p1 - (((p1.toUInt32 >>> ((1 : Int32).toUInt32 &&& Int32.toUInt32 31)).toInt32) &&& 1431655765) → ∀ q2 : Int32, q2 = (q1 &&& 858993459) + (((q1.toUInt32 >>> ((2 : Int32).toUInt32 &&& Int32.toUInt32 31)).toInt32) &&& 858993459) → ∀ q3 : Int32, q3 = (q2 + ((q2.toUInt32 >>> ((4 : Int32).toUInt32 &&& Int32.toUInt32 31)).toInt32)) &&& 252645135 → ∀ q4 : Int32, q4 = q3 + ((q3.toUInt32 >>> ((8 : Int32).toUInt32 &&& Int32.toUInt32 31)).toInt32) → ∀ q5 : Int32, q5 = q4 + ((q4.toUInt32 >>> ((16 : Int32).toUInt32 &&& Int32.toUInt32 31)).toInt32) → post (q5 &&& 63)

def PX3_crossingsFrom_76 (post : Int32 → Mem → Prop) (K4 : Mem → Int32 → Int32 → Int32 → Prop) : Nat → Mem → Int32 → Int32 → Int32 → Int32 → Prop
  | 0, _, _, _, _, _ => False
  | n + 1, x, x1, x2, x3, x5 => ((x3 ≤ x5) → K4 x x1 x2 (x3 + 1)) ∧ ((¬ x3 ≤ x5) → vp_in x3 6 ∧ (((x 7 (ix x3)) = ((-1))) → K4 x x1 x2 (x3 + 1)) ∧ ((¬ (x 7 (ix x3)) = ((-1))) → vp_in x5 6 ∧ ((¬ (x 7 (ix x5)) = ((-1))) → vp_in x5 6 ∧ vp_in x3 6 ∧ (((x 7 (ix x3)) ≤ (x 7 (ix x5))) → vp_in x3 6 ∧ vp_in x5 6 ∧ (((x 7 (ix x5)) ≤ (x 7 (ix x3))) → PX3_crossingsFrom_76 post K4 n x x1 x2 x3 (x5 + 1)) ∧ ((¬ (x 7 (ix x5)) ≤ (x 7 (ix x3))) → vp_in x3 6 ∧ vp_in x5 6 ∧ ∀ q21 : Int32, q21 = x2 + (x (20 + ix x3) (ix x5)) → PX3_crossingsFrom_76 post K4 n x x1 q21 x3 (x5 + 1))) ∧ ((¬ (x 7 (ix x3)) ≤ (x 7 (ix x5))) → vp_in x5 6 ∧ vp_in x3 6 ∧ ∀ q24 : Int32, q24 = x2 + (x (20 + ix x5) (ix x3)) → PX3_crossingsFrom_76 post K4 n x x1 q24 x3 (x5 + 1))) ∧ (((x 7 (ix x5)) = ((-1))) → PX3_crossingsFrom_76 post K4 n x x1 x2 x3 (x5 + 1))))

def PX3_crossingsFrom_72 (post : Int32 → Mem → Prop) (K4 : Mem → Int32 → Int32 → Int32 → Prop) (x : Mem) (x1 : Int32) (x2 : Int32) (x3 : Int32) (z0 : Int32) (z1 : Int32) : Prop :=
  vp_in z1 6 ∧ ∀ x7 : Mem, x7 = mset x 7 (ix z1) z0 → ∃ n25, PX3_crossingsFrom_76 post K4 n25 x7 x1 x2 x3 0

def PX3_crossingsFrom_4 (post : Int32 → Mem → Prop) : Nat → Mem → Int32 → Int32 → Int32 → Prop
  | 0, _, _, _, _ => False
  | n + 1, x, x1, x2, x3 => (((x 11 0) ≤ x3) → post x2 x) ∧ ((¬ (x 11 0) ≤ x3) → vp_in x3 6 ∧ vp_in x3 6 ∧ ∀ q4 : Int32, q4 = (1 <<< ((x 5 (ix x3)) &&& 31)) ||| (1 <<< ((x 6 (ix x3)) &&& 31)) → ((¬ (x1 &&& q4) = q4) → PX3_crossingsFrom_72 post (PX3_crossingsFrom_4 post n) x x1 x2 x3 ((-1)) x3) ∧ (((x1 &&& q4) = q4) → vp_in x3 6 ∧ vp_in (x 5 (ix x3)) 20 ∧ vp_in x3 6 ∧ vp_in (x 6 (ix x3)) 20 ∧ PX3_crossingsFrom_72 post (PX3_crossingsFrom_4 post n) x x1 x2 x3 ((x 2 (ix (x 5 (ix x3)))) + (x 2 (ix (x 6 (ix x3))))) x3))

def PX3_crossingsFrom (x : Mem) (p1 : Int32) (post : Int32 → Mem → Prop) : Prop :=
  ∃ n30, PX3_crossingsFrom_4 post n30 x p1 0 0

def PX3_crossingsOfFirst_7 (post : Int32 → Mem → Prop) : Nat → Mem → Int32 → Int32 → Int32 → Int32 → Prop
  | 0, _, _, _, _, _ => False
  | n + 1, x, x1, x2, x3, x4 => ((x1 ≤ x4) → PX3_crossingsFrom x x3 (fun r2 x4 => post (x2 + r2) x4)) ∧ ((¬ x1 ≤ x4) → vp_in x4 6 ∧ ∀ q6 : Int32, q6 = x 0 (ix x4) → vp_in q6 20 ∧ PJ6_bitCount_0f7a4 (x3 &&& (x 3 (ix q6))) (fun r8 => ∀ q10 : Int32, q10 = x2 + r8 → ∀ q11 : Int32, q11 = x3 ||| (1 <<< (q6 &&& 31)) → vp_in q6 20 ∧ ∀ x13 : Mem, x13 = mset x 2 (ix q6) x4 → PX3_crossingsOfFirst_7 post n x13 x1 q10 q11 (x4 + 1)))

def PX3_crossingsOfFirst (x : Mem) (p1 : Int32) (post : Int32 → Mem → Prop) : Prop :=
  ∃ n14, PX3_crossingsOfFirst_7 post n14 x p1 0 0 0

def PX3_exchange (x : Mem) (p1 : Int32) (p2 : Int32) (post : Mem → Prop) : Prop :=
  vp_in p1 6 ∧ ∀ q2 : Int32, q2 = x 0 (ix p1) → vp_in p2 6 ∧ vp_in p1 6 ∧ ∀ x5 : Mem, x5 = mset x 0 (ix p1) (x 0 (ix p2)) → vp_in p2 6 ∧ ∀ x7 : Mem, x7 = mset x5 0 (ix p2) q2 → post x7

def PX3_goToNextOrder_93 (post : Int32 → Mem → Prop) : Nat → Mem → Int32 → Int32 → Prop
  | 0, _, _, _ => False
  | n + 1, x, x3, x4 => ((x4 ≤ x3) → post 1 x) ∧ ((¬ x4 ≤ x3) → PX3_exchange x x3 x4 (fun x12 => PX3_goToNextOrder_93 post n x12 (x3 + 1) (x4 + (-1))))

def PX3_goToNextOrder_75 (post : Int32 → Mem → Prop) (x : Mem) (x1 : Int32) (x2 : Int32) : Prop :=
  PX3_exchange x x1 x2 (fun x7 => ∀ q8 : Int32, q8 = x1 + 1 → ∀ q9 : Int32, q9 = (x7 10 0) - 1 → ∃ n13, PX3_goToNextOrder_93 post n13 x7 q8 q9
)
def PX3_goToNextOrder_47 (post : Int32 → Mem → Prop) : Nat → Mem → Int32 → Int32 → Prop
  | 0, _, _, _ => False
  | n + 1, x, x1, x2 => ((x2 ≤ (x1 + 1)) → PX3_goToNextOrder_75 post x x1 x2) ∧ ((¬ x2 ≤ (x1 + 1)) → vp_in x2 6 ∧ vp_in x1 6 ∧ (((x 0 (ix x1)) ≤ (x 0 (ix x2))) → PX3_goToNextOrder_75 post x x1 x2) ∧ ((¬ (x 0 (ix x1)) ≤ (x 0 (ix x2))) → PX3_goToNextOrder_47 post n x x1 (x2 + (-1))))

def PX3_goToNextOrder_34 (post : Int32 → Mem → Prop) (x : Mem) (x1 : Int32) : Prop :=
  ((0 ≤ x1) → ∀ q4 : Int32, q4 = (x 10 0) - 1 → ∃ n17, PX3_goToNextOrder_47 post n17 x x1 q4) ∧ ((¬ 0 ≤ x1) → post 0 x)

def PX3_goToNextOrder_7 (post : Int32 → Mem → Prop) : Nat → Mem → Int32 → Prop
  | 0, _, _ => False
  | n + 1, x, x1 => ((x1 < 0) → PX3_goToNextOrder_34 post x x1) ∧ ((¬ x1 < 0) → vp_in x1 6 ∧ vp_in (x1 + 1) 6 ∧ (((x 0 (ix x1)) ≤ (x 0 (ix (x1 + 1)))) → PX3_goToNextOrder_34 post x x1) ∧ ((¬ (x 0 (ix x1)) ≤ (x 0 (ix (x1 + 1)))) → PX3_goToNextOrder_7 post n x (x1 + (-1))))

def PX3_goToNextOrder (x : Mem) (post : Int32 → Mem → Prop) : Prop :=
  ∀ q1 : Int32, q1 = (x 10 0) - 2 → ∃ n21, PX3_goToNextOrder_7 post n21 x q1

def PX3_leastByAllOrders_59 (post : Int32 → Mem → Prop) (K11 : Mem → Int32 → Int32 → Prop) (x : Mem) (x2 : Int32) : Prop :=
  PX3_goToNextOrder x (fun r8 x10 => K11 x10 r8 (x2 + 1)
)
def PX3_leastByAllOrders_11 (post : Int32 → Mem → Prop) : Nat → Mem → Int32 → Int32 → Prop
  | 0, _, _, _ => False
  | n + 1, x, x1, x2 => ((720 ≤ x2) → post (x 12 0) x) ∧ ((¬ 720 ≤ x2) → ((x1 = 0) → post (x 12 0) x) ∧ ((¬ x1 = 0) → PX3_crossingsOfFirst x (x 10 0) (fun r4 x6 => (((x6 12 0) ≤ r4) → PX3_leastByAllOrders_59 post (PX3_leastByAllOrders_11 post n) x6 x2) ∧ ((¬ (x6 12 0) ≤ r4) → ∀ x11 : Mem, x11 = mset x6 12 0 r4 → ∀ x12 : Mem, x12 = mrow x11 1 (va_cpy (x11 0) (x11 1) 0 0 6) → PX3_leastByAllOrders_59 post (PX3_leastByAllOrders_11 post n) x12 x2))))

def PX3_leastByAllOrders (x : Mem) (post : Int32 → Mem → Prop) : Prop :=
  ∀ x1 : Mem, x1 = mset x 12 0 1000 → ∃ n13, PX3_leastByAllOrders_11 post n13 x1 1 0

def PX3_layBest_2 (x : Mem) (post : Mem → Prop) : Nat → Mem → Int32 → Int32 → Prop
  | 0, _, _, _ => False
  | n + 1, v, x2, x3 => (((x 10 0) ≤ x3) → post v) ∧ ((¬ (x 10 0) ≤ x3) → vp_in x3 6 ∧ PX5_lay v x2 x3 (x 1 (ix x3)) (fun v4 => PX3_layBest_2 x post n v4 x2 (x3 + 1)))

def PX3_layBest (x : Mem) (v : Mem) (p2 : Int32) (post : Mem → Prop) : Prop :=
  ∃ n5, PX3_layBest_2 x post n5 v p2 0

def PX3_layOn_29 (post : Mem → Prop) (rc : Mem → Int32 → (Mem → Prop) → Prop) (x : Mem) (x2 : Int32) : Prop :=
  ∀ x6 : Mem, x6 = mset x 12 0 x2 → post x6

def PX3_layOn_37 (post : Mem → Prop) (rc : Mem → Int32 → (Mem → Prop) → Prop) : Nat → Mem → Int32 → Int32 → Prop
  | 0, _, _, _ => False
  | n + 1, x, x1, x3 => (((x 10 0) ≤ x3) → post x) ∧ ((¬ (x 10 0) ≤ x3) → PX3_exchange x x1 x3 (fun x10 => rc x10 (x1 + 1) (fun x12 => PX3_exchange x12 x1 x3 (fun x14 => PX3_layOn_37 post rc n x14 x1 (x3 + 1)))))

def PX3_layOnB (rc : Mem → Int32 → (Mem → Prop) → Prop) (x : Mem) (p2 : Int32) (post : Mem → Prop) : Prop :=
  PX3_crossingsOfFirst x p2 (fun r1 x3 => ((r1 < (x3 12 0)) → (((x3 10 0) ≤ p2) → PX3_layOn_29 post rc x3 r1) ∧ ((¬ (x3 10 0) ≤ p2) → ((p2 < 6) → ∃ n15, PX3_layOn_37 post rc n15 x3 p2 p2) ∧ ((¬ p2 < 6) → PX3_layOn_29 post rc x3 r1))) ∧ ((¬ r1 < (x3 12 0)) → post x3))

def PX3_layOn : Nat → Mem → Int32 → (Mem → Prop) → Prop
  | 0 => fun _ _ _ => False
  | d + 1 => PX3_layOnB (PX3_layOn d)

def PX3_leastByLaying (x : Mem) (post : Int32 → Mem → Prop) : Prop :=
  ∀ x1 : Mem, x1 = mset x 12 0 1000 → PX3_layOn 8 x1 0 (fun x3 => post (x3 12 0) x3)

def PX4_size (b : Mem) (post : Int32 → Prop) : Prop :=
  post (b 2 0)

def PX5_copyFrom (v : Mem) (vo : Mem) (post : Mem → Prop) : Prop :=
  ∀ v1 : Mem, v1 = mrow v 0 (va_cpy (vo 0) (v 0) 0 0 20) → ∀ v2 : Mem, v2 = mrow v1 1 (va_cpy (vo 1) (v1 1) 0 0 20) → ∀ v3 : Mem, v3 = mrow v2 2 (va_cpy (vo 2) (v2 2) 0 0 20) → ∀ v4 : Mem, v4 = mrow v3 3 (va_cpy (vo 3) (v3 3) 0 0 10) → ∀ v5 : Mem, v5 = mrow v4 4 (va_cpy (vo 4) (v4 4) 0 0 10) → ∀ v6 : Mem, v6 = mrow v5 5 (va_cpy (vo 5) (v5 5) 0 0 24) → ∀ v7 : Mem, v7 = mrow v6 6 (va_cpy (vo 6) (v6 6) 0 0 4) → ∀ v8 : Mem, v8 = mset v7 7 0 (vo 7 0) → ∀ v9 : Mem, v9 = mset v8 8 0 (vo 8 0) → ∀ v10 : Mem, v10 = mset v9 9 0 (vo 9 0) → post v10

def PX4_push (b : Mem) (r : Nat → Mem) (v : Mem) (post : Mem → (Nat → Mem) → Prop) : Prop :=
  vp_in (((b 1 0) + (b 2 0)) - ((b 1 0) + (b 2 0)) / 6 * 6) 6 ∧ PX5_copyFrom (r (ix (((b 1 0) + (b 2 0)) - ((b 1 0) + (b 2 0)) / 6 * 6))) v (fun r34 => ∀ r35 : Nat → Mem, r35 = rset r (ix (((b 1 0) + (b 2 0)) - ((b 1 0) + (b 2 0)) / 6 * 6)) r34 → ((6 ≤ (b 2 0)) → ∀ b37 : Mem, b37 = mset b 1 0 (((b 1 0) + 1) - ((b 1 0) + 1) / 6 * 6) → post b37 r35) ∧ ((¬ 6 ≤ (b 2 0)) → ∀ b38 : Mem, b38 = mset b 2 0 ((b 2 0) + 1) → post b38 r35))

def PX5_refused (v : Mem) (post : Int32 → Prop) : Prop :=
  post (v 9 0)

def PX5_addPerson_30 (post : Int32 → Mem → Prop) (v : Mem) : Prop :=
  ∀ v4 : Mem, v4 = mset v 9 0 ((v 9 0) + 1) → post ((-1)) v4

def PX5_addPerson (v : Mem) (p1 : Int32) (p2 : Int32) (post : Int32 → Mem → Prop) : Prop :=
  PX5_sizeOf v p1 (fun r1 => ((p1 < 0) → PX5_addPerson_30 post v) ∧ ((¬ p1 < 0) → ((4 ≤ p1) → PX5_addPerson_30 post v) ∧ ((¬ 4 ≤ p1) → ((6 ≤ r1) → PX5_addPerson_30 post v) ∧ ((¬ 6 ≤ r1) → (((v 7 0) < 20) → ∀ q8 : Int32, q8 = v 7 0 → ∀ v9 : Mem, v9 = mset v 7 0 ((v 7 0) + 1) → vp_in p1 4 ∧ vp_in p1 4 ∧ ∀ v12 : Mem, v12 = mset v9 6 (ix p1) ((v9 6 (ix p1)) + 1) → vp_in q8 20 ∧ ∀ v14 : Mem, v14 = mset v12 0 (ix q8) p1 → vp_in q8 20 ∧ ∀ v16 : Mem, v16 = mset v14 2 (ix q8) p2 → PX5_lay v16 p1 r1 q8 (fun v18 => post q8 v18)) ∧ ((¬ (v 7 0) < 20) → PX5_addPerson_30 post v)))))

def PX5_addChild (v : Mem) (p1 : Int32) (post : Int32 → Mem → Prop) : Prop :=
  PX5_lesserOf v p1 (fun r1 => PX5_rowOf v r1 (fun r3 => PX5_addPerson v (r3 + 1) p1 (fun r5 v7 => post r5 v7)))

def PX5_areCouple_2 (v : Mem) (post : Int32 → Prop) : Nat → Int32 → Int32 → Int32 → Prop
  | 0, _, _, _ => False
  | n + 1, x1, x2, x3 => (((v 8 0) ≤ x3) → post 0) ∧ ((¬ (v 8 0) ≤ x3) → vp_in x3 10 ∧ ((¬ (v 3 (ix x3)) = x1) → PX5_areCouple_2 v post n x1 x2 (x3 + 1)) ∧ (((v 3 (ix x3)) = x1) → vp_in x3 10 ∧ ((¬ (v 4 (ix x3)) = x2) → PX5_areCouple_2 v post n x1 x2 (x3 + 1)) ∧ (((v 4 (ix x3)) = x2) → post 1)))

def PX5_areCouple (v : Mem) (p1 : Int32) (p2 : Int32) (post : Int32 → Prop) : Prop :=
  ∃ n6, PX5_areCouple_2 v post n6 p1 p2 0

def PX5_couplesWith_4 (v : Mem) (post : Int32 → Prop) : Nat → Int32 → Int32 → Int32 → Prop
  | 0, _, _, _ => False
  | n + 1, x1, x2, x3 => (((v 8 0) ≤ x3) → post x2) ∧ ((¬ (v 8 0) ≤ x3) → vp_in x3 10 ∧ (((v 3 (ix x3)) = x1) → PX5_couplesWith_4 v post n x1 (x2 + 1) (x3 + 1)) ∧ ((¬ (v 3 (ix x3)) = x1) → vp_in x3 10 ∧ ((¬ (v 4 (ix x3)) = x1) → PX5_couplesWith_4 v post n x1 x2 (x3 + 1)) ∧ (((v 4 (ix x3)) = x1) → PX5_couplesWith_4 v post n x1 (x2 + 1) (x3 + 1))))

def PX5_couplesWith (v : Mem) (p1 : Int32) (post : Int32 → Prop) : Prop :=
  ∃ n6, PX5_couplesWith_4 v post n6 p1 0 0

def PX5_isDouble (v : Mem) (p1 : Int32) (post : Int32 → Prop) : Prop :=
  PX5_couplesWith v p1 (fun r1 => ((r1 < 2) → post 0) ∧ ((¬ r1 < 2) → post 1))

def PX5_reasonAgainst (v : Mem) (p1 : Int32) (p2 : Int32) (post : Int32 → Prop) : Prop :=
  (((v 8 0) < 10) → PX5_rowOf v p1 (fun r2 => PX5_rowOf v p2 (fun r4 => ((¬ r2 = r4) → post 2) ∧ ((r2 = r4) → PX5_rowOf v p1 (fun r7 => ((¬ r7 = 3) → PX5_areCouple v (if p2 < p1 then p2 else p1) (if p1 < p2 then p2 else p1) (fun r10 => ((r10 = 0) → PX5_isDouble v p1 (fun r13 => ((¬ r13 = 0) → post 4) ∧ ((r13 = 0) → PX5_isDouble v p2 (fun r16 => ((r16 = 0) → post 0) ∧ ((¬ r16 = 0) → post 4))))) ∧ ((¬ r10 = 0) → post 3))) ∧ ((r7 = 3) → post 2)))))) ∧ ((¬ (v 8 0) < 10) → post 1)

def PX5_addCouple (v : Mem) (p1 : Int32) (p2 : Int32) (post : Int32 → Mem → Prop) : Prop :=
  PX5_reasonAgainst v p1 p2 (fun r1 => ((r1 = 0) → ∀ q4 : Int32, q4 = v 8 0 → ∀ v5 : Mem, v5 = mset v 8 0 ((v 8 0) + 1) → vp_in q4 10 ∧ ∀ v7 : Mem, v7 = mset v5 3 (ix q4) (if p2 < p1 then p2 else p1) → vp_in q4 10 ∧ ∀ v9 : Mem, v9 = mset v7 4 (ix q4) (if p1 < p2 then p2 else p1) → post (q4 + 10) v9) ∧ ((¬ r1 = 0) → ∀ v10 : Mem, v10 = mset v 9 0 ((v 9 0) + 1) → post r1 v10))

def PX5_exchange (v : Mem) (p1 : Int32) (p2 : Int32) (post : Mem → Prop) : Prop :=
  PX5_personAt v p1 p2 (fun r1 => PX5_personAt v p1 (p2 + 1) (fun r3 => ((r1 = ((-1))) → post v) ∧ ((¬ r1 = ((-1))) → ((r3 = ((-1))) → post v) ∧ ((¬ r3 = ((-1))) → PX5_lay v p1 p2 r3 (fun v8 => PX5_lay v8 p1 (p2 + 1) r1 (fun v10 => post v10))))))

def PX5_childrenOf_4 (v : Mem) (post : Int32 → Prop) : Nat → Int32 → Int32 → Int32 → Prop
  | 0, _, _, _ => False
  | n + 1, x1, x2, x3 => (((v 7 0) ≤ x3) → post x2) ∧ ((¬ (v 7 0) ≤ x3) → vp_in x3 20 ∧ ((¬ (v 2 (ix x3)) = x1) → PX5_childrenOf_4 v post n x1 x2 (x3 + 1)) ∧ (((v 2 (ix x3)) = x1) → PX5_childrenOf_4 v post n x1 (x2 + 1) (x3 + 1)))

def PX5_childrenOf (v : Mem) (p1 : Int32) (post : Int32 → Prop) : Prop :=
  ∃ n4, PX5_childrenOf_4 v post n4 p1 0 0

def PX5_childrenWith_32 (v : Mem) (post : Int32 → Prop) (K4 : Int32 → Int32 → Int32 → Prop) (x1 : Int32) (x2 : Int32) (x3 : Int32) : Prop :=
  PX5_childrenOf v x3 (fun r4 => ∀ q6 : Int32, q6 = x2 + r4 → K4 x1 q6 (x3 + 1)
)
def PX5_childrenWith_4 (v : Mem) (post : Int32 → Prop) : Nat → Int32 → Int32 → Int32 → Prop
  | 0, _, _, _ => False
  | n + 1, x1, x2, x3 => (((v 8 0) ≤ x3) → post x2) ∧ ((¬ (v 8 0) ≤ x3) → vp_in x3 10 ∧ (((v 3 (ix x3)) = x1) → PX5_childrenWith_32 v post (PX5_childrenWith_4 v post n) x1 x2 x3) ∧ ((¬ (v 3 (ix x3)) = x1) → vp_in x3 10 ∧ ((¬ (v 4 (ix x3)) = x1) → PX5_childrenWith_4 v post n x1 x2 (x3 + 1)) ∧ (((v 4 (ix x3)) = x1) → PX5_childrenWith_32 v post (PX5_childrenWith_4 v post n) x1 x2 x3)))

def PX5_childrenWith (v : Mem) (p1 : Int32) (post : Int32 → Prop) : Prop :=
  ∃ n9, PX5_childrenWith_4 v post n9 p1 0 0

def PX5_lines (v : Mem) (post : Int32 → Prop) : Prop :=
  PX5_childrenOf v ((-1)) (fun r1 => post ((v 7 0) - r1))

def PX5_bentLines_4 (v : Mem) (post : Int32 → Prop) : Nat → Int32 → Int32 → Prop
  | 0, _, _ => False
  | n + 1, x1, x2 => (((v 7 0) ≤ x2) → post x1) ∧ ((¬ (v 7 0) ≤ x2) → vp_in x2 20 ∧ (((v 2 (ix x2)) = ((-1))) → PX5_bentLines_4 v post n x1 (x2 + 1)) ∧ ((¬ (v 2 (ix x2)) = ((-1))) → PX5_middleAbove v x2 (fun r4 => vp_in x2 20 ∧ ((r4 = (2 * (v 1 (ix x2)))) → PX5_bentLines_4 v post n x1 (x2 + 1)) ∧ ((¬ r4 = (2 * (v 1 (ix x2)))) → PX5_bentLines_4 v post n (x1 + 1) (x2 + 1)))))

def PX5_bentLines (v : Mem) (post : Int32 → Prop) : Prop :=
  ∃ n8, PX5_bentLines_4 v post n8 0 0

def PX5_doubles_4 (v : Mem) (post : Int32 → Prop) : Nat → Int32 → Int32 → Prop
  | 0, _, _ => False
  | n + 1, x1, x2 => (((v 7 0) ≤ x2) → post x1) ∧ ((¬ (v 7 0) ≤ x2) → PX5_isDouble v x2 (fun r2 => ((r2 = 0) → PX5_doubles_4 v post n x1 (x2 + 1)) ∧ ((¬ r2 = 0) → PX5_doubles_4 v post n (x1 + 1) (x2 + 1))))

def PX5_doubles (v : Mem) (post : Int32 → Prop) : Prop :=
  ∃ n5, PX5_doubles_4 v post n5 0 0

def PX7_isRow (p1 : Int32) (post : Int32 → Prop) : Prop :=
  ((p1 < 0) → post 0) ∧ ((¬ p1 < 0) → ((4 ≤ p1) → post 0) ∧ ((¬ 4 ≤ p1) → post 1))

def PX7_person_nt (kc : Mem) (v : Mem) (b : Mem) (r : Nat → Mem) (p1 : Int32) (post : Int32 → Mem → Mem → (Nat → Mem) → Prop) : Prop :=
  PX7_isRow p1 (fun r1 => ((¬ r1 = 0) → PX4_push b r v (fun b5 r6 => PX5_addPerson v p1 ((-1)) (fun r7 v9 => post r7 v9 b5 r6))) ∧ ((r1 = 0) → False))

def PX7_marry_nt (kc : Mem) (v : Mem) (b : Mem) (r : Nat → Mem) (p1 : Int32) (p2 : Int32) (post : Int32 → Mem → Mem → (Nat → Mem) → Prop) : Prop :=
  PX5_isPerson v p1 (fun r1 => ((r1 = 0) → False) ∧ ((¬ r1 = 0) → PX5_isPerson v p2 (fun r4 => ((¬ r4 = 0) → ((¬ p1 = p2) → PX4_push b r v (fun b9 r10 => PX5_addCouple v p1 p2 (fun r11 v13 => post r11 v13 b9 r10))) ∧ ((p1 = p2) → False)) ∧ ((r4 = 0) → False))))

def PX7_child_nt (kc : Mem) (v : Mem) (b : Mem) (r : Nat → Mem) (p1 : Int32) (post : Int32 → Mem → Mem → (Nat → Mem) → Prop) : Prop :=
  PX5_isCouple v p1 (fun r1 => ((¬ r1 = 0) → PX4_push b r v (fun b5 r6 => PX5_addChild v p1 (fun r7 v9 => post r7 v9 b5 r6))) ∧ ((r1 = 0) → False))

def PX7_allCrossings_4 (kc : Mem) (v : Mem) (post : Int32 → Mem → Prop) : Nat → Mem → Int32 → Int32 → Prop
  | 0, _, _, _ => False
  | n + 1, y, x1, x2 => ((4 ≤ x2) → post x1 y) ∧ ((¬ 4 ≤ x2) → PX2_collect y v x2 (fun y3 => PX2_crossedPairs y3 (fun r4 => ∀ q6 : Int32, q6 = x1 + r4 → PX7_allCrossings_4 kc v post n y3 q6 (x2 + 1))))

def PX7_allCrossings (kc : Mem) (v : Mem) (y : Mem) (post : Int32 → Mem → Prop) : Prop :=
  ∃ n7, PX7_allCrossings_4 kc v post n7 y 0 0

def PX7_swap_nt (kc : Mem) (v : Mem) (b : Mem) (r : Nat → Mem) (y : Mem) (p1 : Int32) (p2 : Int32) (post : Int32 → Mem → Mem → (Nat → Mem) → Mem → Prop) : Prop :=
  PX7_isRow p1 (fun r1 => ((¬ r1 = 0) → ((p2 < 0) → False) ∧ ((¬ p2 < 0) → PX5_sizeOf v p1 (fun r5 => ((p2 < (r5 - 1)) → PX4_push b r v (fun b9 r10 => PX7_allCrossings kc v y (fun r11 y13 => PX5_exchange v p1 p2 (fun v15 => PX7_allCrossings kc v15 y13 (fun r16 y18 => post ((r16 - r11) + 100) v15 b9 r10 y18))))) ∧ ((¬ p2 < (r5 - 1)) → False)))) ∧ ((r1 = 0) → False))

def PX7_byParents_nt (kc : Mem) (v : Mem) (b : Mem) (r : Nat → Mem) (o : Mem) (p1 : Int32) (post : Int32 → Mem → Mem → (Nat → Mem) → Mem → Prop) : Prop :=
  PX7_isRow p1 (fun r1 => ((¬ r1 = 0) → PX4_push b r v (fun b5 r6 => PX1_lay o v p1 (fun r7 o9 v10 => post r7 v10 b5 r6 o9))) ∧ ((r1 = 0) → False))

def PX7_untangle_nt (kc : Mem) (v : Mem) (b : Mem) (r : Nat → Mem) (x : Mem) (p1 : Int32) (post : Int32 → Mem → Mem → (Nat → Mem) → Mem → Prop) : Prop :=
  PX7_isRow p1 (fun r1 => ((¬ r1 = 0) → PX4_push b r v (fun b5 r6 => PX3_prepare x v p1 (fun x8 => PX3_leastByAllOrders x8 (fun r9 x11 => PX3_layBest x11 v p1 (fun v13 => post r9 v13 b5 r6 x11))))) ∧ ((r1 = 0) → False))

def PX7_personOf_nt (kc : Mem) (v : Mem) (p1 : Int32) (p2 : Int32) (post : Int32 → Prop) : Prop :=
  PX5_isPerson v p1 (fun r1 => ((¬ r1 = 0) → (p2 = 0 → PX5_rowOf v p1 (fun r5 => post r5)) ∧ (¬ p2 = 0 → (p2 = 1 → PX5_placeOf v p1 (fun r8 => post r8)) ∧ (¬ p2 = 1 → (p2 = 2 → PX5_parentsOf v p1 (fun r11 => post r11)) ∧ (¬ p2 = 2 → (p2 = 3 → PX5_couplesWith v p1 (fun r14 => post r14)) ∧ (¬ p2 = 3 → (p2 = 4 → PX5_childrenWith v p1 (fun r17 => post r17)) ∧ (¬ p2 = 4 → (p2 = 5 → PX0_descendants v p1 (fun r20 => PJ6_bitCount_0f7a4 r20 (fun r22 => post r22))) ∧ (¬ p2 = 5 → (p2 = 6 → PX0_ancestors v p1 (fun r25 => PJ6_bitCount_0f7a4 r25 (fun r27 => post r27))) ∧ (¬ p2 = 6 → False)))))))) ∧ ((r1 = 0) → False))

def PX7_coupleOf_nt (kc : Mem) (v : Mem) (p1 : Int32) (p2 : Int32) (post : Int32 → Prop) : Prop :=
  PX5_isCouple v p1 (fun r1 => ((¬ r1 = 0) → (p2 = 0 → PX5_lesserOf v p1 (fun r5 => post r5)) ∧ (¬ p2 = 0 → (p2 = 1 → PX5_greaterOf v p1 (fun r8 => post r8)) ∧ (¬ p2 = 1 → (p2 = 2 → PX5_lesserOf v p1 (fun r11 => PX5_rowOf v r11 (fun r13 => post r13))) ∧ (¬ p2 = 2 → (p2 = 3 → PX5_middleOf v p1 (fun r16 => post r16)) ∧ (¬ p2 = 3 → (p2 = 4 → PX5_childrenOf v p1 (fun r19 => post r19)) ∧ (¬ p2 = 4 → (p2 = 5 → PX0_commonAncestors v p1 (fun r22 => PJ6_bitCount_0f7a4 r22 (fun r24 => post r24))) ∧ (¬ p2 = 5 → False))))))) ∧ ((r1 = 0) → False))

def PX7_at_nt (kc : Mem) (v : Mem) (p1 : Int32) (p2 : Int32) (post : Int32 → Prop) : Prop :=
  PX7_isRow p1 (fun r1 => ((¬ r1 = 0) → ((0 ≤ p2) → PX5_personAt v p1 p2 (fun r5 => post r5)) ∧ ((¬ 0 ≤ p2) → False)) ∧ ((r1 = 0) → False))

def PX7_crossings_nt_36 (kc : Mem) (v : Mem) (post : Int32 → Mem → Prop) (y : Mem) (x1 : Int32) (x2 : Int32) : Prop :=
  PX2_collect y v x1 (fun y6 => ((¬ x2 = 0) → PX2_crossedOneByOne y6 (fun r8 y10 => post r8 y10)) ∧ ((x2 = 0) → PX2_crossedPairs y6 (fun r11 => post r11 y6))
)
def PX7_crossings_nt (kc : Mem) (v : Mem) (y : Mem) (p1 : Int32) (p2 : Int32) (post : Int32 → Mem → Prop) : Prop :=
  PX7_isRow p1 (fun r1 => ((¬ r1 = 0) → ((p2 = 0) → PX7_crossings_nt_36 kc v post y p1 p2) ∧ ((¬ p2 = 0) → ((p2 = 1) → PX7_crossings_nt_36 kc v post y p1 p2) ∧ ((¬ p2 = 1) → False))) ∧ ((r1 = 0) → False))

def PX7_count_nt (kc : Mem) (v : Mem) (b : Mem) (y : Mem) (p1 : Int32) (post : Int32 → Mem → Prop) : Prop :=
  (p1 = 0 → PX5_people v (fun r2 => post r2 y)) ∧ (¬ p1 = 0 → (p1 = 1 → PX5_couples v (fun r5 => post r5 y)) ∧ (¬ p1 = 1 → (p1 = 2 → PX5_lines v (fun r8 => post r8 y)) ∧ (¬ p1 = 2 → (p1 = 3 → PX7_allCrossings kc v y (fun r11 y13 => post r11 y13)) ∧ (¬ p1 = 3 → (p1 = 4 → PX5_bentLines v (fun r15 => post r15 y)) ∧ (¬ p1 = 4 → (p1 = 5 → PX5_doubles v (fun r18 => post r18 y)) ∧ (¬ p1 = 5 → (p1 = 6 → PX0_kinCouples v (fun r21 => post r21 y)) ∧ (¬ p1 = 6 → (p1 = 7 → PX5_refused v (fun r24 => post r24 y)) ∧ (¬ p1 = 7 → (p1 = 8 → PX4_size b (fun r27 => post r27 y)) ∧ (¬ p1 = 8 → False)))))))))

def PX7_least_nt_36 (kc : Mem) (v : Mem) (post : Int32 → Mem → Prop) (x : Mem) (x1 : Int32) (x2 : Int32) : Prop :=
  PX3_prepare x v x1 (fun x6 => ((¬ x2 = 0) → PX3_leastByLaying x6 (fun r8 x10 => post r8 x10)) ∧ ((x2 = 0) → PX3_leastByAllOrders x6 (fun r11 x13 => post r11 x13))
)
def PX7_least_nt (kc : Mem) (v : Mem) (x : Mem) (p1 : Int32) (p2 : Int32) (post : Int32 → Mem → Prop) : Prop :=
  PX7_isRow p1 (fun r1 => ((¬ r1 = 0) → ((p2 = 0) → PX7_least_nt_36 kc v post x p1 p2) ∧ ((¬ p2 = 0) → ((p2 = 1) → PX7_least_nt_36 kc v post x p1 p2) ∧ ((¬ p2 = 1) → False))) ∧ ((r1 = 0) → False))

def PX7_bestSwap_17 (kc : Mem) (post : Int32 → Mem → Mem → Prop) (K9 : Mem → Mem → Int32 → Int32 → Int32 → Prop) : Nat → Mem → Mem → Int32 → Int32 → Int32 → Int32 → Prop
  | 0, _, _, _, _, _, _ => False
  | n + 1, v, y, x1, x2, x3, x4 => PX5_sizeOf v x3 (fun r5 => (((r5 - 1) ≤ x4) → K9 v y x1 x2 (x3 + 1)) ∧ ((¬ (r5 - 1) ≤ x4) → PX5_exchange v x3 x4 (fun v9 => PX7_allCrossings kc v9 y (fun r10 y12 => PX5_exchange v9 x3 x4 (fun v14 => ((x1 ≤ r10) → PX7_bestSwap_17 kc post K9 n v14 y12 x1 x2 x3 (x4 + 1)) ∧ ((¬ x1 ≤ r10) → ∀ q16 : Int32, q16 = (10 * x3) + x4 → PX7_bestSwap_17 kc post K9 n v14 y12 r10 q16 x3 (x4 + 1))))))
)
def PX7_bestSwap_9 (kc : Mem) (post : Int32 → Mem → Mem → Prop) : Nat → Mem → Mem → Int32 → Int32 → Int32 → Prop
  | 0, _, _, _, _, _ => False
  | n + 1, v, y, x1, x2, x3 => ((4 ≤ x3) → post x2 v y) ∧ ((¬ 4 ≤ x3) → ∃ n17, PX7_bestSwap_17 kc post (PX7_bestSwap_9 kc post n) n17 v y x1 x2 x3 0)

def PX7_bestSwap (kc : Mem) (v : Mem) (y : Mem) (post : Int32 → Mem → Mem → Prop) : Prop :=
  PX7_allCrossings kc v y (fun r1 y3 => ∃ n18, PX7_bestSwap_9 kc post n18 v y3 r1 ((-1)) 0)

def PX7_nearness_nt (kc : Mem) (v : Mem) (p1 : Int32) (p2 : Int32) (post : Int32 → Prop) : Prop :=
  PX5_isPerson v p1 (fun r1 => ((r1 = 0) → False) ∧ ((¬ r1 = 0) → PX5_isPerson v p2 (fun r4 => ((¬ r4 = 0) → PX0_fewestLines v p1 p2 (fun r7 => post r7)) ∧ ((r4 = 0) → False))))

def PX7_straightShare (kc : Mem) (v : Mem) (post : UInt64 → Prop) : Prop :=
  PX5_lines v (fun r1 => ((¬ r1 = 0) → PX5_bentLines v (fun r4 => vf_n64 (FP.ddiv (FP.i2d (r1 - r4)) (FP.i2d r1)) ∧ post (FP.ddiv (FP.i2d (r1 - r4)) (FP.i2d r1)))) ∧ ((r1 = 0) → post 0x3ff0000000000000))
