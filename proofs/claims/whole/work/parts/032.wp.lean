/-! What each method needs of memory and arguments to come to its end with post, by program out of its bytecode. -/
def PX5_isPerson (v : Mem) (p1 : Int32) (post : Int32 → Prop) : Prop :=
  ((p1 < 0) → post 0) ∧ ((¬ p1 < 0) → (((v 7 0) ≤ p1) → post 0) ∧ ((¬ (v 7 0) ≤ p1) → post 1))

def PX5_parentsOf (v : Mem) (p1 : Int32) (post : Int32 → Prop) : Prop :=
  PX5_isPerson v p1 (fun r1 => ((r1 = 0) → post ((-1))) ∧ ((¬ r1 = 0) → vp_in p1 20 ∧ post (v 2 (ix p1))))

def PX5_isCouple (v : Mem) (p1 : Int32) (post : Int32 → Prop) : Prop :=
  ((p1 < 0) → post 0) ∧ ((¬ p1 < 0) → (((v 8 0) ≤ p1) → post 0) ∧ ((¬ (v 8 0) ≤ p1) → post 1))

def PX5_lesserOf (v : Mem) (p1 : Int32) (post : Int32 → Prop) : Prop :=
  PX5_isCouple v p1 (fun r1 => ((r1 = 0) → post ((-1))) ∧ ((¬ r1 = 0) → vp_in p1 10 ∧ post (v 3 (ix p1))))

def PX5_greaterOf (v : Mem) (p1 : Int32) (post : Int32 → Prop) : Prop :=
  PX5_isCouple v p1 (fun r1 => ((r1 = 0) → post ((-1))) ∧ ((¬ r1 = 0) → vp_in p1 10 ∧ post (v 4 (ix p1))))

def PX0_parentBits (v : Mem) (p2 : Int32) (post : Int32 → Prop) : Prop :=
  PX5_parentsOf v p2 (fun r1 => ((¬ r1 = ((-1))) → PX5_lesserOf v r1 (fun r4 => PX5_greaterOf v r1 (fun r6 => post ((1 <<< (r4 &&& 31)) ||| (1 <<< (r6 &&& 31)))))) ∧ ((r1 = ((-1))) → post 0))

def PX0_ancestors_10 (v : Mem) (post : Int32 → Prop) : Nat → Int32 → Int32 → Prop
  | 0, _, _ => False
  | n + 1, x2, x3 => ((x3 < 0) → post x2) ∧ ((¬ x3 < 0) → (((x2 &&& (1 <<< (x3 &&& 31))) = 0) → PX0_ancestors_10 v post n x2 (x3 + (-1))) ∧ ((¬ (x2 &&& (1 <<< (x3 &&& 31))) = 0) → PX0_parentBits v x3 (fun r6 => ∀ q8 : Int32, q8 = x2 ||| r6 → PX0_ancestors_10 v post n q8 (x3 + (-1)))))

def PX0_ancestors (v : Mem) (p2 : Int32) (post : Int32 → Prop) : Prop :=
  PX0_parentBits v p2 (fun r1 => ∀ q3 : Int32, q3 = p2 - 1 → ∃ n9, PX0_ancestors_10 v post n9 r1 q3)

def PX5_people (v : Mem) (post : Int32 → Prop) : Prop :=
  post (v 7 0)

def PX0_descendants_8 (v : Mem) (post : Int32 → Prop) : Nat → Int32 → Int32 → Int32 → Prop
  | 0, _, _, _ => False
  | n + 1, x1, x2, x3 => PX5_people v (fun r3 => ((r3 ≤ x3) → post (x2 &&& ((1 <<< (x1 &&& 31)) ^^^ ((-1))))) ∧ ((¬ r3 ≤ x3) → PX0_parentBits v x3 (fun r6 => (((r6 &&& x2) = 0) → PX0_descendants_8 v post n x1 x2 (x3 + 1)) ∧ ((¬ (r6 &&& x2) = 0) → ∀ q9 : Int32, q9 = x2 ||| (1 <<< (x3 &&& 31)) → PX0_descendants_8 v post n x1 q9 (x3 + 1))))
)
def PX0_descendants (v : Mem) (p2 : Int32) (post : Int32 → Prop) : Prop :=
  ∀ q1 : Int32, q1 = 1 <<< (p2 &&& 31) → ∀ q2 : Int32, q2 = p2 + 1 → ∃ n10, PX0_descendants_8 v post n10 p2 q1 q2

def PX0_commonAncestors (v : Mem) (p2 : Int32) (post : Int32 → Prop) : Prop :=
  PX5_lesserOf v p2 (fun r1 => PX0_ancestors v r1 (fun r3 => PX5_greaterOf v p2 (fun r5 => PX0_ancestors v r5 (fun r7 => post (r3 &&& r7)))))

def PX5_couples (v : Mem) (post : Int32 → Prop) : Prop :=
  post (v 8 0)

def PX0_kinCouples_4 (v : Mem) (post : Int32 → Prop) : Nat → Int32 → Int32 → Prop
  | 0, _, _ => False
  | n + 1, x1, x2 => PX5_couples v (fun r1 => ((r1 ≤ x2) → post x1) ∧ ((¬ r1 ≤ x2) → PX0_commonAncestors v x2 (fun r4 => ((r4 = 0) → PX0_kinCouples_4 v post n x1 (x2 + 1)) ∧ ((¬ r4 = 0) → PX0_kinCouples_4 v post n (x1 + 1) (x2 + 1))))
)
def PX0_kinCouples (v : Mem) (post : Int32 → Prop) : Prop :=
  ∃ n7, PX0_kinCouples_4 v post n7 0 0

def PX5_rowOf (v : Mem) (p1 : Int32) (post : Int32 → Prop) : Prop :=
  PX5_isPerson v p1 (fun r1 => ((r1 = 0) → post ((-1))) ∧ ((¬ r1 = 0) → vp_in p1 20 ∧ post (v 0 (ix p1))))

def PX0_fewestLines_26 (v : Mem) (post : Int32 → Prop) : Nat → Int32 → Int32 → Int32 → Int32 → Int32 → Prop
  | 0, _, _, _, _, _ => False
  | n + 1, x1, x2, x3, x4, x5 => PX5_people v (fun r6 => ((r6 ≤ x5) → post x4) ∧ ((¬ r6 ≤ x5) → (((x3 &&& (1 <<< (x5 &&& 31))) = 0) → PX0_fewestLines_26 v post n x1 x2 x3 x4 (x5 + 1)) ∧ ((¬ (x3 &&& (1 <<< (x5 &&& 31))) = 0) → PX5_rowOf v x1 (fun r10 => PX5_rowOf v x2 (fun r12 => PX5_rowOf v x5 (fun r14 => ∀ q16 : Int32, q16 = (r10 + r12) - (2 * r14) → ((x4 = ((-1))) → PX0_fewestLines_26 v post n x1 x2 x3 q16 (x5 + 1)) ∧ ((¬ x4 = ((-1))) → ((x4 ≤ q16) → PX0_fewestLines_26 v post n x1 x2 x3 x4 (x5 + 1)) ∧ ((¬ x4 ≤ q16) → PX0_fewestLines_26 v post n x1 x2 x3 q16 (x5 + 1))))))))
)
def PX0_fewestLines (v : Mem) (p2 : Int32) (p3 : Int32) (post : Int32 → Prop) : Prop :=
  PX0_ancestors v p2 (fun r1 => PX0_ancestors v p3 (fun r3 => ∀ q5 : Int32, q5 = (r1 ||| (1 <<< (p2 &&& 31))) &&& (r3 ||| (1 <<< (p3 &&& 31))) → ∃ n19, PX0_fewestLines_26 v post n19 p2 p3 q5 ((-1)) 0))

def PX5_sizeOf (v : Mem) (p1 : Int32) (post : Int32 → Prop) : Prop :=
  ((p1 < 0) → post 0) ∧ ((¬ p1 < 0) → ((4 ≤ p1) → post 0) ∧ ((¬ 4 ≤ p1) → vp_in p1 4 ∧ post (v 6 (ix p1))))

def PX5_personAt (v : Mem) (p1 : Int32) (p2 : Int32) (post : Int32 → Prop) : Prop :=
  ((p2 < 0) → post ((-1))) ∧ ((¬ p2 < 0) → PX5_sizeOf v p1 (fun r2 => ((r2 ≤ p2) → post ((-1))) ∧ ((¬ r2 ≤ p2) → vp_in ((p1 * 6) + p2) 24 ∧ post (v 5 (ix ((p1 * 6) + p2))))))

def PX5_placeOf (v : Mem) (p1 : Int32) (post : Int32 → Prop) : Prop :=
  PX5_isPerson v p1 (fun r1 => ((r1 = 0) → post ((-1))) ∧ ((¬ r1 = 0) → vp_in p1 20 ∧ post (v 1 (ix p1))))

def PX5_middleOf (v : Mem) (p1 : Int32) (post : Int32 → Prop) : Prop :=
  PX5_isCouple v p1 (fun r1 => ((r1 = 0) → post ((-1))) ∧ ((¬ r1 = 0) → vp_in p1 10 ∧ PX5_placeOf v (v 3 (ix p1)) (fun r5 => vp_in p1 10 ∧ PX5_placeOf v (v 4 (ix p1)) (fun r8 => post (r5 + r8)))))

def PX5_middleAbove (v : Mem) (p1 : Int32) (post : Int32 → Prop) : Prop :=
  PX5_parentsOf v p1 (fun r1 => PX5_middleOf v r1 (fun r3 => post r3))

def PX1_placeByKey_5 (o : Mem) (post : Int32 → Prop) : Nat → Int32 → Int32 → Int32 → Int32 → Prop
  | 0, _, _, _, _ => False
  | n + 1, x1, x2, x3, x4 => ((x2 ≤ x4) → post x3) ∧ ((¬ x2 ≤ x4) → vp_in x4 6 ∧ vp_in x1 6 ∧ (((o 0 (ix x4)) < (o 0 (ix x1))) → PX1_placeByKey_5 o post n x1 x2 (x3 + 1) (x4 + 1)) ∧ ((¬ (o 0 (ix x4)) < (o 0 (ix x1))) → vp_in x4 6 ∧ vp_in x1 6 ∧ ((¬ (o 0 (ix x4)) = (o 0 (ix x1))) → PX1_placeByKey_5 o post n x1 x2 x3 (x4 + 1)) ∧ (((o 0 (ix x4)) = (o 0 (ix x1))) → ((x1 ≤ x4) → PX1_placeByKey_5 o post n x1 x2 x3 (x4 + 1)) ∧ ((¬ x1 ≤ x4) → PX1_placeByKey_5 o post n x1 x2 (x3 + 1) (x4 + 1)))))

def PX1_placeByKey (o : Mem) (p1 : Int32) (p2 : Int32) (post : Int32 → Prop) : Prop :=
  ∃ n9, PX1_placeByKey_5 o post n9 p1 p2 0 0

def PX5_lay (v : Mem) (p1 : Int32) (p2 : Int32) (p3 : Int32) (post : Mem → Prop) : Prop :=
  PX5_isPerson v p3 (fun r1 => ((r1 = 0) → post v) ∧ ((¬ r1 = 0) → ((p2 < 0) → post v) ∧ ((¬ p2 < 0) → PX5_sizeOf v p1 (fun r5 => ((r5 ≤ p2) → post v) ∧ ((¬ r5 ≤ p2) → vp_in ((p1 * 6) + p2) 24 ∧ ∀ v9 : Mem, v9 = mset v 5 (ix ((p1 * 6) + p2)) p3 → vp_in p3 20 ∧ ∀ v11 : Mem, v11 = mset v9 1 (ix p3) p2 → post v11)))))

def PX1_lay_114 (post : Int32 → Mem → Mem → Prop) : Nat → Mem → Mem → Int32 → Int32 → Int32 → Int32 → Prop
  | 0, _, _, _, _, _, _ => False
  | n + 1, o, v, x2, x3, x4, x5 => ((x3 ≤ x5) → post x4 o v) ∧ ((¬ x3 ≤ x5) → vp_in x5 6 ∧ PX5_lay v x2 x5 (o 1 (ix x5)) (fun v9 => PX1_lay_114 post n o v9 x2 x3 x4 (x5 + 1)))

def PX1_lay_66 (post : Int32 → Mem → Mem → Prop) : Nat → Mem → Mem → Int32 → Int32 → Int32 → Int32 → Prop
  | 0, _, _, _, _, _, _ => False
  | n + 1, o, v, x2, x3, x4, x5 => ((x3 ≤ x5) → ∃ n10, PX1_lay_114 post n10 o v x2 x3 x4 0) ∧ ((¬ x3 ≤ x5) → PX1_placeByKey o x5 x3 (fun r11 => PX5_personAt v x2 x5 (fun r13 => vp_in r11 6 ∧ ∀ o16 : Mem, o16 = mset o 1 (ix r11) r13 → ((r11 = x5) → PX1_lay_66 post n o16 v x2 x3 x4 (x5 + 1)) ∧ ((¬ r11 = x5) → PX1_lay_66 post n o16 v x2 x3 (x4 + 1) (x5 + 1)))))

def PX1_lay_53 (post : Int32 → Mem → Mem → Prop) (K14 : Mem → Mem → Int32 → Int32 → Int32 → Prop) (o : Mem) (v : Mem) (x2 : Int32) (x3 : Int32) (x4 : Int32) (z0 : Int32) (z1 : Int32) : Prop :=
  vp_in z1 6 ∧ ∀ o25 : Mem, o25 = mset o 0 (ix z1) z0 → K14 o25 v x2 x3 (x4 + 1)

def PX1_lay_14 (post : Int32 → Mem → Mem → Prop) : Nat → Mem → Mem → Int32 → Int32 → Int32 → Prop
  | 0, _, _, _, _, _ => False
  | n + 1, o, v, x2, x3, x4 => ((x3 ≤ x4) → ∃ n18, PX1_lay_66 post n18 o v x2 x3 0 0) ∧ ((¬ x3 ≤ x4) → PX5_personAt v x2 x4 (fun r19 => PX5_middleAbove v r19 (fun r21 => ((¬ r21 = ((-1))) → PX1_lay_53 post (PX1_lay_14 post n) o v x2 x3 x4 r21 x4) ∧ ((r21 = ((-1))) → PX1_lay_53 post (PX1_lay_14 post n) o v x2 x3 x4 1000 x4))))

def PX1_lay (o : Mem) (v : Mem) (p2 : Int32) (post : Int32 → Mem → Mem → Prop) : Prop :=
  PX5_sizeOf v p2 (fun r1 => ∀ q3 : Int32, q3 = (if 6 < r1 then 6 else r1) → ∃ n26, PX1_lay_14 post n26 o v p2 q3 0)

def PX2_collect_7 (v : Mem) (post : Mem → Prop) : Nat → Mem → Int32 → Int32 → Prop
  | 0, _, _, _ => False
  | n + 1, y, x2, x3 => PX5_sizeOf v x2 (fun r2 => ((r2 ≤ x3) → post y) ∧ ((¬ r2 ≤ x3) → ((6 ≤ x3) → post y) ∧ ((¬ 6 ≤ x3) → PX5_personAt v x2 x3 (fun r6 => PX5_middleAbove v r6 (fun r8 => ((r8 = ((-1))) → PX2_collect_7 v post n y x2 (x3 + 1)) ∧ ((¬ r8 = ((-1))) → vp_in (y 2 0) 6 ∧ ∀ y12 : Mem, y12 = mset y 0 (ix (y 2 0)) r8 → vp_in (y12 2 0) 6 ∧ ∀ y14 : Mem, y14 = mset y12 1 (ix (y12 2 0)) x3 → ∀ y15 : Mem, y15 = mset y14 2 0 ((y14 2 0) + 1) → PX2_collect_7 v post n y15 x2 (x3 + 1))))))
)
def PX2_collect (y : Mem) (v : Mem) (p2 : Int32) (post : Mem → Prop) : Prop :=
  ∀ y1 : Mem, y1 = mset y 2 0 0 → ∃ n16, PX2_collect_7 v post n16 y1 p2 0

def PX2_crossedPairs_16 (y : Mem) (post : Int32 → Prop) (K4 : Int32 → Int32 → Prop) : Nat → Int32 → Int32 → Int32 → Prop
  | 0, _, _, _ => False
  | n + 1, x1, x2, x3 => (((y 2 0) ≤ x3) → K4 x1 (x2 + 1)) ∧ ((¬ (y 2 0) ≤ x3) → vp_in x3 6 ∧ vp_in x2 6 ∧ (((y 0 (ix x2)) ≤ (y 0 (ix x3))) → PX2_crossedPairs_16 y post K4 n x1 x2 (x3 + 1)) ∧ ((¬ (y 0 (ix x2)) ≤ (y 0 (ix x3))) → PX2_crossedPairs_16 y post K4 n (x1 + 1) x2 (x3 + 1)))

def PX2_crossedPairs_4 (y : Mem) (post : Int32 → Prop) : Nat → Int32 → Int32 → Prop
  | 0, _, _ => False
  | n + 1, x1, x2 => (((y 2 0) ≤ x2) → post x1) ∧ ((¬ (y 2 0) ≤ x2) → ∀ q2 : Int32, q2 = x2 + 1 → ∃ n7, PX2_crossedPairs_16 y post (PX2_crossedPairs_4 y post n) n7 x1 x2 q2)

def PX2_crossedPairs (y : Mem) (post : Int32 → Prop) : Prop :=
  ∃ n8, PX2_crossedPairs_4 y post n8 0 0

def PX2_sortByMiddles_83 (post : Mem → Prop) (K2 : Mem → Int32 → Prop) (y : Mem) (x1 : Int32) (x2 : Int32) (x3 : Int32) (x4 : Int32) : Prop :=
  vp_in x4 6 ∧ ∀ y8 : Mem, y8 = mset y 0 (ix x4) x2 → vp_in x4 6 ∧ ∀ y10 : Mem, y10 = mset y8 1 (ix x4) x3 → K2 y10 (x1 + 1)

def PX2_sortByMiddles_27 (post : Mem → Prop) (K2 : Mem → Int32 → Prop) : Nat → Mem → Int32 → Int32 → Int32 → Int32 → Prop
  | 0, _, _, _, _, _ => False
  | n + 1, y, x1, x2, x3, x4 => ((x4 ≤ 0) → PX2_sortByMiddles_83 post K2 y x1 x2 x3 x4) ∧ ((¬ x4 ≤ 0) → vp_in (x4 - 1) 6 ∧ (((y 0 (ix (x4 - 1))) ≤ x2) → PX2_sortByMiddles_83 post K2 y x1 x2 x3 x4) ∧ ((¬ (y 0 (ix (x4 - 1))) ≤ x2) → vp_in (x4 - 1) 6 ∧ vp_in x4 6 ∧ ∀ y15 : Mem, y15 = mset y 0 (ix x4) (y 0 (ix (x4 - 1))) → vp_in (x4 - 1) 6 ∧ vp_in x4 6 ∧ ∀ y18 : Mem, y18 = mset y15 1 (ix x4) (y15 1 (ix (x4 - 1))) → PX2_sortByMiddles_27 post K2 n y18 x1 x2 x3 (x4 + (-1))))

def PX2_sortByMiddles_2 (post : Mem → Prop) : Nat → Mem → Int32 → Prop
  | 0, _, _ => False
  | n + 1, y, x1 => (((y 2 0) ≤ x1) → post y) ∧ ((¬ (y 2 0) ≤ x1) → vp_in x1 6 ∧ ∀ q3 : Int32, q3 = y 0 (ix x1) → vp_in x1 6 ∧ ∀ q5 : Int32, q5 = y 1 (ix x1) → ∃ n19, PX2_sortByMiddles_27 post (PX2_sortByMiddles_2 post n) n19 y x1 q3 q5 x1)

def PX2_sortByMiddles (y : Mem) (post : Mem → Prop) : Prop :=
  ∃ n20, PX2_sortByMiddles_2 post n20 y 1

def PX2_crossedOneByOne_18 (post : Int32 → Mem → Prop) (K8 : Mem → Int32 → Int32 → Prop) : Nat → Mem → Int32 → Int32 → Int32 → Prop
  | 0, _, _, _, _ => False
  | n + 1, y, x1, x2, x3 => ((x2 ≤ x3) → K8 y x1 (x2 + 1)) ∧ ((¬ x2 ≤ x3) → vp_in x3 6 ∧ vp_in x2 6 ∧ (((y 0 (ix x2)) ≤ (y 0 (ix x3))) → PX2_crossedOneByOne_18 post K8 n y x1 x2 (x3 + 1)) ∧ ((¬ (y 0 (ix x2)) ≤ (y 0 (ix x3))) → vp_in x3 6 ∧ vp_in x2 6 ∧ (((y 1 (ix x3)) ≤ (y 1 (ix x2))) → PX2_crossedOneByOne_18 post K8 n y x1 x2 (x3 + 1)) ∧ ((¬ (y 1 (ix x3)) ≤ (y 1 (ix x2))) → PX2_crossedOneByOne_18 post K8 n y (x1 + 1) x2 (x3 + 1))))

def PX2_crossedOneByOne_8 (post : Int32 → Mem → Prop) : Nat → Mem → Int32 → Int32 → Prop
  | 0, _, _, _ => False
  | n + 1, y, x1, x2 => (((y 2 0) ≤ x2) → post x1 y) ∧ ((¬ (y 2 0) ≤ x2) → ∃ n11, PX2_crossedOneByOne_18 post (PX2_crossedOneByOne_8 post n) n11 y x1 x2 0)

def PX2_crossedOneByOne (y : Mem) (post : Int32 → Mem → Prop) : Prop :=
  PX2_sortByMiddles y (fun y2 => ∃ n12, PX2_crossedOneByOne_8 post n12 y2 0 0)

def PX3_listPeople_7 (v : Mem) (post : Mem → Prop) : Nat → Mem → Int32 → Int32 → Prop
  | 0, _, _, _ => False
  | n + 1, x, x2, x3 => PX5_people v (fun r2 => ((r2 ≤ x3) → post x) ∧ ((¬ r2 ≤ x3) → ((6 ≤ (x 10 0)) → post x) ∧ ((¬ 6 ≤ (x 10 0)) → PX5_rowOf v x3 (fun r6 => ((¬ r6 = x2) → PX3_listPeople_7 v post n x x2 (x3 + 1)) ∧ ((r6 = x2) → vp_in (x 10 0) 6 ∧ ∀ x10 : Mem, x10 = mset x 0 (ix (x 10 0)) x3 → ∀ x11 : Mem, x11 = mset x10 10 0 ((x10 10 0) + 1) → PX3_listPeople_7 v post n x11 x2 (x3 + 1)))))
)
def PX3_listPeople (x : Mem) (v : Mem) (p2 : Int32) (post : Mem → Prop) : Prop :=
  ∀ x1 : Mem, x1 = mset x 10 0 0 → ∃ n12, PX3_listPeople_7 v post n12 x1 p2 0

def PX3_noteLinesTo_76 (v : Mem) (post : Mem → Prop) (K2 : Mem → Int32 → Prop) (x : Mem) (x2 : Int32) (x4 : Int32) : Prop :=
  vp_in x2 6 ∧ vp_in (x 0 (ix x2)) 20 ∧ ∀ x8 : Mem, x8 = mset x 3 (ix (x 0 (ix x2))) x4 → K2 x8 (x2 + 1)

def PX3_noteLinesTo_27 (v : Mem) (post : Mem → Prop) (K2 : Mem → Int32 → Prop) : Nat → Mem → Int32 → Int32 → Int32 → Int32 → Prop
  | 0, _, _, _, _, _ => False
  | n + 1, x, x2, x3, x4, x5 => (((x 10 0) ≤ x5) → PX3_noteLinesTo_76 v post K2 x x2 x4) ∧ ((¬ (x 10 0) ≤ x5) → ((x3 = ((-1))) → PX3_noteLinesTo_76 v post K2 x x2 x4) ∧ ((¬ x3 = ((-1))) → vp_in x5 6 ∧ PX5_middleAbove v (x 0 (ix x5)) (fun r11 => ((r11 ≤ x3) → PX3_noteLinesTo_27 v post K2 n x x2 x3 x4 (x5 + 1)) ∧ ((¬ r11 ≤ x3) → vp_in x5 6 ∧ ∀ q15 : Int32, q15 = x4 ||| (1 <<< ((x 0 (ix x5)) &&& 31)) → PX3_noteLinesTo_27 v post K2 n x x2 x3 q15 (x5 + 1)))))

def PX3_noteLinesTo_2 (v : Mem) (post : Mem → Prop) : Nat → Mem → Int32 → Prop
  | 0, _, _ => False
  | n + 1, x, x2 => (((x 10 0) ≤ x2) → post x) ∧ ((¬ (x 10 0) ≤ x2) → vp_in x2 6 ∧ PX5_middleAbove v (x 0 (ix x2)) (fun r3 => ∃ n16, PX3_noteLinesTo_27 v post (PX3_noteLinesTo_2 v post n) n16 x x2 r3 0 0))

def PX3_noteLinesTo (x : Mem) (v : Mem) (post : Mem → Prop) : Prop :=
  ∃ n17, PX3_noteLinesTo_2 v post n17 x 0

def PX3_indexOfCouple_2 (v : Mem) (post : Int32 → Mem → Prop) : Nat → Mem → Int32 → Int32 → Prop
  | 0, _, _, _ => False
  | n + 1, x, x2, x3 => (((x 11 0) ≤ x3) → (((x 11 0) < 6) → ∀ q3 : Int32, q3 = x 11 0 → ∀ x4 : Mem, x4 = mset x 11 0 ((x 11 0) + 1) → vp_in q3 6 ∧ ∀ x6 : Mem, x6 = mset x4 4 (ix q3) x2 → PX5_lesserOf v x2 (fun r7 => vp_in q3 6 ∧ ∀ x10 : Mem, x10 = mset x6 5 (ix q3) r7 → PX5_greaterOf v x2 (fun r11 => vp_in q3 6 ∧ ∀ x14 : Mem, x14 = mset x10 6 (ix q3) r11 → post q3 x14))) ∧ ((¬ (x 11 0) < 6) → post ((-1)) x)) ∧ ((¬ (x 11 0) ≤ x3) → vp_in x3 6 ∧ ((¬ (x 4 (ix x3)) = x2) → PX3_indexOfCouple_2 v post n x x2 (x3 + 1)) ∧ (((x 4 (ix x3)) = x2) → post x3 x))

def PX3_indexOfCouple (x : Mem) (v : Mem) (p2 : Int32) (post : Int32 → Mem → Prop) : Prop :=
  ∃ n17, PX3_indexOfCouple_2 v post n17 x p2 0

def PX3_listCouples_56 (v : Mem) (post : Mem → Prop) (K7 : Mem → Int32 → Int32 → Prop) (x : Mem) (x2 : Int32) (x3 : Int32) (z0 : Int32) (z1 : Int32) : Prop :=
  vp_in z1 6 ∧ ∀ x15 : Mem, x15 = mset x 8 (ix z1) z0 → K7 x15 x2 (x3 + 1)

def PX3_listCouples_7 (v : Mem) (post : Mem → Prop) : Nat → Mem → Int32 → Int32 → Prop
  | 0, _, _, _ => False
  | n + 1, x, x2, x3 => PX5_sizeOf v x2 (fun r2 => ((r2 ≤ x3) → post x) ∧ ((¬ r2 ≤ x3) → ((6 ≤ x3) → post x) ∧ ((¬ 6 ≤ x3) → PX5_personAt v x2 x3 (fun r6 => PX5_parentsOf v r6 (fun r8 => ((¬ r8 = ((-1))) → PX3_indexOfCouple x v r8 (fun r11 x13 => PX3_listCouples_56 v post (PX3_listCouples_7 v post n) x13 x2 x3 r11 x3)) ∧ ((r8 = ((-1))) → PX3_listCouples_56 v post (PX3_listCouples_7 v post n) x x2 x3 ((-1)) x3)))))
)
def PX3_listCouples (x : Mem) (v : Mem) (p2 : Int32) (post : Mem → Prop) : Prop :=
  ∀ x1 : Mem, x1 = mset x 11 0 0 → ∃ n16, PX3_listCouples_7 v post n16 x1 p2 0

def PX3_noteLinesFrom_52 (post : Mem → Prop) (K43 : Mem → Int32 → Int32 → Prop) : Nat → Mem → Int32 → Int32 → Int32 → Prop
  | 0, _, _, _, _ => False
  | n + 1, x, x1, x2, x3 => ((x1 ≤ x3) → K43 x x1 (x2 + 1)) ∧ ((¬ x1 ≤ x3) → vp_in x2 6 ∧ (((x 8 (ix x2)) = ((-1))) → PX3_noteLinesFrom_52 post K43 n x x1 x2 (x3 + 1)) ∧ ((¬ (x 8 (ix x2)) = ((-1))) → vp_in x3 6 ∧ (((x 8 (ix x3)) = ((-1))) → PX3_noteLinesFrom_52 post K43 n x x1 x2 (x3 + 1)) ∧ ((¬ (x 8 (ix x3)) = ((-1))) → vp_in x3 6 ∧ vp_in (x 8 (ix x3)) 6 ∧ vp_in x2 6 ∧ vp_in (x 8 (ix x2)) 6 ∧ vp_in (x 8 (ix x2)) 6 ∧ ∀ x14 : Mem, x14 = mset x (20 + ix (x 8 (ix x3))) (ix (x 8 (ix x2))) ((x (20 + ix (x 8 (ix x3))) (ix (x 8 (ix x2)))) + 1) → PX3_noteLinesFrom_52 post K43 n x14 x1 x2 (x3 + 1))))

def PX3_noteLinesFrom_43 (post : Mem → Prop) : Nat → Mem → Int32 → Int32 → Prop
  | 0, _, _, _ => False
  | n + 1, x, x1, x2 => ((x1 ≤ x2) → post x) ∧ ((¬ x1 ≤ x2) → ∀ q3 : Int32, q3 = x2 + 1 → ∃ n15, PX3_noteLinesFrom_52 post (PX3_noteLinesFrom_43 post n) n15 x x1 x2 q3)

def PX3_noteLinesFrom_12 (post : Mem → Prop) (K2 : Mem → Int32 → Int32 → Prop) : Nat → Mem → Int32 → Int32 → Int32 → Prop
  | 0, _, _, _, _ => False
  | n + 1, x, x1, x2, x3 => (((x 11 0) ≤ x3) → K2 x x1 (x2 + 1)) ∧ ((¬ (x 11 0) ≤ x3) → vp_in x2 6 ∧ vp_in x3 6 ∧ ∀ x20 : Mem, x20 = mset x (20 + ix x2) (ix x3) 0 → PX3_noteLinesFrom_12 post K2 n x20 x1 x2 (x3 + 1))

def PX3_noteLinesFrom_2 (post : Mem → Prop) : Nat → Mem → Int32 → Int32 → Prop
  | 0, _, _, _ => False
  | n + 1, x, x1, x2 => (((x 11 0) ≤ x2) → ∃ n16, PX3_noteLinesFrom_43 post n16 x x1 0) ∧ ((¬ (x 11 0) ≤ x2) → ∃ n21, PX3_noteLinesFrom_12 post (PX3_noteLinesFrom_2 post n) n21 x x1 x2 0)

def PX3_noteLinesFrom (x : Mem) (p1 : Int32) (post : Mem → Prop) : Prop :=
  ∃ n22, PX3_noteLinesFrom_2 post n22 x p1 0

def PX3_prepare (x : Mem) (v : Mem) (p2 : Int32) (post : Mem → Prop) : Prop :=
  PX3_listPeople x v p2 (fun x2 => PX3_noteLinesTo x2 v (fun x4 => PX3_listCouples x4 v (p2 + 1) (fun x6 => PX5_sizeOf v (p2 + 1) (fun r7 => PX3_noteLinesFrom x6 r7 (fun x10 => post x10)))))

def PJ6_bitCount_0f7a4 (p1 : Int32) (post : Int32 → Prop) : Prop :=
  ∀ q1 : Int32, q1 = p1 - (((p1.toUInt32 >>> ((1 : Int32).toUInt32 &&& Int32.toUInt32 31)).toInt32) &&& 1431655765) → ∀ q2 : Int32, q2 = (q1 &&& 858993459) + (((q1.toUInt32 >>> ((2 : Int32).toUInt32 &&& Int32.toUInt32 31)).toInt32) &&& 858993459) → ∀ q3 : Int32, q3 = (q2 + ((q2.toUInt32 >>> ((4 : Int32).toUInt32 &&& Int32.toUInt32 31)).toInt32)) &&& 252645135 → ∀ q4 : Int32, q4 = q3 + ((q3.toUInt32 >>> ((8 : Int32).toUInt32 &&& Int32.toUInt32 31)).toInt32) → ∀ q5 : Int32, q5 = q4 + ((q4.toUInt32 >>> ((16 : Int32).toUInt32 &&& Int32.toUInt32 31)).toInt32) → post (q5 &&& 63)

def PX3_crossingsFrom_76 (post : Int32 → Mem → Prop) (K4 : Mem → Int32 → Int32 → Int32 → Prop) : Nat → Mem → Int32 → Int32 → Int32 → Int32 → Prop
  | 0, _, _, _, _, _ => False
  | n + 1, x, x1, x2, x3, x5 => ((x3 ≤ x5) → K4 x x1 x2 (x3 + 1)) ∧ ((¬ x3 ≤ x5) → vp_in x3 6 ∧ (((x 7 (ix x3)) = ((-1))) → K4 x x1 x2 (x3 + 1)) ∧ ((¬ (x 7 (ix x3)) = ((-1))) → vp_in x5 6 ∧ ((¬ (x 7 (ix x5)) = ((-1))) → vp_in x5 6 ∧ vp_in x3 6 ∧ (((x 7 (ix x3)) ≤ (x 7 (ix x5))) → vp_in x3 6 ∧ vp_in x5 6 ∧ (((x 7 (ix x5)) ≤ (x 7 (ix x3))) → PX3_crossingsFrom_76 post K4 n x x1 x2 x3 (x5 + 1)) ∧ ((¬ (x 7 (ix x5)) ≤ (x 7 (ix x3))) → vp_in x3 6 ∧ vp_in x5 6 ∧ ∀ q21 : Int32, q21 = x2 + (x (20 + ix x3) (ix x5)) → PX3_crossingsFrom_76 post K4 n x x1 q21 x3 (x5 + 1))) ∧ ((¬ (x 7 (ix x3)) ≤ (x 7 (ix x5))) → vp_in x5 6 ∧ vp_in x3 6 ∧ ∀ q24 : Int32, q24 = x2 + (x (20 + ix x5) (ix x3)) → PX3_crossingsFrom_76 post K4 n x x1 q24 x3 (x5 + 1))) ∧ (((x 7 (ix x5)) = ((-1))) → PX3_crossingsFrom_76 post K4 n x x1 x2 x3 (x5 + 1))))

def PX3_crossingsFrom_72 (post : Int32 → Mem → Prop) (K4 : Mem → Int32 → Int32 → Int32 → Prop) (x : Mem) (x1 : Int32) (x2 : Int32) (x3 : Int32) (z0 : Int32) (z1 : Int32) : Prop :=
  vp_in z1 6 ∧ ∀ x7 : Mem, x7 = mset x 7 (ix z1) z0 → ∃ n25, PX3_crossingsFrom_76 post K4 n25 x7 x1 x2 x3 0

def PX3_crossingsFrom_4 (post : Int32 → Mem → Prop) : Nat → Mem → Int32 → Int32 → Int32 → Prop
  | 0, _, _, _, _ => False
  | n + 1, x, x1, x2, x3 => (((x 11 0) ≤ x3) → post x2 x) ∧ ((¬ (x 11 0) ≤ x3) → vp_in x3 6 ∧ vp_in x3 6 ∧ ∀ q4 : Int32, q4 = (1 <<< ((x 5 (ix x3)) &&& 31)) ||| (1 <<< ((x 6 (ix x3)) &&& 31)) → ((¬ (x1 &&& q4) = q4) → PX3_crossingsFrom_72 post (PX3_crossingsFrom_4 post n) x x1 x2 x3 ((-1)) x3) ∧ (((x1 &&& q4) = q4) → vp_in x3 6 ∧ vp_in (x 5 (ix x3)) 20 ∧ vp_in x3 6 ∧ vp_in (x 6 (ix x3)) 20 ∧ PX3_crossingsFrom_72 post (PX3_crossingsFrom_4 post n) x x1 x2 x3 ((x 2 (ix (x 5 (ix x3)))) + (x 2 (ix (x 6 (ix x3))))) x3))

def PX3_crossingsFrom (x : Mem) (p1 : Int32) (post : Int32 → Mem → Prop) : Prop :=
  ∃ n30, PX3_crossingsFrom_4 post n30 x p1 0 0

def PX3_crossingsOfFirst_7 (post : Int32 → Mem → Prop) : Nat → Mem → Int32 → Int32 → Int32 → Int32 → Prop
  | 0, _, _, _, _, _ => False
  | n + 1, x, x1, x2, x3, x4 => ((x1 ≤ x4) → PX3_crossingsFrom x x3 (fun r2 x4 => post (x2 + r2) x4)) ∧ ((¬ x1 ≤ x4) → vp_in x4 6 ∧ ∀ q6 : Int32, q6 = x 0 (ix x4) → vp_in q6 20 ∧ PJ6_bitCount_0f7a4 (x3 &&& (x 3 (ix q6))) (fun r8 => ∀ q10 : Int32, q10 = x2 + r8 → ∀ q11 : Int32, q11 = x3 ||| (1 <<< (q6 &&& 31)) → vp_in q6 20 ∧ ∀ x13 : Mem, x13 = mset x 2 (ix q6) x4 → PX3_crossingsOfFirst_7 post n x13 x1 q10 q11 (x4 + 1)))

def PX3_crossingsOfFirst (x : Mem) (p1 : Int32) (post : Int32 → Mem → Prop) : Prop :=
  ∃ n14, PX3_crossingsOfFirst_7 post n14 x p1 0 0 0

def PX3_exchange (x : Mem) (p1 : Int32) (p2 : Int32) (post : Mem → Prop) : Prop :=
  vp_in p1 6 ∧ ∀ q2 : Int32, q2 = x 0 (ix p1) → vp_in p2 6 ∧ vp_in p1 6 ∧ ∀ x5 : Mem, x5 = mset x 0 (ix p1) (x 0 (ix p2)) → vp_in p2 6 ∧ ∀ x7 : Mem, x7 = mset x5 0 (ix p2) q2 → post x7

def PX3_goToNextOrder_93 (post : Int32 → Mem → Prop) : Nat → Mem → Int32 → Int32 → Prop
  | 0, _, _, _ => False
  | n + 1, x, x3, x4 => ((x4 ≤ x3) → post 1 x) ∧ ((¬ x4 ≤ x3) → PX3_exchange x x3 x4 (fun x12 => PX3_goToNextOrder_93 post n x12 (x3 + 1) (x4 + (-1))))

def PX3_goToNextOrder_75 (post : Int32 → Mem → Prop) (x : Mem) (x1 : Int32) (x2 : Int32) : Prop :=
  PX3_exchange x x1 x2 (fun x7 => ∀ q8 : Int32, q8 = x1 + 1 → ∀ q9 : Int32, q9 = (x7 10 0) - 1 → ∃ n13, PX3_goToNextOrder_93 post n13 x7 q8 q9
)
def PX3_goToNextOrder_47 (post : Int32 → Mem → Prop) : Nat → Mem → Int32 → Int32 → Prop
  | 0, _, _, _ => False
  | n + 1, x, x1, x2 => ((x2 ≤ (x1 + 1)) → PX3_goToNextOrder_75 post x x1 x2) ∧ ((¬ x2 ≤ (x1 + 1)) → vp_in x2 6 ∧ vp_in x1 6 ∧ (((x 0 (ix x1)) ≤ (x 0 (ix x2))) → PX3_goToNextOrder_75 post x x1 x2) ∧ ((¬ (x 0 (ix x1)) ≤ (x 0 (ix x2))) → PX3_goToNextOrder_47 post n x x1 (x2 + (-1))))

def PX3_goToNextOrder_34 (post : Int32 → Mem → Prop) (x : Mem) (x1 : Int32) : Prop :=
  ((0 ≤ x1) → ∀ q4 : Int32, q4 = (x 10 0) - 1 → ∃ n17, PX3_goToNextOrder_47 post n17 x x1 q4) ∧ ((¬ 0 ≤ x1) → post 0 x)

def PX3_goToNextOrder_7 (post : Int32 → Mem → Prop) : Nat → Mem → Int32 → Prop
  | 0, _, _ => False
  | n + 1, x, x1 => ((x1 < 0) → PX3_goToNextOrder_34 post x x1) ∧ ((¬ x1 < 0) → vp_in x1 6 ∧ vp_in (x1 + 1) 6 ∧ (((x 0 (ix x1)) ≤ (x 0 (ix (x1 + 1)))) → PX3_goToNextOrder_34 post x x1) ∧ ((¬ (x 0 (ix x1)) ≤ (x 0 (ix (x1 + 1)))) → PX3_goToNextOrder_7 post n x (x1 + (-1))))

def PX3_goToNextOrder (x : Mem) (post : Int32 → Mem → Prop) : Prop :=
  ∀ q1 : Int32, q1 = (x 10 0) - 2 → ∃ n21, PX3_goToNextOrder_7 post n21 x q1

def PX3_leastByAllOrders_59 (post : Int32 → Mem → Prop) (K11 : Mem → Int32 → Int32 → Prop) (x : Mem) (x2 : Int32) : Prop :=
  PX3_goToNextOrder x (fun r8 x10 => K11 x10 r8 (x2 + 1)
)
def PX3_leastByAllOrders_11 (post : Int32 → Mem → Prop) : Nat → Mem → Int32 → Int32 → Prop
  | 0, _, _, _ => False
  | n + 1, x, x1, x2 => ((720 ≤ x2) → post (x 12 0) x) ∧ ((¬ 720 ≤ x2) → ((x1 = 0) → post (x 12 0) x) ∧ ((¬ x1 = 0) → PX3_crossingsOfFirst x (x 10 0) (fun r4 x6 => (((x6 12 0) ≤ r4) → PX3_leastByAllOrders_59 post (PX3_leastByAllOrders_11 post n) x6 x2) ∧ ((¬ (x6 12 0) ≤ r4) → ∀ x11 : Mem, x11 = mset x6 12 0 r4 → ∀ x12 : Mem, x12 = mrow x11 1 (va_cpy (x11 0) (x11 1) 0 0 6) → PX3_leastByAllOrders_59 post (PX3_leastByAllOrders_11 post n) x12 x2))))

def PX3_leastByAllOrders (x : Mem) (post : Int32 → Mem → Prop) : Prop :=
  ∀ x1 : Mem, x1 = mset x 12 0 1000 → ∃ n13, PX3_leastByAllOrders_11 post n13 x1 1 0

def PX3_layBest_2 (x : Mem) (post : Mem → Prop) : Nat → Mem → Int32 → Int32 → Prop
  | 0, _, _, _ => False
  | n + 1, v, x2, x3 => (((x 10 0) ≤ x3) → post v) ∧ ((¬ (x 10 0) ≤ x3) → vp_in x3 6 ∧ PX5_lay v x2 x3 (x 1 (ix x3)) (fun v4 => PX3_layBest_2 x post n v4 x2 (x3 + 1)))

def PX3_layBest (x : Mem) (v : Mem) (p2 : Int32) (post : Mem → Prop) : Prop :=
  ∃ n5, PX3_layBest_2 x post n5 v p2 0

def PX3_layOn_29 (post : Mem → Prop) (rc : Mem → Int32 → (Mem → Prop) → Prop) (x : Mem) (x2 : Int32) : Prop :=
  ∀ x6 : Mem, x6 = mset x 12 0 x2 → post x6

def PX3_layOn_37 (post : Mem → Prop) (rc : Mem → Int32 → (Mem → Prop) → Prop) : Nat → Mem → Int32 → Int32 → Prop
  | 0, _, _, _ => False
  | n + 1, x, x1, x3 => (((x 10 0) ≤ x3) → post x) ∧ ((¬ (x 10 0) ≤ x3) → PX3_exchange x x1 x3 (fun x10 => rc x10 (x1 + 1) (fun x12 => PX3_exchange x12 x1 x3 (fun x14 => PX3_layOn_37 post rc n x14 x1 (x3 + 1)))))

def PX3_layOnB (rc : Mem → Int32 → (Mem → Prop) → Prop) (x : Mem) (p2 : Int32) (post : Mem → Prop) : Prop :=
  PX3_crossingsOfFirst x p2 (fun r1 x3 => ((r1 < (x3 12 0)) → (((x3 10 0) ≤ p2) → PX3_layOn_29 post rc x3 r1) ∧ ((¬ (x3 10 0) ≤ p2) → ((p2 < 6) → ∃ n15, PX3_layOn_37 post rc n15 x3 p2 p2) ∧ ((¬ p2 < 6) → PX3_layOn_29 post rc x3 r1))) ∧ ((¬ r1 < (x3 12 0)) → post x3))

def PX3_layOn : Nat → Mem → Int32 → (Mem → Prop) → Prop
  | 0 => fun _ _ _ => False
  | d + 1 => PX3_layOnB (PX3_layOn d)

def PX3_leastByLaying (x : Mem) (post : Int32 → Mem → Prop) : Prop :=
  ∀ x1 : Mem, x1 = mset x 12 0 1000 → PX3_layOn 8 x1 0 (fun x3 => post (x3 12 0) x3)

def PX4_size (b : Mem) (post : Int32 → Prop) : Prop :=
  post (b 2 0)

def PX5_copyFrom (v : Mem) (vo : Mem) (post : Mem → Prop) : Prop :=
  ∀ v1 : Mem, v1 = mrow v 0 (va_cpy (vo 0) (v 0) 0 0 20) → ∀ v2 : Mem, v2 = mrow v1 1 (va_cpy (vo 1) (v1 1) 0 0 20) → ∀ v3 : Mem, v3 = mrow v2 2 (va_cpy (vo 2) (v2 2) 0 0 20) → ∀ v4 : Mem, v4 = mrow v3 3 (va_cpy (vo 3) (v3 3) 0 0 10) → ∀ v5 : Mem, v5 = mrow v4 4 (va_cpy (vo 4) (v4 4) 0 0 10) → ∀ v6 : Mem, v6 = mrow v5 5 (va_cpy (vo 5) (v5 5) 0 0 24) → ∀ v7 : Mem, v7 = mrow v6 6 (va_cpy (vo 6) (v6 6) 0 0 4) → ∀ v8 : Mem, v8 = mset v7 7 0 (vo 7 0) → ∀ v9 : Mem, v9 = mset v8 8 0 (vo 8 0) → ∀ v10 : Mem, v10 = mset v9 9 0 (vo 9 0) → post v10

def PX4_push (b : Mem) (r : Nat → Mem) (v : Mem) (post : Mem → (Nat → Mem) → Prop) : Prop :=
  vp_in (((b 1 0) + (b 2 0)) - ((b 1 0) + (b 2 0)) / 6 * 6) 6 ∧ PX5_copyFrom (r (ix (((b 1 0) + (b 2 0)) - ((b 1 0) + (b 2 0)) / 6 * 6))) v (fun r34 => ∀ r35 : Nat → Mem, r35 = rset r (ix (((b 1 0) + (b 2 0)) - ((b 1 0) + (b 2 0)) / 6 * 6)) r34 → ((6 ≤ (b 2 0)) → ∀ b37 : Mem, b37 = mset b 1 0 (((b 1 0) + 1) - ((b 1 0) + 1) / 6 * 6) → post b37 r35) ∧ ((¬ 6 ≤ (b 2 0)) → ∀ b38 : Mem, b38 = mset b 2 0 ((b 2 0) + 1) → post b38 r35))

def PX4_popTo (b : Mem) (r : Nat → Mem) (v : Mem) (post : Mem → Mem → Prop) : Prop :=
  (((b 2 0) ≤ 0) → post b v) ∧ ((¬ (b 2 0) ≤ 0) → ∀ b2 : Mem, b2 = mset b 2 0 ((b 2 0) - 1) → vp_in (((b2 1 0) + (b2 2 0)) - ((b2 1 0) + (b2 2 0)) / 6 * 6) 6 ∧ PX5_copyFrom v (r (ix (((b2 1 0) + (b2 2 0)) - ((b2 1 0) + (b2 2 0)) / 6 * 6))) (fun v16 => post b2 v16))

def PX5_refused (v : Mem) (post : Int32 → Prop) : Prop :=
  post (v 9 0)

def PX5_addPerson_30 (post : Int32 → Mem → Prop) (v : Mem) : Prop :=
  ∀ v4 : Mem, v4 = mset v 9 0 ((v 9 0) + 1) → post ((-1)) v4

def PX5_addPerson (v : Mem) (p1 : Int32) (p2 : Int32) (post : Int32 → Mem → Prop) : Prop :=
  PX5_sizeOf v p1 (fun r1 => ((p1 < 0) → PX5_addPerson_30 post v) ∧ ((¬ p1 < 0) → ((4 ≤ p1) → PX5_addPerson_30 post v) ∧ ((¬ 4 ≤ p1) → ((6 ≤ r1) → PX5_addPerson_30 post v) ∧ ((¬ 6 ≤ r1) → (((v 7 0) < 20) → ∀ q8 : Int32, q8 = v 7 0 → ∀ v9 : Mem, v9 = mset v 7 0 ((v 7 0) + 1) → vp_in p1 4 ∧ vp_in p1 4 ∧ ∀ v12 : Mem, v12 = mset v9 6 (ix p1) ((v9 6 (ix p1)) + 1) → vp_in q8 20 ∧ ∀ v14 : Mem, v14 = mset v12 0 (ix q8) p1 → vp_in q8 20 ∧ ∀ v16 : Mem, v16 = mset v14 2 (ix q8) p2 → PX5_lay v16 p1 r1 q8 (fun v18 => post q8 v18)) ∧ ((¬ (v 7 0) < 20) → PX5_addPerson_30 post v)))))

def PX5_addChild (v : Mem) (p1 : Int32) (post : Int32 → Mem → Prop) : Prop :=
  PX5_lesserOf v p1 (fun r1 => PX5_rowOf v r1 (fun r3 => PX5_addPerson v (r3 + 1) p1 (fun r5 v7 => post r5 v7)))

def PX5_areCouple_2 (v : Mem) (post : Int32 → Prop) : Nat → Int32 → Int32 → Int32 → Prop
  | 0, _, _, _ => False
  | n + 1, x1, x2, x3 => (((v 8 0) ≤ x3) → post 0) ∧ ((¬ (v 8 0) ≤ x3) → vp_in x3 10 ∧ ((¬ (v 3 (ix x3)) = x1) → PX5_areCouple_2 v post n x1 x2 (x3 + 1)) ∧ (((v 3 (ix x3)) = x1) → vp_in x3 10 ∧ ((¬ (v 4 (ix x3)) = x2) → PX5_areCouple_2 v post n x1 x2 (x3 + 1)) ∧ (((v 4 (ix x3)) = x2) → post 1)))

def PX5_areCouple (v : Mem) (p1 : Int32) (p2 : Int32) (post : Int32 → Prop) : Prop :=
  ∃ n6, PX5_areCouple_2 v post n6 p1 p2 0

def PX5_couplesWith_4 (v : Mem) (post : Int32 → Prop) : Nat → Int32 → Int32 → Int32 → Prop
  | 0, _, _, _ => False
  | n + 1, x1, x2, x3 => (((v 8 0) ≤ x3) → post x2) ∧ ((¬ (v 8 0) ≤ x3) → vp_in x3 10 ∧ (((v 3 (ix x3)) = x1) → PX5_couplesWith_4 v post n x1 (x2 + 1) (x3 + 1)) ∧ ((¬ (v 3 (ix x3)) = x1) → vp_in x3 10 ∧ ((¬ (v 4 (ix x3)) = x1) → PX5_couplesWith_4 v post n x1 x2 (x3 + 1)) ∧ (((v 4 (ix x3)) = x1) → PX5_couplesWith_4 v post n x1 (x2 + 1) (x3 + 1))))

def PX5_couplesWith (v : Mem) (p1 : Int32) (post : Int32 → Prop) : Prop :=
  ∃ n6, PX5_couplesWith_4 v post n6 p1 0 0

def PX5_isDouble (v : Mem) (p1 : Int32) (post : Int32 → Prop) : Prop :=
  PX5_couplesWith v p1 (fun r1 => ((r1 < 2) → post 0) ∧ ((¬ r1 < 2) → post 1))

def PX5_reasonAgainst (v : Mem) (p1 : Int32) (p2 : Int32) (post : Int32 → Prop) : Prop :=
  (((v 8 0) < 10) → PX5_rowOf v p1 (fun r2 => PX5_rowOf v p2 (fun r4 => ((¬ r2 = r4) → post 2) ∧ ((r2 = r4) → PX5_rowOf v p1 (fun r7 => ((¬ r7 = 3) → PX5_areCouple v (if p2 < p1 then p2 else p1) (if p1 < p2 then p2 else p1) (fun r10 => ((r10 = 0) → PX5_isDouble v p1 (fun r13 => ((¬ r13 = 0) → post 4) ∧ ((r13 = 0) → PX5_isDouble v p2 (fun r16 => ((r16 = 0) → post 0) ∧ ((¬ r16 = 0) → post 4))))) ∧ ((¬ r10 = 0) → post 3))) ∧ ((r7 = 3) → post 2)))))) ∧ ((¬ (v 8 0) < 10) → post 1)

def PX5_addCouple (v : Mem) (p1 : Int32) (p2 : Int32) (post : Int32 → Mem → Prop) : Prop :=
  PX5_reasonAgainst v p1 p2 (fun r1 => ((r1 = 0) → ∀ q4 : Int32, q4 = v 8 0 → ∀ v5 : Mem, v5 = mset v 8 0 ((v 8 0) + 1) → vp_in q4 10 ∧ ∀ v7 : Mem, v7 = mset v5 3 (ix q4) (if p2 < p1 then p2 else p1) → vp_in q4 10 ∧ ∀ v9 : Mem, v9 = mset v7 4 (ix q4) (if p1 < p2 then p2 else p1) → post (q4 + 10) v9) ∧ ((¬ r1 = 0) → ∀ v10 : Mem, v10 = mset v 9 0 ((v 9 0) + 1) → post r1 v10))

def PX5_exchange (v : Mem) (p1 : Int32) (p2 : Int32) (post : Mem → Prop) : Prop :=
  PX5_personAt v p1 p2 (fun r1 => PX5_personAt v p1 (p2 + 1) (fun r3 => ((r1 = ((-1))) → post v) ∧ ((¬ r1 = ((-1))) → ((r3 = ((-1))) → post v) ∧ ((¬ r3 = ((-1))) → PX5_lay v p1 p2 r3 (fun v8 => PX5_lay v8 p1 (p2 + 1) r1 (fun v10 => post v10))))))

def PX5_childrenOf_4 (v : Mem) (post : Int32 → Prop) : Nat → Int32 → Int32 → Int32 → Prop
  | 0, _, _, _ => False
  | n + 1, x1, x2, x3 => (((v 7 0) ≤ x3) → post x2) ∧ ((¬ (v 7 0) ≤ x3) → vp_in x3 20 ∧ ((¬ (v 2 (ix x3)) = x1) → PX5_childrenOf_4 v post n x1 x2 (x3 + 1)) ∧ (((v 2 (ix x3)) = x1) → PX5_childrenOf_4 v post n x1 (x2 + 1) (x3 + 1)))

def PX5_childrenOf (v : Mem) (p1 : Int32) (post : Int32 → Prop) : Prop :=
  ∃ n4, PX5_childrenOf_4 v post n4 p1 0 0

def PX5_childrenWith_32 (v : Mem) (post : Int32 → Prop) (K4 : Int32 → Int32 → Int32 → Prop) (x1 : Int32) (x2 : Int32) (x3 : Int32) : Prop :=
  PX5_childrenOf v x3 (fun r4 => ∀ q6 : Int32, q6 = x2 + r4 → K4 x1 q6 (x3 + 1)
)
def PX5_childrenWith_4 (v : Mem) (post : Int32 → Prop) : Nat → Int32 → Int32 → Int32 → Prop
  | 0, _, _, _ => False
  | n + 1, x1, x2, x3 => (((v 8 0) ≤ x3) → post x2) ∧ ((¬ (v 8 0) ≤ x3) → vp_in x3 10 ∧ (((v 3 (ix x3)) = x1) → PX5_childrenWith_32 v post (PX5_childrenWith_4 v post n) x1 x2 x3) ∧ ((¬ (v 3 (ix x3)) = x1) → vp_in x3 10 ∧ ((¬ (v 4 (ix x3)) = x1) → PX5_childrenWith_4 v post n x1 x2 (x3 + 1)) ∧ (((v 4 (ix x3)) = x1) → PX5_childrenWith_32 v post (PX5_childrenWith_4 v post n) x1 x2 x3)))

def PX5_childrenWith (v : Mem) (p1 : Int32) (post : Int32 → Prop) : Prop :=
  ∃ n9, PX5_childrenWith_4 v post n9 p1 0 0

def PX5_lines (v : Mem) (post : Int32 → Prop) : Prop :=
  PX5_childrenOf v ((-1)) (fun r1 => post ((v 7 0) - r1))

def PX5_bentLines_4 (v : Mem) (post : Int32 → Prop) : Nat → Int32 → Int32 → Prop
  | 0, _, _ => False
  | n + 1, x1, x2 => (((v 7 0) ≤ x2) → post x1) ∧ ((¬ (v 7 0) ≤ x2) → vp_in x2 20 ∧ (((v 2 (ix x2)) = ((-1))) → PX5_bentLines_4 v post n x1 (x2 + 1)) ∧ ((¬ (v 2 (ix x2)) = ((-1))) → PX5_middleAbove v x2 (fun r4 => vp_in x2 20 ∧ ((r4 = (2 * (v 1 (ix x2)))) → PX5_bentLines_4 v post n x1 (x2 + 1)) ∧ ((¬ r4 = (2 * (v 1 (ix x2)))) → PX5_bentLines_4 v post n (x1 + 1) (x2 + 1)))))

def PX5_bentLines (v : Mem) (post : Int32 → Prop) : Prop :=
  ∃ n8, PX5_bentLines_4 v post n8 0 0

def PX5_doubles_4 (v : Mem) (post : Int32 → Prop) : Nat → Int32 → Int32 → Prop
  | 0, _, _ => False
  | n + 1, x1, x2 => (((v 7 0) ≤ x2) → post x1) ∧ ((¬ (v 7 0) ≤ x2) → PX5_isDouble v x2 (fun r2 => ((r2 = 0) → PX5_doubles_4 v post n x1 (x2 + 1)) ∧ ((¬ r2 = 0) → PX5_doubles_4 v post n (x1 + 1) (x2 + 1))))

def PX5_doubles (v : Mem) (post : Int32 → Prop) : Prop :=
  ∃ n5, PX5_doubles_4 v post n5 0 0

def PX6_length (tx : Mem) (post : Int32 → Prop) : Prop :=
  post (tx 1 0)

def PX6_isFull (tx : Mem) (post : Int32 → Prop) : Prop :=
  (((tx 1 0) < 60) → post 0) ∧ ((¬ (tx 1 0) < 60) → post 1)

def PX6_codeAt (tx : Mem) (p1 : Int32) (post : Int32 → Prop) : Prop :=
  ((p1 < 0) → post ((-1))) ∧ ((¬ p1 < 0) → (((tx 1 0) ≤ p1) → post ((-1))) ∧ ((¬ (tx 1 0) ≤ p1) → vp_in p1 60 ∧ post (tx 0 (ix p1))))

def PX6_add (tx : Mem) (p1 : Int32) (post : Int32 → Mem → Prop) : Prop :=
  ((60 ≤ (tx 1 0)) → post (tx 1 0) tx) ∧ ((¬ 60 ≤ (tx 1 0)) → vp_in (tx 1 0) 60 ∧ ∀ tx3 : Mem, tx3 = mset tx 0 (ix (tx 1 0)) p1 → ∀ tx4 : Mem, tx4 = mset tx3 1 0 ((tx3 1 0) + 1) → post (tx4 1 0) tx4)

def PX6_empty (tx : Mem) (post : Int32 → Mem → Prop) : Prop :=
  ∀ q1 : Int32, q1 = tx 1 0 → ∀ tx2 : Mem, tx2 = mset tx 1 0 0 → post q1 tx2

def PX6_stateBehindStart_14 (post : Int32 → Prop) (x0 : Int32) : Prop :=
  ((¬ x0 = 43) → ((¬ x0 = 94) → post 8) ∧ ((x0 = 94) → post 7)) ∧ ((x0 = 43) → post 2)

def PX6_stateBehindStart (p1 : Int32) (post : Int32 → Prop) : Prop :=
  ((p1 < 48) → PX6_stateBehindStart_14 post p1) ∧ ((¬ p1 < 48) → ((52 ≤ p1) → PX6_stateBehindStart_14 post p1) ∧ ((¬ 52 ≤ p1) → post 1))

def PX6_isDigit (p1 : Int32) (post : Int32 → Prop) : Prop :=
  ((p1 < 48) → post 0) ∧ ((¬ p1 < 48) → ((57 < p1) → post 0) ∧ ((¬ 57 < p1) → post 1))

def PX6_stateBehindDigit (p1 : Int32) (p2 : Int32) (p3 : Int32) (post : Int32 → Prop) : Prop :=
  PX6_isDigit p1 (fun r1 => ((¬ r1 = 0) → ((¬ p1 = 49) → post p3) ∧ ((p1 = 49) → post p2)) ∧ ((r1 = 0) → post 8))

def PX6_stateBehind (p1 : Int32) (p2 : Int32) (post : Int32 → Prop) : Prop :=
  (p1 = 0 → PX6_stateBehindStart p2 (fun r2 => post r2)) ∧ (¬ p1 = 0 → (p1 = 1 → ((¬ p2 = 59) → post 8) ∧ ((p2 = 59) → post 0)) ∧ (¬ p1 = 1 → (p1 = 2 → PX6_stateBehindDigit p2 3 4 (fun r7 => post r7)) ∧ (¬ p1 = 2 → (p1 = 3 → PX6_isDigit p2 (fun r10 => ((r10 = 0) → ((¬ p2 = 38) → post 8) ∧ ((p2 = 38) → post 5)) ∧ ((¬ r10 = 0) → post 4))) ∧ (¬ p1 = 3 → (p1 = 4 → ((¬ p2 = 38) → post 8) ∧ ((p2 = 38) → post 5)) ∧ (¬ p1 = 4 → (p1 = 5 → PX6_stateBehindDigit p2 6 1 (fun r17 => post r17)) ∧ (¬ p1 = 5 → (p1 = 6 → PX6_isDigit p2 (fun r20 => ((r20 = 0) → ((¬ p2 = 59) → post 8) ∧ ((p2 = 59) → post 0)) ∧ ((¬ r20 = 0) → post 1))) ∧ (¬ p1 = 6 → (p1 = 7 → PX6_isDigit p2 (fun r25 => ((r25 = 0) → post 8) ∧ ((¬ r25 = 0) → post 1))) ∧ (¬ p1 = 7 → post 8))))))))

def PX6_firstBad_4 (tx : Mem) (post : Int32 → Prop) : Nat → Int32 → Int32 → Prop
  | 0, _, _ => False
  | n + 1, x1, x2 => (((tx 1 0) ≤ x2) → post (tx 1 0)) ∧ ((¬ (tx 1 0) ≤ x2) → vp_in x2 60 ∧ PX6_stateBehind x1 (tx 0 (ix x2)) (fun r3 => ((¬ r3 = 8) → PX6_firstBad_4 tx post n r3 (x2 + 1)) ∧ ((r3 = 8) → post x2)))

def PX6_firstBad (tx : Mem) (post : Int32 → Prop) : Prop :=
  ∃ n6, PX6_firstBad_4 tx post n6 0 0

def PX6_isWhole_4 (tx : Mem) (post : Int32 → Prop) : Nat → Int32 → Int32 → Prop
  | 0, _, _ => False
  | n + 1, x1, x2 => (((tx 1 0) ≤ x2) → ((x1 = 1) → post 1) ∧ ((¬ x1 = 1) → ((¬ x1 = 6) → post 0) ∧ ((x1 = 6) → post 1))) ∧ ((¬ (tx 1 0) ≤ x2) → vp_in x2 60 ∧ PX6_stateBehind x1 (tx 0 (ix x2)) (fun r5 => PX6_isWhole_4 tx post n r5 (x2 + 1)))

def PX6_isWhole (tx : Mem) (post : Int32 → Prop) : Prop :=
  ∃ n7, PX6_isWhole_4 tx post n7 0 0

def PX6_startReading (tx : Mem) (post : Mem → Prop) : Prop :=
  ∀ tx1 : Mem, tx1 = mset tx 2 0 0 → post tx1

def PX6_readNumber_2 (post : Int32 → Mem → Prop) : Nat → Mem → Int32 → Prop
  | 0, _, _ => False
  | n + 1, tx, x1 => PX6_codeAt tx (tx 2 0) (fun r1 => PX6_isDigit r1 (fun r3 => ((r3 = 0) → post x1 tx) ∧ ((¬ r3 = 0) → (((tx 1 0) ≤ (tx 2 0)) → post x1 tx) ∧ ((¬ (tx 1 0) ≤ (tx 2 0)) → PX6_codeAt tx (tx 2 0) (fun r7 => ∀ q9 : Int32, q9 = ((10 * x1) + r7) - 48 → ∀ tx10 : Mem, tx10 = mset tx 2 0 ((tx 2 0) + 1) → PX6_readNumber_2 post n tx10 q9)))
))
def PX6_readNumber (tx : Mem) (post : Int32 → Mem → Prop) : Prop :=
  ∃ n11, PX6_readNumber_2 post n11 tx 0

def PX6_readItem_111 (post : Int32 → Mem → Prop) (tx : Mem) : Prop :=
  ∀ tx11 : Mem, tx11 = mset tx 2 0 ((tx 2 0) + 1) → post 1 tx11

def PX6_readItem (tx : Mem) (post : Int32 → Mem → Prop) : Prop :=
  PX6_codeAt tx (tx 2 0) (fun r1 => ((¬ r1 = ((-1))) → ((¬ r1 = 43) → ((¬ r1 = 94) → ∀ tx6 : Mem, tx6 = mset tx 3 0 0 → PX6_readNumber tx6 (fun r7 tx9 => ∀ tx10 : Mem, tx10 = mset tx9 4 0 r7 → PX6_readItem_111 post tx10)) ∧ ((r1 = 94) → ∀ tx12 : Mem, tx12 = mset tx 3 0 2 → ∀ tx13 : Mem, tx13 = mset tx12 2 0 ((tx12 2 0) + 1) → PX6_readNumber tx13 (fun r14 tx16 => ∀ tx17 : Mem, tx17 = mset tx16 4 0 r14 → PX6_readItem_111 post tx17))) ∧ ((r1 = 43) → ∀ tx18 : Mem, tx18 = mset tx 3 0 1 → ∀ tx19 : Mem, tx19 = mset tx18 2 0 ((tx18 2 0) + 1) → PX6_readNumber tx19 (fun r20 tx22 => ∀ tx23 : Mem, tx23 = mset tx22 4 0 r20 → ∀ tx24 : Mem, tx24 = mset tx23 2 0 ((tx23 2 0) + 1) → PX6_readNumber tx24 (fun r25 tx27 => ∀ tx28 : Mem, tx28 = mset tx27 5 0 r25 → PX6_readItem_111 post tx28)))) ∧ ((r1 = ((-1))) → post 0 tx))

def PX6_itemKind (tx : Mem) (post : Int32 → Prop) : Prop :=
  post (tx 3 0)

def PX6_firstNumber (tx : Mem) (post : Int32 → Prop) : Prop :=
  post (tx 4 0)

def PX6_secondNumber (tx : Mem) (post : Int32 → Prop) : Prop :=
  post (tx 5 0)

def PX7_isRow (p1 : Int32) (post : Int32 → Prop) : Prop :=
  ((p1 < 0) → post 0) ∧ ((¬ p1 < 0) → ((4 ≤ p1) → post 0) ∧ ((¬ 4 ≤ p1) → post 1))

def PX7_allCrossings_4 (kc : Mem) (v : Mem) (post : Int32 → Mem → Prop) : Nat → Mem → Int32 → Int32 → Prop
  | 0, _, _, _ => False
  | n + 1, y, x1, x2 => ((4 ≤ x2) → post x1 y) ∧ ((¬ 4 ≤ x2) → PX2_collect y v x2 (fun y3 => PX2_crossedPairs y3 (fun r4 => ∀ q6 : Int32, q6 = x1 + r4 → PX7_allCrossings_4 kc v post n y3 q6 (x2 + 1))))

def PX7_allCrossings (kc : Mem) (v : Mem) (y : Mem) (post : Int32 → Mem → Prop) : Prop :=
  ∃ n7, PX7_allCrossings_4 kc v post n7 y 0 0

def PX7_clearBuffer (kc : Mem) (tx : Mem) (post : Int32 → Mem → Prop) : Prop :=
  PX6_empty tx (fun r1 tx3 => post r1 tx3)

def PX7_firstError (kc : Mem) (tx : Mem) (post : Int32 → Prop) : Prop :=
  PX6_firstBad tx (fun r1 => post r1)

def PX7_doItem (kc : Mem) (v : Mem) (tx : Mem) (post : Int32 → Mem → Prop) : Prop :=
  PX6_firstNumber tx (fun r1 => PX6_secondNumber tx (fun r3 => PX6_itemKind tx (fun r5 => (r5 = 1 → PX5_isPerson v r1 (fun r8 => ((r8 = 0) → post 0 v) ∧ ((¬ r8 = 0) → PX5_isPerson v r3 (fun r11 => ((r11 = 0) → post 0 v) ∧ ((¬ r11 = 0) → ((r1 = r3) → post 0 v) ∧ ((¬ r1 = r3) → PX5_addCouple v r1 r3 (fun r15 v17 => ((r15 < 10) → post 0 v17) ∧ ((¬ r15 < 10) → post 1 v17)))))))) ∧ (¬ r5 = 1 → (r5 = 2 → PX5_isCouple v r1 (fun r20 => ((r20 = 0) → post 0 v) ∧ ((¬ r20 = 0) → PX5_addChild v r1 (fun r23 v25 => ((r23 = ((-1))) → post 0 v25) ∧ ((¬ r23 = ((-1))) → post 1 v25))))) ∧ (¬ r5 = 2 → PX7_isRow r1 (fun r27 => ((r27 = 0) → post 0 v) ∧ ((¬ r27 = 0) → PX5_addPerson v r1 ((-1)) (fun r30 v32 => ((r30 = ((-1))) → post 0 v32) ∧ ((¬ r30 = ((-1))) → post 1 v32)))))))))

def PX7_isSlot (p1 : Int32) (post : Int32 → Prop) : Prop :=
  ((p1 < 0) → post 0) ∧ ((¬ p1 < 0) → ((2 ≤ p1) → post 0) ∧ ((¬ 2 ≤ p1) → post 1))

def PX7_personOf_nt (kc : Mem) (v : Mem) (p1 : Int32) (p2 : Int32) (post : Int32 → Prop) : Prop :=
  PX5_isPerson v p1 (fun r1 => ((¬ r1 = 0) → (p2 = 0 → PX5_rowOf v p1 (fun r5 => post r5)) ∧ (¬ p2 = 0 → (p2 = 1 → PX5_placeOf v p1 (fun r8 => post r8)) ∧ (¬ p2 = 1 → (p2 = 2 → PX5_parentsOf v p1 (fun r11 => post r11)) ∧ (¬ p2 = 2 → (p2 = 3 → PX5_couplesWith v p1 (fun r14 => post r14)) ∧ (¬ p2 = 3 → (p2 = 4 → PX5_childrenWith v p1 (fun r17 => post r17)) ∧ (¬ p2 = 4 → (p2 = 5 → PX0_descendants v p1 (fun r20 => PJ6_bitCount_0f7a4 r20 (fun r22 => post r22))) ∧ (¬ p2 = 5 → (p2 = 6 → PX0_ancestors v p1 (fun r25 => PJ6_bitCount_0f7a4 r25 (fun r27 => post r27))) ∧ (¬ p2 = 6 → False)))))))) ∧ ((r1 = 0) → False))

def PX7_coupleOf_nt (kc : Mem) (v : Mem) (p1 : Int32) (p2 : Int32) (post : Int32 → Prop) : Prop :=
  PX5_isCouple v p1 (fun r1 => ((¬ r1 = 0) → (p2 = 0 → PX5_lesserOf v p1 (fun r5 => post r5)) ∧ (¬ p2 = 0 → (p2 = 1 → PX5_greaterOf v p1 (fun r8 => post r8)) ∧ (¬ p2 = 1 → (p2 = 2 → PX5_lesserOf v p1 (fun r11 => PX5_rowOf v r11 (fun r13 => post r13))) ∧ (¬ p2 = 2 → (p2 = 3 → PX5_middleOf v p1 (fun r16 => post r16)) ∧ (¬ p2 = 3 → (p2 = 4 → PX5_childrenOf v p1 (fun r19 => post r19)) ∧ (¬ p2 = 4 → (p2 = 5 → PX0_commonAncestors v p1 (fun r22 => PJ6_bitCount_0f7a4 r22 (fun r24 => post r24))) ∧ (¬ p2 = 5 → False))))))) ∧ ((r1 = 0) → False))

def PX7_at_nt (kc : Mem) (v : Mem) (p1 : Int32) (p2 : Int32) (post : Int32 → Prop) : Prop :=
  PX7_isRow p1 (fun r1 => ((¬ r1 = 0) → ((0 ≤ p2) → PX5_personAt v p1 p2 (fun r5 => post r5)) ∧ ((¬ 0 ≤ p2) → False)) ∧ ((r1 = 0) → False))

def PX7_crossings_nt_36 (kc : Mem) (v : Mem) (post : Int32 → Mem → Prop) (y : Mem) (x1 : Int32) (x2 : Int32) : Prop :=
  PX2_collect y v x1 (fun y6 => ((¬ x2 = 0) → PX2_crossedOneByOne y6 (fun r8 y10 => post r8 y10)) ∧ ((x2 = 0) → PX2_crossedPairs y6 (fun r11 => post r11 y6))
)
def PX7_crossings_nt (kc : Mem) (v : Mem) (y : Mem) (p1 : Int32) (p2 : Int32) (post : Int32 → Mem → Prop) : Prop :=
  PX7_isRow p1 (fun r1 => ((¬ r1 = 0) → ((p2 = 0) → PX7_crossings_nt_36 kc v post y p1 p2) ∧ ((¬ p2 = 0) → ((p2 = 1) → PX7_crossings_nt_36 kc v post y p1 p2) ∧ ((¬ p2 = 1) → False))) ∧ ((r1 = 0) → False))

def PX7_count_nt (kc : Mem) (v : Mem) (b : Mem) (y : Mem) (p1 : Int32) (post : Int32 → Mem → Prop) : Prop :=
  (p1 = 0 → PX5_people v (fun r2 => post r2 y)) ∧ (¬ p1 = 0 → (p1 = 1 → PX5_couples v (fun r5 => post r5 y)) ∧ (¬ p1 = 1 → (p1 = 2 → PX5_lines v (fun r8 => post r8 y)) ∧ (¬ p1 = 2 → (p1 = 3 → PX7_allCrossings kc v y (fun r11 y13 => post r11 y13)) ∧ (¬ p1 = 3 → (p1 = 4 → PX5_bentLines v (fun r15 => post r15 y)) ∧ (¬ p1 = 4 → (p1 = 5 → PX5_doubles v (fun r18 => post r18 y)) ∧ (¬ p1 = 5 → (p1 = 6 → PX0_kinCouples v (fun r21 => post r21 y)) ∧ (¬ p1 = 6 → (p1 = 7 → PX5_refused v (fun r24 => post r24 y)) ∧ (¬ p1 = 7 → (p1 = 8 → PX4_size b (fun r27 => post r27 y)) ∧ (¬ p1 = 8 → False)))))))))

def PX7_least_nt_36 (kc : Mem) (v : Mem) (post : Int32 → Mem → Prop) (x : Mem) (x1 : Int32) (x2 : Int32) : Prop :=
  PX3_prepare x v x1 (fun x6 => ((¬ x2 = 0) → PX3_leastByLaying x6 (fun r8 x10 => post r8 x10)) ∧ ((x2 = 0) → PX3_leastByAllOrders x6 (fun r11 x13 => post r11 x13))
)
def PX7_least_nt (kc : Mem) (v : Mem) (x : Mem) (p1 : Int32) (p2 : Int32) (post : Int32 → Mem → Prop) : Prop :=
  PX7_isRow p1 (fun r1 => ((¬ r1 = 0) → ((p2 = 0) → PX7_least_nt_36 kc v post x p1 p2) ∧ ((¬ p2 = 0) → ((p2 = 1) → PX7_least_nt_36 kc v post x p1 p2) ∧ ((¬ p2 = 1) → False))) ∧ ((r1 = 0) → False))

def PX7_bestSwap_17 (kc : Mem) (post : Int32 → Mem → Mem → Prop) (K9 : Mem → Mem → Int32 → Int32 → Int32 → Prop) : Nat → Mem → Mem → Int32 → Int32 → Int32 → Int32 → Prop
  | 0, _, _, _, _, _, _ => False
  | n + 1, v, y, x1, x2, x3, x4 => PX5_sizeOf v x3 (fun r5 => (((r5 - 1) ≤ x4) → K9 v y x1 x2 (x3 + 1)) ∧ ((¬ (r5 - 1) ≤ x4) → PX5_exchange v x3 x4 (fun v9 => PX7_allCrossings kc v9 y (fun r10 y12 => PX5_exchange v9 x3 x4 (fun v14 => ((x1 ≤ r10) → PX7_bestSwap_17 kc post K9 n v14 y12 x1 x2 x3 (x4 + 1)) ∧ ((¬ x1 ≤ r10) → ∀ q16 : Int32, q16 = (10 * x3) + x4 → PX7_bestSwap_17 kc post K9 n v14 y12 r10 q16 x3 (x4 + 1))))))
)
def PX7_bestSwap_9 (kc : Mem) (post : Int32 → Mem → Mem → Prop) : Nat → Mem → Mem → Int32 → Int32 → Int32 → Prop
  | 0, _, _, _, _, _ => False
  | n + 1, v, y, x1, x2, x3 => ((4 ≤ x3) → post x2 v y) ∧ ((¬ 4 ≤ x3) → ∃ n17, PX7_bestSwap_17 kc post (PX7_bestSwap_9 kc post n) n17 v y x1 x2 x3 0)

def PX7_bestSwap (kc : Mem) (v : Mem) (y : Mem) (post : Int32 → Mem → Mem → Prop) : Prop :=
  PX7_allCrossings kc v y (fun r1 y3 => ∃ n18, PX7_bestSwap_9 kc post n18 v y3 r1 ((-1)) 0)

def PX7_nearness_nt (kc : Mem) (v : Mem) (p1 : Int32) (p2 : Int32) (post : Int32 → Prop) : Prop :=
  PX5_isPerson v p1 (fun r1 => ((r1 = 0) → False) ∧ ((¬ r1 = 0) → PX5_isPerson v p2 (fun r4 => ((¬ r4 = 0) → PX0_fewestLines v p1 p2 (fun r7 => post r7)) ∧ ((r4 = 0) → False))))

def PX7_straightShare (kc : Mem) (v : Mem) (post : UInt64 → Prop) : Prop :=
  PX5_lines v (fun r1 => ((¬ r1 = 0) → PX5_bentLines v (fun r4 => vf_n64 (FP.ddiv (FP.i2d (r1 - r4)) (FP.i2d r1)) ∧ post (FP.ddiv (FP.i2d (r1 - r4)) (FP.i2d r1)))) ∧ ((r1 = 0) → post 0x3ff0000000000000))

def PX7_hashPeopleAndCouples_73 (kc : Mem) (v : Mem) (post : Int64 → Prop) (K58 : Int64 → Int32 → Prop) : Nat → Int64 → Int32 → Int32 → Prop
  | 0, _, _, _ => False
  | n + 1, x3, x5, x6 => ((5 < x6) → K58 x3 (x5 + 1)) ∧ ((¬ 5 < x6) → PX7_coupleOf_nt kc v x5 x6 (fun r8 => ∀ q10 : Int64, q10 = (31 * x3) + r8.toInt64 → PX7_hashPeopleAndCouples_73 kc v post K58 n q10 x5 (x6 + 1)))

def PX7_hashPeopleAndCouples_58 (kc : Mem) (v : Mem) (post : Int64 → Prop) : Nat → Int64 → Int32 → Prop
  | 0, _, _ => False
  | n + 1, x3, x5 => PX5_couples v (fun r4 => ((r4 ≤ x5) → post x3) ∧ ((¬ r4 ≤ x5) → ∃ n11, PX7_hashPeopleAndCouples_73 kc v post (PX7_hashPeopleAndCouples_58 kc v post n) n11 x3 x5 0)
)
def PX7_hashPeopleAndCouples_20 (kc : Mem) (v : Mem) (post : Int64 → Prop) (K5 : Int64 → Int32 → Prop) : Nat → Int64 → Int32 → Int32 → Prop
  | 0, _, _, _ => False
  | n + 1, x3, x5, x6 => ((6 < x6) → K5 x3 (x5 + 1)) ∧ ((¬ 6 < x6) → PX7_personOf_nt kc v x5 x6 (fun r14 => ∀ q16 : Int64, q16 = (31 * x3) + r14.toInt64 → PX7_hashPeopleAndCouples_20 kc v post K5 n q16 x5 (x6 + 1)))

def PX7_hashPeopleAndCouples_5 (kc : Mem) (v : Mem) (post : Int64 → Prop) : Nat → Int64 → Int32 → Prop
  | 0, _, _ => False
  | n + 1, x3, x5 => PX5_people v (fun r1 => ((r1 ≤ x5) → ∃ n12, PX7_hashPeopleAndCouples_58 kc v post n12 x3 0) ∧ ((¬ r1 ≤ x5) → ∃ n17, PX7_hashPeopleAndCouples_20 kc v post (PX7_hashPeopleAndCouples_5 kc v post n) n17 x3 x5 0)
)
def PX7_hashPeopleAndCouples (kc : Mem) (v : Mem) (p1 : Int64) (post : Int64 → Prop) : Prop :=
  ∃ n18, PX7_hashPeopleAndCouples_5 kc v post n18 p1 0

def PX7_hashRows_14 (kc : Mem) (v : Mem) (post : Int64 → Mem → Prop) (K5 : Mem → Int64 → Int32 → Prop) : Nat → Mem → Int64 → Int32 → Int32 → Prop
  | 0, _, _, _, _ => False
  | n + 1, y, x3, x5, x6 => ((6 ≤ x6) → PX7_crossings_nt kc v y x5 0 (fun r3 y5 => ∀ q6 : Int64, q6 = (31 * x3) + r3.toInt64 → PX7_crossings_nt kc v y5 x5 1 (fun r7 y9 => ∀ q10 : Int64, q10 = (31 * q6) + r7.toInt64 → K5 y9 q10 (x5 + 1)))) ∧ ((¬ 6 ≤ x6) → PX7_at_nt kc v x5 x6 (fun r11 => ∀ q13 : Int64, q13 = (31 * x3) + r11.toInt64 → PX7_hashRows_14 kc v post K5 n y q13 x5 (x6 + 1)))

def PX7_hashRows_5 (kc : Mem) (v : Mem) (post : Int64 → Mem → Prop) : Nat → Mem → Int64 → Int32 → Prop
  | 0, _, _, _ => False
  | n + 1, y, x3, x5 => ((4 ≤ x5) → post x3 y) ∧ ((¬ 4 ≤ x5) → ∃ n14, PX7_hashRows_14 kc v post (PX7_hashRows_5 kc v post n) n14 y x3 x5 0)

def PX7_hashRows (kc : Mem) (v : Mem) (y : Mem) (p1 : Int64) (post : Int64 → Mem → Prop) : Prop :=
  ∃ n15, PX7_hashRows_5 kc v post n15 y p1 0

def PX7_bitsOfShare_39 (post : Int64 → Prop) (x2 : UInt64) (x4 : Int32) : Prop :=
  vf_n64 (FP.dsub x2 0x3ff0000000000000) ∧ vf_n64 (FP.dmul (FP.dsub x2 0x3ff0000000000000) 4841369599423283200) ∧ ∀ q5 : Int64, q5 = FP.d2l (FP.dmul (FP.dsub x2 0x3ff0000000000000) 4841369599423283200) → post ((x4.toInt64 <<< ((52 : Int32).toInt64 &&& 63)) ||| q5)

def PX7_bitsOfShare_15 (post : Int64 → Prop) : Nat → UInt64 → Int32 → Prop
  | 0, _, _ => False
  | n + 1, x2, x4 => ((0 ≤ (Op.cmpValue (FP.dcmp x2 0x3ff0000000000000) .g)) → PX7_bitsOfShare_39 post x2 x4) ∧ ((¬ 0 ≤ (Op.cmpValue (FP.dcmp x2 0x3ff0000000000000) .g)) → ((x4 ≤ 1) → PX7_bitsOfShare_39 post x2 x4) ∧ ((¬ x4 ≤ 1) → vf_n64 (FP.dmul x2 4611686018427387904) ∧ ∀ q8 : UInt64, q8 = FP.dmul x2 4611686018427387904 → PX7_bitsOfShare_15 post n q8 (x4 + (-1))))

def PX7_bitsOfShare (p1 : UInt64) (post : Int64 → Prop) : Prop :=
  ((0 < (Op.cmpValue (FP.dcmp p1 0) .g)) → ∃ n9, PX7_bitsOfShare_15 post n9 p1 1023) ∧ ((¬ 0 < (Op.cmpValue (FP.dcmp p1 0) .g)) → post 0)

def PX7_digest_195 (kc : Mem) (b : Mem) (tx : Mem) (post : Int64 → Mem → Mem → Mem → Prop) : Nat → Mem → Mem → Mem → Int64 → Int32 → Prop
  | 0, _, _, _, _, _ => False
  | n + 1, v, y, x, x1, x3 => PX6_length tx (fun r25 => ((r25 ≤ x3) → post x1 v y x) ∧ ((¬ r25 ≤ x3) → PX6_codeAt tx x3 (fun r28 => ∀ q30 : Int64, q30 = (31 * x1) + r28.toInt64 → PX7_digest_195 kc b tx post n v y x q30 (x3 + 1)))
)
def PX7_digest_145 (kc : Mem) (b : Mem) (tx : Mem) (post : Int64 → Mem → Mem → Mem → Prop) : Nat → Mem → Mem → Mem → Int64 → Int32 → Prop
  | 0, _, _, _, _, _ => False
  | n + 1, v, y, x, x1, x3 => ((2 ≤ x3) → PX6_length tx (fun r22 => ∀ q24 : Int64, q24 = (31 * x1) + r22.toInt64 → ∃ n31, PX7_digest_195 kc b tx post n31 v y x q24 0)) ∧ ((¬ 2 ≤ x3) → vp_in x3 2 ∧ (((kc 2 (ix x3)) = 0) → ∀ q34 : Int64, q34 = (31 * x1) + ((0 : Int32).toInt64) → PX7_digest_145 kc b tx post n v y x q34 (x3 + 1)) ∧ ((¬ (kc 2 (ix x3)) = 0) → ∀ q35 : Int64, q35 = (31 * x1) + ((1 : Int32).toInt64) → PX7_digest_145 kc b tx post n v y x q35 (x3 + 1)))

def PX7_digest_98 (kc : Mem) (b : Mem) (tx : Mem) (post : Int64 → Mem → Mem → Mem → Prop) : Nat → Mem → Mem → Mem → Int64 → Int32 → Prop
  | 0, _, _, _, _, _ => False
  | n + 1, v, y, x, x1, x3 => PX5_people v (fun r13 => ((r13 ≤ x3) → PX7_straightShare kc v (fun r16 => PX7_bitsOfShare r16 (fun r18 => ∀ q20 : Int64, q20 = (31 * x1) + r18 → ∃ n36, PX7_digest_145 kc b tx post n36 v y x q20 0))) ∧ ((¬ r13 ≤ x3) → PX7_nearness_nt kc v 0 x3 (fun r37 => ∀ q39 : Int64, q39 = (31 * x1) + r37.toInt64 → PX7_digest_98 kc b tx post n v y x q39 (x3 + 1)))
)
def PX7_digest_45 (kc : Mem) (b : Mem) (tx : Mem) (post : Int64 → Mem → Mem → Mem → Prop) : Nat → Mem → Mem → Mem → Int64 → Int32 → Prop
  | 0, _, _, _, _, _ => False
  | n + 1, v, y, x, x1, x3 => ((4 ≤ x3) → PX7_bestSwap kc v y (fun r8 v10 y11 => ∀ q12 : Int64, q12 = (31 * x1) + r8.toInt64 → ∃ n40, PX7_digest_98 kc b tx post n40 v10 y11 x q12 0)) ∧ ((¬ 4 ≤ x3) → PX7_least_nt kc v x x3 0 (fun r41 x43 => ∀ q44 : Int64, q44 = (31 * x1) + r41.toInt64 → PX7_least_nt kc v x43 x3 1 (fun r45 x47 => ∀ q48 : Int64, q48 = (31 * q44) + r45.toInt64 → PX7_digest_45 kc b tx post n v y x47 q48 (x3 + 1))))

def PX7_digest_6 (kc : Mem) (b : Mem) (tx : Mem) (post : Int64 → Mem → Mem → Mem → Prop) : Nat → Mem → Mem → Mem → Int64 → Int32 → Prop
  | 0, _, _, _, _, _ => False
  | n + 1, v, y, x, x1, x3 => ((8 < x3) → PX7_hashPeopleAndCouples kc v x1 (fun r2 => PX7_hashRows kc v y r2 (fun r4 y6 => ∃ n49, PX7_digest_45 kc b tx post n49 v y6 x r4 0))) ∧ ((¬ 8 < x3) → PX7_count_nt kc v b y x3 (fun r50 y52 => ∀ q53 : Int64, q53 = (31 * x1) + r50.toInt64 → PX7_digest_6 kc b tx post n v y52 x q53 (x3 + 1)))

def PX7_digest (kc : Mem) (v : Mem) (b : Mem) (tx : Mem) (y : Mem) (x : Mem) (post : Int64 → Mem → Mem → Mem → Prop) : Prop :=
  ∃ n54, PX7_digest_6 kc b tx post n54 v y x 3727 0

def PX8_thrown (w : Mem) (hs : Int64) (post : Int32 → Prop) : Prop :=
  post (w 5 0)

def PX8_fails (w : Mem) (hs : Int64) (p1 : Int32) (post : Int32 → Mem → Prop) : Prop :=
  ∀ w1 : Mem, w1 = mset w 5 0 p1 → post 0 w1

def PX8_in (p1 : Int32) (p2 : Int32) (p3 : Int32) (post : Int32 → Prop) : Prop :=
  ((p1 < p2) → post 0) ∧ ((¬ p1 < p2) → ((p3 < p1) → post 0) ∧ ((¬ p3 < p1) → post 1))

def PX8_isRow (p1 : Int32) (post : Int32 → Prop) : Prop :=
  PX8_in p1 0 3 (fun r1 => isB r1 ∧ post r1)

def PX8_isPerson (w : Mem) (hs : Int64) (p1 : Int32) (post : Int32 → Prop) : Prop :=
  vp_in 0 91 ∧ PX8_in p1 0 ((w 0 (ix 0)) - 1) (fun r2 => isB r2 ∧ post r2)

def PX8_isCouple (w : Mem) (hs : Int64) (p1 : Int32) (post : Int32 → Prop) : Prop :=
  vp_in 1 91 ∧ PX8_in p1 0 ((w 0 (ix 1)) - 1) (fun r2 => isB r2 ∧ post r2)

def PX8_rowOf (w : Mem) (hs : Int64) (p1 : Int32) (post : Int32 → Prop) : Prop :=
  vp_in (3 + (2 * p1)) 91 ∧ post (w 0 (ix (3 + (2 * p1))))

def PX8_parentsOf (w : Mem) (hs : Int64) (p1 : Int32) (post : Int32 → Prop) : Prop :=
  vp_in ((3 + (2 * p1)) + 1) 91 ∧ post (w 0 (ix ((3 + (2 * p1)) + 1)))

def PX8_one (w : Mem) (hs : Int64) (p1 : Int32) (post : Int32 → Prop) : Prop :=
  vp_in (43 + (2 * p1)) 91 ∧ post (w 0 (ix (43 + (2 * p1))))

def PX8_other (w : Mem) (hs : Int64) (p1 : Int32) (post : Int32 → Prop) : Prop :=
  vp_in ((43 + (2 * p1)) + 1) 91 ∧ post (w 0 (ix ((43 + (2 * p1)) + 1)))

def PX8_whoIs (w : Mem) (hs : Int64) (p1 : Int32) (p2 : Int32) (post : Int32 → Prop) : Prop :=
  vp_in ((67 + (6 * p1)) + p2) 91 ∧ post (w 0 (ix ((67 + (6 * p1)) + p2)))

def PX8_placeOf_8 (w : Mem) (hs : Int64) (post : Int32 → Prop) : Nat → Int32 → Int32 → Int32 → Prop
  | 0, _, _, _ => False
  | n + 1, x1, x2, x3 => PX8_whoIs w hs x2 x3 (fun r3 => ((r3 = x1) → post x3) ∧ ((¬ r3 = x1) → PX8_placeOf_8 w hs post n x1 x2 (x3 + 1))
)
def PX8_placeOf (w : Mem) (hs : Int64) (p1 : Int32) (post : Int32 → Prop) : Prop :=
  PX8_rowOf w hs p1 (fun r1 => ∃ n6, PX8_placeOf_8 w hs post n6 p1 r1 0)

def PX8_save_51 (hs : Int64) (post : Mem → Prop) : Nat → Mem → Int32 → Prop
  | 0, _, _ => False
  | n + 1, w, x1 => ((91 ≤ x1) → ∀ w3 : Mem, w3 = mset w 2 0 ((w 2 0) + 1) → post w3) ∧ ((¬ 91 ≤ x1) → vp_in x1 91 ∧ vp_in ((91 * (w 2 0)) + x1) 546 ∧ ∀ w6 : Mem, w6 = mset w 1 (ix ((91 * (w 2 0)) + x1)) (w 0 (ix x1)) → PX8_save_51 hs post n w6 (x1 + 1))

def PX8_save_11 (hs : Int64) (post : Mem → Prop) : Nat → Mem → Int32 → Prop
  | 0, _, _ => False
  | n + 1, w, x1 => ((455 ≤ x1) → ∀ w9 : Mem, w9 = mset w 2 0 ((w 2 0) - 1) → ∃ n10, PX8_save_51 hs post n10 w9 0) ∧ ((¬ 455 ≤ x1) → vp_in (x1 + 91) 546 ∧ vp_in x1 546 ∧ ∀ w13 : Mem, w13 = mset w 1 (ix x1) (w 1 (ix (x1 + 91))) → PX8_save_11 hs post n w13 (x1 + 1))

def PX8_save (w : Mem) (hs : Int64) (post : Mem → Prop) : Prop :=
  ((¬ (w 2 0) = 6) → ∃ n7, PX8_save_51 hs post n7 w 0) ∧ (((w 2 0) = 6) → ∃ n14, PX8_save_11 hs post n14 w 0)

def PX8_undo_30 (hs : Int64) (post : Int32 → Mem → Prop) : Nat → Mem → Int32 → Prop
  | 0, _, _ => False
  | n + 1, w, x1 => ((91 ≤ x1) → post (w 2 0) w) ∧ ((¬ 91 ≤ x1) → vp_in ((91 * (w 2 0)) + x1) 546 ∧ vp_in x1 91 ∧ ∀ w7 : Mem, w7 = mset w 0 (ix x1) (w 1 (ix ((91 * (w 2 0)) + x1))) → PX8_undo_30 hs post n w7 (x1 + 1))

def PX8_undo (w : Mem) (hs : Int64) (post : Int32 → Mem → Prop) : Prop :=
  ∀ w1 : Mem, w1 = mset w 5 0 0 → ((¬ (w1 2 0) = 0) → ∀ w3 : Mem, w3 = mset w1 2 0 ((w1 2 0) - 1) → ∃ n8, PX8_undo_30 hs post n8 w3 0) ∧ (((w1 2 0) = 0) → PX8_fails w1 hs 1 (fun r9 w11 => post r9 w11))

def PX8_keep_22 (hs : Int64) (post : Int32 → Mem → Prop) : Nat → Mem → Int32 → Int32 → Prop
  | 0, _, _, _ => False
  | n + 1, w, x1, x2 => ((91 ≤ x2) → vp_in x1 2 ∧ ∀ w7 : Mem, w7 = mset w 4 (ix x1) 1 → vp_in 0 91 ∧ post (w7 0 (ix 0)) w7) ∧ ((¬ 91 ≤ x2) → vp_in x2 91 ∧ vp_in ((91 * x1) + x2) 182 ∧ ∀ w11 : Mem, w11 = mset w 3 (ix ((91 * x1) + x2)) (w 0 (ix x2)) → PX8_keep_22 hs post n w11 x1 (x2 + 1))

def PX8_keep (w : Mem) (hs : Int64) (p1 : Int32) (post : Int32 → Mem → Prop) : Prop :=
  ∀ w1 : Mem, w1 = mset w 5 0 0 → PX8_in p1 0 1 (fun r2 => ((¬ r2 = 0) → ∃ n12, PX8_keep_22 hs post n12 w1 p1 0) ∧ ((r2 = 0) → PX8_fails w1 hs 1 (fun r13 w15 => post r13 w15)))

def PX8_goBack_41 (hs : Int64) (post : Int32 → Mem → Prop) : Nat → Mem → Int32 → Int32 → Prop
  | 0, _, _, _ => False
  | n + 1, w, x1, x2 => ((91 ≤ x2) → vp_in 0 91 ∧ post (w 0 (ix 0)) w) ∧ ((¬ 91 ≤ x2) → vp_in ((91 * x1) + x2) 182 ∧ vp_in x2 91 ∧ ∀ w13 : Mem, w13 = mset w 0 (ix x2) (w 3 (ix ((91 * x1) + x2))) → PX8_goBack_41 hs post n w13 x1 (x2 + 1))

def PX8_goBack (w : Mem) (hs : Int64) (p1 : Int32) (post : Int32 → Mem → Prop) : Prop :=
  ∀ w1 : Mem, w1 = mset w 5 0 0 → PX8_in p1 0 1 (fun r2 => ((¬ r2 = 0) → vp_in p1 2 ∧ ((¬ (w1 4 (ix p1)) = 0) → PX8_save w1 hs (fun w8 => ∃ n14, PX8_goBack_41 hs post n14 w8 p1 0)) ∧ (((w1 4 (ix p1)) = 0) → PX8_fails w1 hs 2 (fun r15 w17 => post r15 w17))) ∧ ((r2 = 0) → PX8_fails w1 hs 1 (fun r18 w20 => post r18 w20)))

def PX8_personNow_25 (hs : Int64) (post : Int32 → Mem → Prop) (w : Mem) : Prop :=
  vp_in 2 91 ∧ vp_in 2 91 ∧ ∀ w5 : Mem, w5 = mset w 0 (ix 2) ((w 0 (ix 2)) + 1) → post ((-1)) w5

def PX8_personNow (w : Mem) (hs : Int64) (p1 : Int32) (p2 : Int32) (post : Int32 → Mem → Prop) : Prop :=
  vp_in (63 + p1) 91 ∧ (((w 0 (ix (63 + p1))) = 6) → PX8_personNow_25 hs post w) ∧ ((¬ (w 0 (ix (63 + p1))) = 6) → vp_in 0 91 ∧ ((¬ (w 0 (ix 0)) = 20) → vp_in 0 91 ∧ ∀ q9 : Int32, q9 = w 0 (ix 0) → vp_in (3 + (2 * q9)) 91 ∧ ∀ w11 : Mem, w11 = mset w 0 (ix (3 + (2 * q9))) p1 → vp_in ((3 + (2 * q9)) + 1) 91 ∧ ∀ w13 : Mem, w13 = mset w11 0 (ix ((3 + (2 * q9)) + 1)) p2 → vp_in (63 + p1) 91 ∧ vp_in ((67 + (6 * p1)) + (w13 0 (ix (63 + p1)))) 91 ∧ ∀ w16 : Mem, w16 = mset w13 0 (ix ((67 + (6 * p1)) + (w13 0 (ix (63 + p1))))) q9 → vp_in (63 + p1) 91 ∧ vp_in (63 + p1) 91 ∧ ∀ w19 : Mem, w19 = mset w16 0 (ix (63 + p1)) ((w16 0 (ix (63 + p1))) + 1) → vp_in 0 91 ∧ vp_in 0 91 ∧ ∀ w22 : Mem, w22 = mset w19 0 (ix 0) ((w19 0 (ix 0)) + 1) → post q9 w22) ∧ (((w 0 (ix 0)) = 20) → PX8_personNow_25 hs post w))

def PX8_couplesOf_4 (w : Mem) (hs : Int64) (post : Int32 → Prop) : Nat → Int32 → Int32 → Int32 → Prop
  | 0, _, _, _ => False
  | n + 1, x1, x2, x3 => vp_in 1 91 ∧ (((w 0 (ix 1)) ≤ x3) → post x2) ∧ ((¬ (w 0 (ix 1)) ≤ x3) → PX8_one w hs x3 (fun r3 => ((r3 = x1) → ∀ q6 : Int32, q6 = x2 + 1 → PX8_couplesOf_4 w hs post n x1 q6 (x3 + 1)) ∧ ((¬ r3 = x1) → PX8_other w hs x3 (fun r7 => ((¬ r7 = x1) → ∀ q10 : Int32, q10 = x2 + 0 → PX8_couplesOf_4 w hs post n x1 q10 (x3 + 1)) ∧ ((r7 = x1) → ∀ q11 : Int32, q11 = x2 + 1 → PX8_couplesOf_4 w hs post n x1 q11 (x3 + 1))))))

def PX8_couplesOf (w : Mem) (hs : Int64) (p1 : Int32) (post : Int32 → Prop) : Prop :=
  ∃ n12, PX8_couplesOf_4 w hs post n12 p1 0 0

def PX8_areCouple_5 (w : Mem) (hs : Int64) (post : Int32 → Prop) : Nat → Int32 → Int32 → Int32 → Int32 → Prop
  | 0, _, _, _, _ => False
  | n + 1, x1, x2, x3, x4 => vp_in 1 91 ∧ (((w 0 (ix 1)) ≤ x4) → isB x3 ∧ post x3) ∧ ((¬ (w 0 (ix 1)) ≤ x4) → ((¬ x3 = 0) → PX8_areCouple_5 w hs post n x1 x2 1 (x4 + 1)) ∧ ((x3 = 0) → PX8_one w hs x4 (fun r5 => ((¬ r5 = x1) → PX8_areCouple_5 w hs post n x1 x2 0 (x4 + 1)) ∧ ((r5 = x1) → PX8_other w hs x4 (fun r8 => ((¬ r8 = x2) → PX8_areCouple_5 w hs post n x1 x2 0 (x4 + 1)) ∧ ((r8 = x2) → PX8_areCouple_5 w hs post n x1 x2 1 (x4 + 1)))))))

def PX8_areCouple (w : Mem) (hs : Int64) (p1 : Int32) (p2 : Int32) (post : Int32 → Prop) : Prop :=
  ∃ n11, PX8_areCouple_5 w hs post n11 p1 p2 0 0

def PX8_reason (w : Mem) (hs : Int64) (p1 : Int32) (p2 : Int32) (post : Int32 → Prop) : Prop :=
  vp_in 1 91 ∧ ((¬ (w 0 (ix 1)) = 10) → PX8_rowOf w hs p1 (fun r3 => PX8_rowOf w hs p2 (fun r5 => ((¬ r3 = r5) → post 2) ∧ ((r3 = r5) → PX8_rowOf w hs p1 (fun r8 => ((¬ r8 = 3) → PX8_areCouple w hs p1 p2 (fun r11 => ((r11 = 0) → PX8_couplesOf w hs p1 (fun r14 => ((r14 = 2) → post 4) ∧ ((¬ r14 = 2) → PX8_couplesOf w hs p2 (fun r17 => ((¬ r17 = 2) → post 0) ∧ ((r17 = 2) → post 4))))) ∧ ((¬ r11 = 0) → post 3))) ∧ ((r8 = 3) → post 2)))))) ∧ (((w 0 (ix 1)) = 10) → post 1)

def PX8_marryNow_21 (hs : Int64) (post : Int32 → Mem → Prop) (w : Mem) (x3 : Int32) (z0 : Int32) : Prop :=
  PX8_reason w hs x3 z0 (fun r3 => ((r3 ≤ 0) → vp_in 1 91 ∧ vp_in (43 + (2 * (w 0 (ix 1)))) 91 ∧ ∀ w8 : Mem, w8 = mset w 0 (ix (43 + (2 * (w 0 (ix 1))))) x3 → vp_in 1 91 ∧ vp_in ((43 + (2 * (w8 0 (ix 1)))) + 1) 91 ∧ ∀ w11 : Mem, w11 = mset w8 0 (ix ((43 + (2 * (w8 0 (ix 1)))) + 1)) z0 → vp_in 1 91 ∧ vp_in 1 91 ∧ ∀ w14 : Mem, w14 = mset w11 0 (ix 1) ((w11 0 (ix 1)) + 1) → vp_in 1 91 ∧ post ((w14 0 (ix 1)) + 9) w14) ∧ ((¬ r3 ≤ 0) → vp_in 2 91 ∧ vp_in 2 91 ∧ ∀ w18 : Mem, w18 = mset w 0 (ix 2) ((w 0 (ix 2)) + 1) → post r3 w18)
)
def PX8_marryNow_10 (hs : Int64) (post : Int32 → Mem → Prop) (w : Mem) (x1 : Int32) (x2 : Int32) (z0 : Int32) : Prop :=
  ((x2 ≤ x1) → PX8_marryNow_21 hs post w z0 x1) ∧ ((¬ x2 ≤ x1) → PX8_marryNow_21 hs post w z0 x2)

def PX8_marryNow (w : Mem) (hs : Int64) (p1 : Int32) (p2 : Int32) (post : Int32 → Mem → Prop) : Prop :=
  ((p2 ≤ p1) → PX8_marryNow_10 hs post w p1 p2 p2) ∧ ((¬ p2 ≤ p1) → PX8_marryNow_10 hs post w p1 p2 p1)

def PX8_childNow (w : Mem) (hs : Int64) (p1 : Int32) (post : Int32 → Mem → Prop) : Prop :=
  PX8_one w hs p1 (fun r1 => PX8_rowOf w hs r1 (fun r3 => PX8_personNow w hs (r3 + 1) p1 (fun r5 w7 => post r5 w7)))

def PX8_person (w : Mem) (hs : Int64) (p1 : Int32) (post : Int32 → Mem → Prop) : Prop :=
  ∀ w1 : Mem, w1 = mset w 5 0 0 → PX8_isRow p1 (fun r2 => ((¬ r2 = 0) → PX8_save w1 hs (fun w6 => PX8_personNow w6 hs p1 ((-1)) (fun r7 w9 => post r7 w9))) ∧ ((r2 = 0) → PX8_fails w1 hs 1 (fun r10 w12 => post r10 w12)))

def PX8_marry_21 (hs : Int64) (post : Int32 → Mem → Prop) (w : Mem) : Prop :=
  PX8_fails w hs 1 (fun r5 w7 => post r5 w7
)
def PX8_marry (w : Mem) (hs : Int64) (p1 : Int32) (p2 : Int32) (post : Int32 → Mem → Prop) : Prop :=
  ∀ w1 : Mem, w1 = mset w 5 0 0 → PX8_isPerson w1 hs p1 (fun r2 => ((r2 = 0) → PX8_marry_21 hs post w1) ∧ ((¬ r2 = 0) → PX8_isPerson w1 hs p2 (fun r8 => ((¬ r8 = 0) → ((¬ p1 = p2) → PX8_save w1 hs (fun w13 => PX8_marryNow w13 hs p1 p2 (fun r14 w16 => post r14 w16))) ∧ ((p1 = p2) → PX8_fails w1 hs 2 (fun r17 w19 => post r17 w19))) ∧ ((r8 = 0) → PX8_marry_21 hs post w1))))

def PX8_child (w : Mem) (hs : Int64) (p1 : Int32) (post : Int32 → Mem → Prop) : Prop :=
  ∀ w1 : Mem, w1 = mset w 5 0 0 → PX8_isCouple w1 hs p1 (fun r2 => ((¬ r2 = 0) → PX8_save w1 hs (fun w6 => PX8_childNow w6 hs p1 (fun r7 w9 => post r7 w9))) ∧ ((r2 = 0) → PX8_fails w1 hs 1 (fun r10 w12 => post r10 w12)))

def PX8_middle (w : Mem) (hs : Int64) (p1 : Int32) (post : Int32 → Prop) : Prop :=
  PX8_one w hs p1 (fun r1 => PX8_placeOf w hs r1 (fun r3 => PX8_other w hs p1 (fun r5 => PX8_placeOf w hs r5 (fun r7 => post (r3 + r7)))))

def PX8_draw_7 (hs : Int64) (post : Mem → Prop) : Nat → Mem → Int32 → Int32 → Prop
  | 0, _, _, _ => False
  | n + 1, w, x1, x2 => vp_in (63 + x1) 91 ∧ (((w 0 (ix (63 + x1))) ≤ x2) → post w) ∧ ((¬ (w 0 (ix (63 + x1))) ≤ x2) → PX8_whoIs w hs x1 x2 (fun r4 => PX8_parentsOf w hs r4 (fun r6 => ((r6 = ((-1))) → PX8_draw_7 hs post n w x1 (x2 + 1)) ∧ ((¬ r6 = ((-1))) → PX8_middle w hs r6 (fun r9 => vp_in (w 8 0) 6 ∧ ∀ w12 : Mem, w12 = mset w 6 (ix (w 8 0)) r9 → vp_in (w12 8 0) 6 ∧ ∀ w14 : Mem, w14 = mset w12 7 (ix (w12 8 0)) x2 → ∀ w15 : Mem, w15 = mset w14 8 0 ((w14 8 0) + 1) → PX8_draw_7 hs post n w15 x1 (x2 + 1))))))

def PX8_draw (w : Mem) (hs : Int64) (p1 : Int32) (post : Mem → Prop) : Prop :=
  ∀ w1 : Mem, w1 = mset w 8 0 0 → ∃ n16, PX8_draw_7 hs post n16 w1 p1 0

def PX8_crossingsTo_20 (hs : Int64) (post : Int32 → Mem → Prop) (K9 : Mem → Int32 → Int32 → Prop) : Nat → Mem → Int32 → Int32 → Int32 → Prop
  | 0, _, _, _, _ => False
  | n + 1, w, x2, x3, x4 => (((w 8 0) ≤ x4) → K9 w x2 (x3 + 1)) ∧ ((¬ (w 8 0) ≤ x4) → vp_in x3 6 ∧ vp_in x4 6 ∧ (((w 6 (ix x4)) ≤ (w 6 (ix x3))) → ∀ q8 : Int32, q8 = x2 + 0 → PX8_crossingsTo_20 hs post K9 n w q8 x3 (x4 + 1)) ∧ ((¬ (w 6 (ix x4)) ≤ (w 6 (ix x3))) → vp_in x3 6 ∧ vp_in x4 6 ∧ (((w 7 (ix x3)) ≤ (w 7 (ix x4))) → ∀ q12 : Int32, q12 = x2 + 0 → PX8_crossingsTo_20 hs post K9 n w q12 x3 (x4 + 1)) ∧ ((¬ (w 7 (ix x3)) ≤ (w 7 (ix x4))) → ∀ q13 : Int32, q13 = x2 + 1 → PX8_crossingsTo_20 hs post K9 n w q13 x3 (x4 + 1))))

def PX8_crossingsTo_9 (hs : Int64) (post : Int32 → Mem → Prop) : Nat → Mem → Int32 → Int32 → Prop
  | 0, _, _, _ => False
  | n + 1, w, x2, x3 => (((w 8 0) ≤ x3) → post x2 w) ∧ ((¬ (w 8 0) ≤ x3) → ∃ n14, PX8_crossingsTo_20 hs post (PX8_crossingsTo_9 hs post n) n14 w x2 x3 0)

def PX8_crossingsTo (w : Mem) (hs : Int64) (p1 : Int32) (post : Int32 → Mem → Prop) : Prop :=
  PX8_draw w hs p1 (fun w2 => ∃ n15, PX8_crossingsTo_9 hs post n15 w2 0 0)

def PX8_allCrossings (w : Mem) (hs : Int64) (post : Int32 → Mem → Prop) : Prop :=
  PX8_crossingsTo w hs 0 (fun r1 w3 => PX8_crossingsTo w3 hs 1 (fun r4 w6 => PX8_crossingsTo w6 hs 2 (fun r7 w9 => PX8_crossingsTo w9 hs 3 (fun r10 w12 => post (((r1 + r4) + r7) + r10) w12))))

def PX8_crossingsAt (w : Mem) (hs : Int64) (p1 : Int32) (post : Int32 → Mem → Prop) : Prop :=
  PX8_crossingsTo w hs p1 (fun r1 w3 => ((3 ≤ p1) → post (r1 + 0) w3) ∧ ((¬ 3 ≤ p1) → PX8_crossingsTo w3 hs (p1 + 1) (fun r5 w7 => post (r1 + r5) w7)))

def PX8_exchange (w : Mem) (hs : Int64) (p1 : Int32) (p2 : Int32) (p3 : Int32) (post : Mem → Prop) : Prop :=
  ∀ q1 : Int32, q1 = 67 + (6 * p1) → vp_in (q1 + p2) 91 ∧ ∀ q3 : Int32, q3 = w 0 (ix (q1 + p2)) → vp_in (q1 + p3) 91 ∧ vp_in (q1 + p2) 91 ∧ ∀ w6 : Mem, w6 = mset w 0 (ix (q1 + p2)) (w 0 (ix (q1 + p3))) → vp_in (q1 + p3) 91 ∧ ∀ w8 : Mem, w8 = mset w6 0 (ix (q1 + p3)) q3 → post w8

def PX8_swap (w : Mem) (hs : Int64) (p1 : Int32) (p2 : Int32) (post : Int32 → Mem → Prop) : Prop :=
  ∀ w1 : Mem, w1 = mset w 5 0 0 → PX8_isRow p1 (fun r2 => ((¬ r2 = 0) → vp_in (63 + p1) 91 ∧ PX8_in p2 0 ((w1 0 (ix (63 + p1))) - 2) (fun r6 => ((¬ r6 = 0) → PX8_save w1 hs (fun w10 => PX8_allCrossings w10 hs (fun r11 w13 => PX8_exchange w13 hs p1 p2 (p2 + 1) (fun w15 => PX8_allCrossings w15 hs (fun r16 w18 => post ((r16 - r11) + 100) w18))))) ∧ ((r6 = 0) → PX8_fails w1 hs 2 (fun r19 w21 => post r19 w21)))) ∧ ((r2 = 0) → PX8_fails w1 hs 1 (fun r22 w24 => post r22 w24)))

def PX8_remember_2 (hs : Int64) (post : Mem → Prop) : Nat → Mem → Int32 → Int32 → Prop
  | 0, _, _, _ => False
  | n + 1, w, x1, x2 => ((6 ≤ x2) → post w) ∧ ((¬ 6 ≤ x2) → PX8_whoIs w hs x1 x2 (fun r2 => vp_in x2 6 ∧ ∀ w5 : Mem, w5 = mset w 10 (ix x2) r2 → PX8_remember_2 hs post n w5 x1 (x2 + 1)))

def PX8_remember (w : Mem) (hs : Int64) (p1 : Int32) (post : Mem → Prop) : Prop :=
  ∃ n6, PX8_remember_2 hs post n6 w p1 0

def PX8_layBack_2 (hs : Int64) (post : Mem → Prop) : Nat → Mem → Int32 → Int32 → Prop
  | 0, _, _, _ => False
  | n + 1, w, x1, x2 => ((6 ≤ x2) → post w) ∧ ((¬ 6 ≤ x2) → vp_in x2 6 ∧ vp_in ((67 + (6 * x1)) + x2) 91 ∧ ∀ w4 : Mem, w4 = mset w 0 (ix ((67 + (6 * x1)) + x2)) (w 10 (ix x2)) → PX8_layBack_2 hs post n w4 x1 (x2 + 1))

def PX8_layBack (w : Mem) (hs : Int64) (p1 : Int32) (post : Mem → Prop) : Prop :=
  ∃ n5, PX8_layBack_2 hs post n5 w p1 0

def PX8_keyOf (w : Mem) (hs : Int64) (p1 : Int32) (post : Int32 → Prop) : Prop :=
  PX8_parentsOf w hs p1 (fun r1 => ((¬ r1 = ((-1))) → PX8_parentsOf w hs p1 (fun r4 => PX8_middle w hs r4 (fun r6 => post r6))) ∧ ((r1 = ((-1))) → post 1000))

def PX8_ordered_155 (hs : Int64) (post : Int32 → Mem → Prop) (K126 : Mem → Int32 → Int32 → Int32 → Int32 → Prop) (w : Mem) (x1 : Int32) (x2 : Int32) (x4 : Int32) (z0 : Int32) (z1 : Int32) : Prop :=
  ∀ q10 : Int32, q10 = z1 + z0 → vp_in x4 6 ∧ vp_in ((67 + (6 * x1)) + x4) 91 ∧ ∀ w13 : Mem, w13 = mset w 0 (ix ((67 + (6 * x1)) + x4)) (w 9 (ix x4)) → K126 w13 x1 x2 q10 (x4 + 1)

def PX8_ordered_126 (hs : Int64) (post : Int32 → Mem → Prop) : Nat → Mem → Int32 → Int32 → Int32 → Int32 → Prop
  | 0, _, _, _, _, _ => False
  | n + 1, w, x1, x2, x3, x4 => ((x2 ≤ x4) → post x3 w) ∧ ((¬ x2 ≤ x4) → vp_in x4 6 ∧ vp_in x4 6 ∧ (((w 9 (ix x4)) = (w 10 (ix x4))) → PX8_ordered_155 hs post (PX8_ordered_126 hs post n) w x1 x2 x4 0 x3) ∧ ((¬ (w 9 (ix x4)) = (w 10 (ix x4))) → PX8_ordered_155 hs post (PX8_ordered_126 hs post n) w x1 x2 x4 1 x3))

def PX8_ordered_102 (hs : Int64) (post : Int32 → Mem → Prop) (K17 : Mem → Int32 → Int32 → Int32 → Prop) (w : Mem) (x1 : Int32) (x2 : Int32) (x3 : Int32) (x6 : Int32) : Prop :=
  vp_in x3 6 ∧ vp_in x6 6 ∧ ∀ w24 : Mem, w24 = mset w 9 (ix x6) (w 10 (ix x3)) → K17 w24 x1 x2 (x3 + 1)

def PX8_ordered_57 (hs : Int64) (post : Int32 → Mem → Prop) (K17 : Mem → Int32 → Int32 → Int32 → Prop) : Nat → Mem → Int32 → Int32 → Int32 → Int32 → Int32 → Prop
  | 0, _, _, _, _, _, _ => False
  | n + 1, w, x1, x2, x3, x5, x6 => ((x6 ≤ 0) → PX8_ordered_102 hs post K17 w x1 x2 x3 x6) ∧ ((¬ x6 ≤ 0) → vp_in (x6 - 1) 6 ∧ PX8_keyOf w hs (w 9 (ix (x6 - 1))) (fun r26 => ((r26 ≤ x5) → PX8_ordered_102 hs post K17 w x1 x2 x3 x6) ∧ ((¬ r26 ≤ x5) → vp_in (x6 - 1) 6 ∧ vp_in x6 6 ∧ ∀ w31 : Mem, w31 = mset w 9 (ix x6) (w 9 (ix (x6 - 1))) → PX8_ordered_57 hs post K17 n w31 x1 x2 x3 x5 (x6 + (-1)))))

def PX8_ordered_17 (hs : Int64) (post : Int32 → Mem → Prop) : Nat → Mem → Int32 → Int32 → Int32 → Prop
  | 0, _, _, _, _ => False
  | n + 1, w, x1, x2, x3 => ((x2 ≤ x3) → ∃ n14, PX8_ordered_126 hs post n14 w x1 x2 0 0) ∧ ((¬ x2 ≤ x3) → vp_in x3 6 ∧ PX8_parentsOf w hs (w 10 (ix x3)) (fun r16 => ((¬ r16 = ((-1))) → PX8_middle w hs r16 (fun r19 => ∃ n32, PX8_ordered_57 hs post (PX8_ordered_17 hs post n) n32 w x1 x2 x3 r19 x3)) ∧ ((r16 = ((-1))) → ∃ n33, PX8_ordered_57 hs post (PX8_ordered_17 hs post n) n33 w x1 x2 x3 1000 x3)))

def PX8_ordered (w : Mem) (hs : Int64) (p1 : Int32) (post : Int32 → Mem → Prop) : Prop :=
  vp_in (63 + p1) 91 ∧ ∀ q2 : Int32, q2 = w 0 (ix (63 + p1)) → PX8_remember w hs p1 (fun w4 => ∃ n34, PX8_ordered_17 hs post n34 w4 p1 q2 0)

def PX8_byParents (w : Mem) (hs : Int64) (p1 : Int32) (post : Int32 → Mem → Prop) : Prop :=
  ∀ w1 : Mem, w1 = mset w 5 0 0 → PX8_isRow p1 (fun r2 => ((¬ r2 = 0) → PX8_save w1 hs (fun w6 => PX8_ordered w6 hs p1 (fun r7 w9 => post r7 w9))) ∧ ((r2 = 0) → PX8_fails w1 hs 1 (fun r10 w12 => post r10 w12)))

def PX8_layByNumbers_19 (hs : Int64) (post : Mem → Prop) (K2 : Mem → Int32 → Int32 → Prop) : Nat → Mem → Int32 → Int32 → Int32 → Prop
  | 0, _, _, _, _ => False
  | n + 1, w, x1, x2, x3 => vp_in (63 + x1) 91 ∧ (((w 0 (ix (63 + x1))) ≤ x3) → K2 w x1 (x2 + 1)) ∧ ((¬ (w 0 (ix (63 + x1))) ≤ x3) → PX8_whoIs w hs x1 x3 (fun r6 => PX8_whoIs w hs x1 x2 (fun r8 => ((r8 ≤ r6) → PX8_layByNumbers_19 hs post K2 n w x1 x2 (x3 + 1)) ∧ ((¬ r8 ≤ r6) → PX8_exchange w hs x1 x2 x3 (fun w12 => PX8_layByNumbers_19 hs post K2 n w12 x1 x2 (x3 + 1))))))

def PX8_layByNumbers_2 (hs : Int64) (post : Mem → Prop) : Nat → Mem → Int32 → Int32 → Prop
  | 0, _, _, _ => False
  | n + 1, w, x1, x2 => vp_in (63 + x1) 91 ∧ (((w 0 (ix (63 + x1))) ≤ x2) → post w) ∧ ((¬ (w 0 (ix (63 + x1))) ≤ x2) → ∀ q3 : Int32, q3 = x2 + 1 → ∃ n13, PX8_layByNumbers_19 hs post (PX8_layByNumbers_2 hs post n) n13 w x1 x2 q3)

def PX8_layByNumbers (w : Mem) (hs : Int64) (p1 : Int32) (post : Mem → Prop) : Prop :=
  ∃ n14, PX8_layByNumbers_2 hs post n14 w p1 0

def PX8_layNext_92 (hs : Int64) (post : Int32 → Mem → Prop) : Nat → Mem → Int32 → Int32 → Int32 → Prop
  | 0, _, _, _, _ => False
  | n + 1, w, x1, x5, x6 => ((x6 ≤ x5) → post 1 w) ∧ ((¬ x6 ≤ x5) → PX8_exchange w hs x1 x5 x6 (fun w18 => PX8_layNext_92 hs post n w18 x1 (x5 + 1) (x6 + (-1))))

def PX8_layNext_52 (hs : Int64) (post : Int32 → Mem → Prop) : Nat → Mem → Int32 → Int32 → Int32 → Int32 → Prop
  | 0, _, _, _, _, _ => False
  | n + 1, w, x1, x2, x3, x4 => PX8_whoIs w hs x1 x4 (fun r7 => PX8_whoIs w hs x1 x3 (fun r9 => ((r9 ≤ r7) → PX8_exchange w hs x1 x3 x4 (fun w13 => ∀ q14 : Int32, q14 = x3 + 1 → ∀ q15 : Int32, q15 = x2 - 1 → ∃ n19, PX8_layNext_92 hs post n19 w13 x1 q14 q15)) ∧ ((¬ r9 ≤ r7) → PX8_layNext_52 hs post n w x1 x2 x3 (x4 + (-1)))
))
def PX8_layNext_41 (hs : Int64) (post : Int32 → Mem → Prop) (w : Mem) (x1 : Int32) (x2 : Int32) (x3 : Int32) : Prop :=
  ((0 ≤ x3) → ∀ q6 : Int32, q6 = x2 - 1 → ∃ n20, PX8_layNext_52 hs post n20 w x1 x2 x3 q6) ∧ ((¬ 0 ≤ x3) → post 0 w)

def PX8_layNext_14 (hs : Int64) (post : Int32 → Mem → Prop) : Nat → Mem → Int32 → Int32 → Int32 → Prop
  | 0, _, _, _, _ => False
  | n + 1, w, x1, x2, x3 => ((x3 < 0) → PX8_layNext_41 hs post w x1 x2 x3) ∧ ((¬ x3 < 0) → PX8_whoIs w hs x1 x3 (fun r21 => PX8_whoIs w hs x1 (x3 + 1) (fun r23 => ((r21 ≤ r23) → PX8_layNext_41 hs post w x1 x2 x3) ∧ ((¬ r21 ≤ r23) → PX8_layNext_14 hs post n w x1 x2 (x3 + (-1))))))

def PX8_layNext (w : Mem) (hs : Int64) (p1 : Int32) (post : Int32 → Mem → Prop) : Prop :=
  vp_in (63 + p1) 91 ∧ ∀ q2 : Int32, q2 = w 0 (ix (63 + p1)) → ∀ q3 : Int32, q3 = q2 - 2 → ∃ n26, PX8_layNext_14 hs post n26 w p1 q2 q3

def PX8_leastOf_69 (hs : Int64) (post : Int32 → Mem → Prop) (K14 : Mem → Int32 → Int32 → Int32 → Prop) (w : Mem) (x1 : Int32) (x2 : Int32) : Prop :=
  PX8_layNext w hs x1 (fun r13 w15 => K14 w15 x1 x2 r13
)
def PX8_leastOf_42 (hs : Int64) (post : Int32 → Mem → Prop) (K14 : Mem → Int32 → Int32 → Int32 → Prop) : Nat → Mem → Int32 → Int32 → Int32 → Prop
  | 0, _, _, _, _ => False
  | n + 1, w, x1, x2, x5 => ((6 ≤ x5) → PX8_leastOf_69 hs post K14 w x1 x2) ∧ ((¬ 6 ≤ x5) → PX8_whoIs w hs x1 x5 (fun r16 => vp_in x5 6 ∧ ∀ w19 : Mem, w19 = mset w 11 (ix x5) r16 → PX8_leastOf_42 hs post K14 n w19 x1 x2 (x5 + 1)))

def PX8_leastOf_14 (hs : Int64) (post : Int32 → Mem → Prop) : Nat → Mem → Int32 → Int32 → Int32 → Prop
  | 0, _, _, _, _ => False
  | n + 1, w, x1, x2, x3 => ((x3 = 0) → PX8_layBack w hs x1 (fun w7 => post x2 w7)) ∧ ((¬ x3 = 0) → PX8_crossingsAt w hs x1 (fun r8 w10 => ((x2 = ((-1))) → ∃ n20, PX8_leastOf_42 hs post (PX8_leastOf_14 hs post n) n20 w10 x1 r8 0) ∧ ((¬ x2 = ((-1))) → ((x2 ≤ r8) → PX8_leastOf_69 hs post (PX8_leastOf_14 hs post n) w10 x1 x2) ∧ ((¬ x2 ≤ r8) → ∃ n22, PX8_leastOf_42 hs post (PX8_leastOf_14 hs post n) n22 w10 x1 r8 0))))

def PX8_leastOf (w : Mem) (hs : Int64) (p1 : Int32) (post : Int32 → Mem → Prop) : Prop :=
  PX8_remember w hs p1 (fun w2 => PX8_layByNumbers w2 hs p1 (fun w4 => ∃ n23, PX8_leastOf_14 hs post n23 w4 p1 ((-1)) 1))

def PX8_untangle_30 (hs : Int64) (post : Int32 → Mem → Prop) : Nat → Mem → Int32 → Int32 → Int32 → Prop
  | 0, _, _, _, _ => False
  | n + 1, w, x1, x2, x3 => ((6 ≤ x3) → post x2 w) ∧ ((¬ 6 ≤ x3) → vp_in x3 6 ∧ vp_in ((67 + (6 * x1)) + x3) 91 ∧ ∀ w13 : Mem, w13 = mset w 0 (ix ((67 + (6 * x1)) + x3)) (w 11 (ix x3)) → PX8_untangle_30 hs post n w13 x1 x2 (x3 + 1))

def PX8_untangle (w : Mem) (hs : Int64) (p1 : Int32) (post : Int32 → Mem → Prop) : Prop :=
  ∀ w1 : Mem, w1 = mset w 5 0 0 → PX8_isRow p1 (fun r2 => ((¬ r2 = 0) → PX8_save w1 hs (fun w6 => PX8_leastOf w6 hs p1 (fun r7 w9 => ∃ n14, PX8_untangle_30 hs post n14 w9 p1 r7 0))) ∧ ((r2 = 0) → PX8_fails w1 hs 1 (fun r15 w17 => post r15 w17)))

def PX8_append (w : Mem) (hs : Int64) (p1 : Int32) (post : Int32 → Mem → Prop) : Prop :=
  ∀ w1 : Mem, w1 = mset w 5 0 0 → PX8_in p1 33 126 (fun r2 => ((¬ r2 = 0) → ((¬ (w1 13 0) = 60) → vp_in (w1 13 0) 60 ∧ ∀ w7 : Mem, w7 = mset w1 12 (ix (w1 13 0)) p1 → ∀ w8 : Mem, w8 = mset w7 13 0 ((w7 13 0) + 1) → post (w8 13 0) w8) ∧ (((w1 13 0) = 60) → PX8_fails w1 hs 2 (fun r9 w11 => post r9 w11))) ∧ ((r2 = 0) → PX8_fails w1 hs 1 (fun r12 w14 => post r12 w14)))

def PX8_clearBuffer (w : Mem) (hs : Int64) (post : Int32 → Mem → Prop) : Prop :=
  ∀ w1 : Mem, w1 = mset w 5 0 0 → ∀ q2 : Int32, q2 = w1 13 0 → ∀ w3 : Mem, w3 = mset w1 13 0 0 → post q2 w3

def PX8_code (w : Mem) (hs : Int64) (post : Int32 → Prop) : Prop :=
  (((w 13 0) ≤ (w 14 0)) → post 0) ∧ ((¬ (w 13 0) ≤ (w 14 0)) → vp_in (w 14 0) 60 ∧ post (w 12 (ix (w 14 0))))

def PX8_takes_28 (hs : Int64) (post : Int32 → Mem → Prop) (w : Mem) (x2 : Int32) (z0 : Int32) (z1 : Int32) : Prop :=
  ∀ w5 : Mem, w5 = mset w 14 0 (z1 + z0) → isB x2 ∧ post x2 w5

def PX8_takes_13 (hs : Int64) (post : Int32 → Mem → Prop) (w : Mem) (z0 : Int32) : Prop :=
  ((z0 = 0) → PX8_takes_28 hs post w z0 0 (w 14 0)) ∧ ((¬ z0 = 0) → PX8_takes_28 hs post w z0 1 (w 14 0))

def PX8_takes (w : Mem) (hs : Int64) (p1 : Int32) (post : Int32 → Mem → Prop) : Prop :=
  PX8_code w hs (fun r1 => ((¬ r1 = p1) → PX8_takes_13 hs post w 0) ∧ ((r1 = p1) → PX8_takes_13 hs post w 1))

def PX8_readsPerson (w : Mem) (hs : Int64) (post : Int32 → Mem → Prop) : Prop :=
  PX8_code w hs (fun r1 => PX8_in r1 48 57 (fun r3 => ((¬ r3 = 0) → PX8_code w hs (fun r6 => ∀ w8 : Mem, w8 = mset w 15 0 (r6 - 48) → ∀ w9 : Mem, w9 = mset w8 14 0 ((w8 14 0) + 1) → ((¬ (w9 15 0) = 1) → post 1 w9) ∧ (((w9 15 0) = 1) → PX8_code w9 hs (fun r11 => PX8_in r11 48 57 (fun r13 => ((r13 = 0) → post 1 w9) ∧ ((¬ r13 = 0) → PX8_code w9 hs (fun r16 => ∀ w18 : Mem, w18 = mset w9 15 0 ((10 + r16) - 48) → ∀ w19 : Mem, w19 = mset w18 14 0 ((w18 14 0) + 1) → post 1 w19))))))) ∧ ((r3 = 0) → post 0 w)))

def PX8_readsCouple_43 (hs : Int64) (post : Int32 → Mem → Prop) (w : Mem) (z0 : Int32) : Prop :=
  vp_in (w 16 0) 32 ∧ ∀ w12 : Mem, w12 = mset w 19 (ix (w 16 0)) (w 15 0) → isB z0 ∧ post z0 w12

def PX8_readsCouple_42 (hs : Int64) (post : Int32 → Mem → Prop) (w : Mem) : Prop :=
  PX8_readsCouple_43 hs post w 0

def PX8_readsCouple (w : Mem) (hs : Int64) (post : Int32 → Mem → Prop) : Prop :=
  PX8_readsPerson w hs (fun r1 w3 => ((¬ r1 = 0) → vp_in (w3 16 0) 32 ∧ ∀ w6 : Mem, w6 = mset w3 18 (ix (w3 16 0)) (w3 15 0) → PX8_takes w6 hs 38 (fun r7 w9 => ((r7 = 0) → PX8_readsCouple_42 hs post w9) ∧ ((¬ r7 = 0) → PX8_readsPerson w9 hs (fun r14 w16 => ((r14 = 0) → PX8_readsCouple_42 hs post w16) ∧ ((¬ r14 = 0) → PX8_readsCouple_43 hs post w16 1))))) ∧ ((r1 = 0) → post 0 w3))

def PX8_readsPart_126 (hs : Int64) (post : Int32 → Mem → Prop) (w : Mem) (x1 : Int32) (x2 : Int32) : Prop :=
  ((x2 = 0) → isB x2 ∧ post x2 w) ∧ ((¬ x2 = 0) → vp_in (w 16 0) 32 ∧ ∀ w13 : Mem, w13 = mset w 17 (ix (w 16 0)) x1 → ∀ w14 : Mem, w14 = mset w13 16 0 ((w13 16 0) + 1) → isB x2 ∧ post x2 w14)

def PX8_readsPart_122 (hs : Int64) (post : Int32 → Mem → Prop) (w : Mem) (x1 : Int32) (x2 : Int32) (z0 : Int32) (z1 : Int32) : Prop :=
  ∀ w24 : Mem, w24 = mset w 14 0 (z1 + z0) → PX8_readsPart_126 hs post w24 x1 x2

def PX8_readsPart_107 (hs : Int64) (post : Int32 → Mem → Prop) (w : Mem) (x1 : Int32) (x2 : Int32) (z0 : Int32) (z1 : Int32) : Prop :=
  vp_in z1 32 ∧ ∀ w22 : Mem, w22 = mset w 18 (ix z1) z0 → ((x2 = 0) → PX8_readsPart_122 hs post w22 x1 x2 0 (w22 14 0)) ∧ ((¬ x2 = 0) → PX8_readsPart_122 hs post w22 x1 x2 1 (w22 14 0))

def PX8_readsPart_48 (hs : Int64) (post : Int32 → Mem → Prop) (w : Mem) (x1 : Int32) (x2 : Int32) (z0 : Int32) (z1 : Int32) : Prop :=
  ∀ w7 : Mem, w7 = mset w 14 0 (z1 + z0) → ((¬ x1 = 43) → ((¬ x1 = 94) → PX8_readsPart_126 hs post w7 x1 x2) ∧ ((x1 = 94) → PX8_code w7 hs (fun r16 => PX8_in r16 48 57 (fun r18 => ((r18 = 0) → PX8_readsPart_107 hs post w7 x1 r18 0 (w7 16 0)) ∧ ((¬ r18 = 0) → PX8_code w7 hs (fun r25 => PX8_readsPart_107 hs post w7 x1 r18 (r25 - 48) (w7 16 0))))))) ∧ ((x1 = 43) → PX8_readsCouple w7 hs (fun r27 w29 => PX8_readsPart_126 hs post w29 x1 r27))

def PX8_readsPart_33 (hs : Int64) (post : Int32 → Mem → Prop) (w : Mem) (x1 : Int32) (z0 : Int32) : Prop :=
  ((z0 = 0) → PX8_readsPart_48 hs post w x1 z0 0 (w 14 0)) ∧ ((¬ z0 = 0) → PX8_readsPart_48 hs post w x1 z0 1 (w 14 0))

def PX8_readsPart_28 (hs : Int64) (post : Int32 → Mem → Prop) (w : Mem) (x1 : Int32) : Prop :=
  PX8_readsPart_33 hs post w x1 1

def PX8_readsPart (w : Mem) (hs : Int64) (post : Int32 → Mem → Prop) : Prop :=
  PX8_code w hs (fun r1 => PX8_in r1 48 51 (fun r3 => ((¬ r3 = 0) → PX8_readsPart_28 hs post w r1) ∧ ((r3 = 0) → ((r1 = 43) → PX8_readsPart_28 hs post w r1) ∧ ((¬ r1 = 43) → ((¬ r1 = 94) → PX8_readsPart_33 hs post w r1 0) ∧ ((r1 = 94) → PX8_readsPart_28 hs post w r1)))))

def PX8_isChronicle_36 (hs : Int64) (post : Int32 → Mem → Prop) (w : Mem) (x1 : Int32) : Prop :=
  ((x1 = 0) → post 0 w) ∧ ((¬ x1 = 0) → ((¬ (w 14 0) = (w 13 0)) → post 0 w) ∧ (((w 14 0) = (w 13 0)) → post 1 w))

def PX8_isChronicle_15 (hs : Int64) (post : Int32 → Mem → Prop) : Nat → Mem → Int32 → Prop
  | 0, _, _ => False
  | n + 1, w, x1 => ((x1 = 0) → PX8_isChronicle_36 hs post w x1) ∧ ((¬ x1 = 0) → PX8_takes w hs 59 (fun r9 w11 => ((r9 = 0) → PX8_isChronicle_36 hs post w11 x1) ∧ ((¬ r9 = 0) → PX8_readsPart w11 hs (fun r13 w15 => PX8_isChronicle_15 hs post n w15 r13))))

def PX8_isChronicle (w : Mem) (hs : Int64) (post : Int32 → Mem → Prop) : Prop :=
  ∀ w1 : Mem, w1 = mset w 14 0 0 → ∀ w2 : Mem, w2 = mset w1 16 0 0 → PX8_readsPart w2 hs (fun r3 w5 => ∃ n16, PX8_isChronicle_15 hs post n16 w5 r3)

def PX8_firstError (w : Mem) (hs : Int64) (post : Int32 → Mem → Prop) : Prop :=
  ∀ w1 : Mem, w1 = mset w 5 0 0 → PX8_isChronicle w1 hs (fun r2 w4 => ((r2 = 0) → post (w4 14 0) w4) ∧ ((¬ r2 = 0) → post (w4 13 0) w4))

def PX8_isDone (w : Mem) (hs : Int64) (p1 : Int32) (post : Int32 → Mem → Prop) : Prop :=
  vp_in p1 32 ∧ ((¬ (w 17 (ix p1)) = 43) → vp_in p1 32 ∧ ((¬ (w 17 (ix p1)) = 94) → vp_in p1 32 ∧ PX8_personNow w hs ((w 17 (ix p1)) - 48) ((-1)) (fun r6 w8 => ((r6 = ((-1))) → post 0 w8) ∧ ((¬ r6 = ((-1))) → post 1 w8))) ∧ (((w 17 (ix p1)) = 94) → vp_in p1 32 ∧ PX8_isCouple w hs (w 18 (ix p1)) (fun r11 => ((r11 = 0) → post 0 w) ∧ ((¬ r11 = 0) → vp_in p1 32 ∧ PX8_childNow w hs (w 18 (ix p1)) (fun r15 w17 => ((r15 = ((-1))) → post 0 w17) ∧ ((¬ r15 = ((-1))) → post 1 w17)))))) ∧ (((w 17 (ix p1)) = 43) → vp_in p1 32 ∧ PX8_isPerson w hs (w 18 (ix p1)) (fun r20 => ((r20 = 0) → post 0 w) ∧ ((¬ r20 = 0) → vp_in p1 32 ∧ PX8_isPerson w hs (w 19 (ix p1)) (fun r24 => ((r24 = 0) → post 0 w) ∧ ((¬ r24 = 0) → vp_in p1 32 ∧ vp_in p1 32 ∧ (((w 18 (ix p1)) = (w 19 (ix p1))) → post 0 w) ∧ ((¬ (w 18 (ix p1)) = (w 19 (ix p1))) → vp_in p1 32 ∧ vp_in p1 32 ∧ PX8_marryNow w hs (w 18 (ix p1)) (w 19 (ix p1)) (fun r32 w34 => ((r32 ≤ 9) → post 0 w34) ∧ ((¬ r32 ≤ 9) → post 1 w34))))))))

def PX8_run_46 (hs : Int64) (post : Int32 → Mem → Prop) (w : Mem) (x1 : Int32) : Prop :=
  ∀ w9 : Mem, w9 = mset w 13 0 0 → post x1 w9

def PX8_run_24 (hs : Int64) (post : Int32 → Mem → Prop) : Nat → Mem → Int32 → Prop
  | 0, _, _ => False
  | n + 1, w, x1 => (((w 16 0) ≤ x1) → PX8_run_46 hs post w x1) ∧ ((¬ (w 16 0) ≤ x1) → PX8_isDone w hs x1 (fun r10 w12 => ((r10 = 0) → PX8_run_46 hs post w12 x1) ∧ ((¬ r10 = 0) → PX8_run_24 hs post n w12 (x1 + 1))))

def PX8_run (w : Mem) (hs : Int64) (post : Int32 → Mem → Prop) : Prop :=
  ∀ w1 : Mem, w1 = mset w 5 0 0 → PX8_isChronicle w1 hs (fun r2 w4 => ((¬ r2 = 0) → PX8_save w4 hs (fun w7 => ∃ n14, PX8_run_24 hs post n14 w7 0)) ∧ ((r2 = 0) → PX8_fails w4 hs 1 (fun r15 w17 => post r15 w17)))

def PX8_parentSet_4 (w : Mem) (hs : Int64) (post : Int32 → Prop) : Nat → Int32 → Int32 → Int32 → Prop
  | 0, _, _, _ => False
  | n + 1, x1, x2, x3 => vp_in 0 91 ∧ (((w 0 (ix 0)) ≤ x3) → post x2) ∧ ((¬ (w 0 (ix 0)) ≤ x3) → PX8_parentsOf w hs x3 (fun r3 => ((¬ ((x1 >>> (x3 &&& 31)) &&& 1) = 1) → ∀ q6 : Int32, q6 = x2 ||| 0 → PX8_parentSet_4 w hs post n x1 q6 (x3 + 1)) ∧ ((((x1 >>> (x3 &&& 31)) &&& 1) = 1) → ((r3 = ((-1))) → ∀ q8 : Int32, q8 = x2 ||| 0 → PX8_parentSet_4 w hs post n x1 q8 (x3 + 1)) ∧ ((¬ r3 = ((-1))) → PX8_one w hs r3 (fun r9 => PX8_other w hs r3 (fun r11 => ∀ q13 : Int32, q13 = x2 ||| ((1 <<< (r9 &&& 31)) ||| (1 <<< (r11 &&& 31))) → PX8_parentSet_4 w hs post n x1 q13 (x3 + 1)))))))

def PX8_parentSet (w : Mem) (hs : Int64) (p1 : Int32) (post : Int32 → Prop) : Prop :=
  ∃ n14, PX8_parentSet_4 w hs post n14 p1 0 0

def PX8_ancestors (w : Mem) (hs : Int64) (p1 : Int32) (post : Int32 → Prop) : Prop :=
  PX8_parentSet w hs (1 <<< (p1 &&& 31)) (fun r1 => PX8_parentSet w hs r1 (fun r3 => PX8_parentSet w hs r3 (fun r5 => post ((r1 ||| r3) ||| r5))))

def PX8_ones_4 (post : Int32 → Prop) : Nat → Int32 → Int32 → Int32 → Prop
  | 0, _, _, _ => False
  | n + 1, x0, x1, x2 => ((20 ≤ x2) → post x1) ∧ ((¬ 20 ≤ x2) → ∀ q2 : Int32, q2 = x1 + ((x0 >>> (x2 &&& 31)) &&& 1) → PX8_ones_4 post n x0 q2 (x2 + 1))

def PX8_ones (p1 : Int32) (post : Int32 → Prop) : Prop :=
  ∃ n3, PX8_ones_4 post n3 p1 0 0

def PX8_descending_4 (w : Mem) (hs : Int64) (post : Int32 → Prop) : Nat → Int32 → Int32 → Int32 → Prop
  | 0, _, _, _ => False
  | n + 1, x1, x2, x3 => vp_in 0 91 ∧ (((w 0 (ix 0)) ≤ x3) → post x2) ∧ ((¬ (w 0 (ix 0)) ≤ x3) → PX8_ancestors w hs x3 (fun r3 => ∀ q5 : Int32, q5 = x2 + ((r3 >>> (x1 &&& 31)) &&& 1) → PX8_descending_4 w hs post n x1 q5 (x3 + 1)))

def PX8_descending (w : Mem) (hs : Int64) (p1 : Int32) (post : Int32 → Prop) : Prop :=
  ∃ n6, PX8_descending_4 w hs post n6 p1 0 0

def PX8_childrenOf_4 (w : Mem) (hs : Int64) (post : Int32 → Prop) : Nat → Int32 → Int32 → Int32 → Prop
  | 0, _, _, _ => False
  | n + 1, x1, x2, x3 => vp_in 0 91 ∧ (((w 0 (ix 0)) ≤ x3) → post x2) ∧ ((¬ (w 0 (ix 0)) ≤ x3) → PX8_parentsOf w hs x3 (fun r3 => ((¬ r3 = x1) → ∀ q6 : Int32, q6 = x2 + 0 → PX8_childrenOf_4 w hs post n x1 q6 (x3 + 1)) ∧ ((r3 = x1) → ∀ q7 : Int32, q7 = x2 + 1 → PX8_childrenOf_4 w hs post n x1 q7 (x3 + 1))))

def PX8_childrenOf (w : Mem) (hs : Int64) (p1 : Int32) (post : Int32 → Prop) : Prop :=
  ∃ n8, PX8_childrenOf_4 w hs post n8 p1 0 0

def PX8_allChildren_33 (w : Mem) (hs : Int64) (post : Int32 → Prop) (K4 : Int32 → Int32 → Int32 → Prop) (x1 : Int32) (x3 : Int32) (z0 : Int32) : Prop :=
  PX8_childrenOf w hs x3 (fun r6 => ∀ q8 : Int32, q8 = z0 + r6 → K4 x1 q8 (x3 + 1)
)
def PX8_allChildren_4 (w : Mem) (hs : Int64) (post : Int32 → Prop) : Nat → Int32 → Int32 → Int32 → Prop
  | 0, _, _, _ => False
  | n + 1, x1, x2, x3 => vp_in 1 91 ∧ (((w 0 (ix 1)) ≤ x3) → post x2) ∧ ((¬ (w 0 (ix 1)) ≤ x3) → PX8_one w hs x3 (fun r3 => ((r3 = x1) → PX8_allChildren_33 w hs post (PX8_allChildren_4 w hs post n) x1 x3 x2) ∧ ((¬ r3 = x1) → PX8_other w hs x3 (fun r9 => ((¬ r9 = x1) → ∀ q12 : Int32, q12 = x2 + 0 → PX8_allChildren_4 w hs post n x1 q12 (x3 + 1)) ∧ ((r9 = x1) → PX8_allChildren_33 w hs post (PX8_allChildren_4 w hs post n) x1 x3 x2)))))

def PX8_allChildren (w : Mem) (hs : Int64) (p1 : Int32) (post : Int32 → Prop) : Prop :=
  ∃ n13, PX8_allChildren_4 w hs post n13 p1 0 0

def PX8_ofPerson (w : Mem) (hs : Int64) (p1 : Int32) (p2 : Int32) (post : Int32 → Prop) : Prop :=
  (p2 = 0 → PX8_rowOf w hs p1 (fun r2 => post r2)) ∧ (¬ p2 = 0 → (p2 = 1 → PX8_placeOf w hs p1 (fun r5 => post r5)) ∧ (¬ p2 = 1 → (p2 = 2 → PX8_parentsOf w hs p1 (fun r8 => post r8)) ∧ (¬ p2 = 2 → (p2 = 3 → PX8_couplesOf w hs p1 (fun r11 => post r11)) ∧ (¬ p2 = 3 → (p2 = 4 → PX8_allChildren w hs p1 (fun r14 => post r14)) ∧ (¬ p2 = 4 → (p2 = 5 → PX8_descending w hs p1 (fun r17 => post r17)) ∧ (¬ p2 = 5 → PX8_ancestors w hs p1 (fun r19 => PX8_ones r19 (fun r21 => post r21))))))))

def PX8_personOf (w : Mem) (hs : Int64) (p1 : Int32) (p2 : Int32) (post : Int32 → Mem → Prop) : Prop :=
  ∀ w1 : Mem, w1 = mset w 5 0 0 → PX8_isPerson w1 hs p1 (fun r2 => ((¬ r2 = 0) → PX8_in p2 0 6 (fun r5 => ((r5 = 0) → PX8_fails w1 hs 2 (fun r8 w10 => post r8 w10)) ∧ ((¬ r5 = 0) → PX8_ofPerson w1 hs p1 p2 (fun r11 => post r11 w1)))) ∧ ((r2 = 0) → PX8_fails w1 hs 1 (fun r13 w15 => post r13 w15)))

def PX8_common (w : Mem) (hs : Int64) (p1 : Int32) (post : Int32 → Prop) : Prop :=
  PX8_one w hs p1 (fun r1 => PX8_ancestors w hs r1 (fun r3 => PX8_other w hs p1 (fun r5 => PX8_ancestors w hs r5 (fun r7 => PX8_ones (r3 &&& r7) (fun r9 => post r9)))))

def PX8_ofCouple (w : Mem) (hs : Int64) (p1 : Int32) (p2 : Int32) (post : Int32 → Prop) : Prop :=
  (p2 = 0 → PX8_one w hs p1 (fun r2 => post r2)) ∧ (¬ p2 = 0 → (p2 = 1 → PX8_other w hs p1 (fun r5 => post r5)) ∧ (¬ p2 = 1 → (p2 = 2 → PX8_one w hs p1 (fun r8 => PX8_rowOf w hs r8 (fun r10 => post r10))) ∧ (¬ p2 = 2 → (p2 = 3 → PX8_middle w hs p1 (fun r13 => post r13)) ∧ (¬ p2 = 3 → (p2 = 4 → PX8_childrenOf w hs p1 (fun r16 => post r16)) ∧ (¬ p2 = 4 → PX8_common w hs p1 (fun r18 => post r18))))))

def PX8_coupleOf (w : Mem) (hs : Int64) (p1 : Int32) (p2 : Int32) (post : Int32 → Mem → Prop) : Prop :=
  ∀ w1 : Mem, w1 = mset w 5 0 0 → PX8_isCouple w1 hs p1 (fun r2 => ((¬ r2 = 0) → PX8_in p2 0 5 (fun r5 => ((r5 = 0) → PX8_fails w1 hs 2 (fun r8 w10 => post r8 w10)) ∧ ((¬ r5 = 0) → PX8_ofCouple w1 hs p1 p2 (fun r11 => post r11 w1)))) ∧ ((r2 = 0) → PX8_fails w1 hs 1 (fun r13 w15 => post r13 w15)))

def PX8_personAt (w : Mem) (hs : Int64) (p1 : Int32) (p2 : Int32) (post : Int32 → Prop) : Prop :=
  vp_in (63 + p1) 91 ∧ (((w 0 (ix (63 + p1))) ≤ p2) → post ((-1))) ∧ ((¬ (w 0 (ix (63 + p1))) ≤ p2) → PX8_whoIs w hs p1 p2 (fun r3 => post r3))

def PX8_at (w : Mem) (hs : Int64) (p1 : Int32) (p2 : Int32) (post : Int32 → Mem → Prop) : Prop :=
  ∀ w1 : Mem, w1 = mset w 5 0 0 → PX8_isRow p1 (fun r2 => ((¬ r2 = 0) → ((p2 < 0) → PX8_fails w1 hs 2 (fun r6 w8 => post r6 w8)) ∧ ((¬ p2 < 0) → PX8_personAt w1 hs p1 p2 (fun r9 => post r9 w1))) ∧ ((r2 = 0) → PX8_fails w1 hs 1 (fun r11 w13 => post r11 w13)))

def PX8_crossings (w : Mem) (hs : Int64) (p1 : Int32) (p2 : Int32) (post : Int32 → Mem → Prop) : Prop :=
  ∀ w1 : Mem, w1 = mset w 5 0 0 → PX8_isRow p1 (fun r2 => ((¬ r2 = 0) → PX8_in p2 0 1 (fun r5 => ((r5 = 0) → PX8_fails w1 hs 2 (fun r8 w10 => post r8 w10)) ∧ ((¬ r5 = 0) → PX8_crossingsTo w1 hs p1 (fun r11 w13 => post r11 w13)))) ∧ ((r2 = 0) → PX8_fails w1 hs 1 (fun r14 w16 => post r14 w16)))

def PX8_allLines_4 (w : Mem) (hs : Int64) (post : Int32 → Prop) : Nat → Int32 → Int32 → Prop
  | 0, _, _ => False
  | n + 1, x1, x2 => vp_in 0 91 ∧ (((w 0 (ix 0)) ≤ x2) → post x1) ∧ ((¬ (w 0 (ix 0)) ≤ x2) → PX8_parentsOf w hs x2 (fun r3 => ((r3 = ((-1))) → ∀ q6 : Int32, q6 = x1 + 0 → PX8_allLines_4 w hs post n q6 (x2 + 1)) ∧ ((¬ r3 = ((-1))) → ∀ q7 : Int32, q7 = x1 + 1 → PX8_allLines_4 w hs post n q7 (x2 + 1))))

def PX8_allLines (w : Mem) (hs : Int64) (post : Int32 → Prop) : Prop :=
  ∃ n8, PX8_allLines_4 w hs post n8 0 0

def PX8_bent_16 (hs : Int64) (post : Int32 → Mem → Prop) (K4 : Mem → Int32 → Int32 → Prop) : Nat → Mem → Int32 → Int32 → Int32 → Prop
  | 0, _, _, _, _ => False
  | n + 1, w, x1, x2, x3 => (((w 8 0) ≤ x3) → K4 w x1 (x2 + 1)) ∧ ((¬ (w 8 0) ≤ x3) → vp_in x3 6 ∧ vp_in x3 6 ∧ (((w 6 (ix x3)) = (2 * (w 7 (ix x3)))) → ∀ q8 : Int32, q8 = x1 + 0 → PX8_bent_16 hs post K4 n w q8 x2 (x3 + 1)) ∧ ((¬ (w 6 (ix x3)) = (2 * (w 7 (ix x3)))) → ∀ q9 : Int32, q9 = x1 + 1 → PX8_bent_16 hs post K4 n w q9 x2 (x3 + 1)))

def PX8_bent_4 (hs : Int64) (post : Int32 → Mem → Prop) : Nat → Mem → Int32 → Int32 → Prop
  | 0, _, _, _ => False
  | n + 1, w, x1, x2 => ((4 ≤ x2) → post x1 w) ∧ ((¬ 4 ≤ x2) → PX8_draw w hs x2 (fun w3 => ∃ n10, PX8_bent_16 hs post (PX8_bent_4 hs post n) n10 w3 x1 x2 0))

def PX8_bent (w : Mem) (hs : Int64) (post : Int32 → Mem → Prop) : Prop :=
  ∃ n11, PX8_bent_4 hs post n11 w 0 1

def PX8_doubles_4 (w : Mem) (hs : Int64) (post : Int32 → Prop) : Nat → Int32 → Int32 → Prop
  | 0, _, _ => False
  | n + 1, x1, x2 => vp_in 0 91 ∧ (((w 0 (ix 0)) ≤ x2) → post x1) ∧ ((¬ (w 0 (ix 0)) ≤ x2) → PX8_couplesOf w hs x2 (fun r3 => ((¬ r3 = 2) → ∀ q6 : Int32, q6 = x1 + 0 → PX8_doubles_4 w hs post n q6 (x2 + 1)) ∧ ((r3 = 2) → ∀ q7 : Int32, q7 = x1 + 1 → PX8_doubles_4 w hs post n q7 (x2 + 1))))

def PX8_doubles (w : Mem) (hs : Int64) (post : Int32 → Prop) : Prop :=
  ∃ n8, PX8_doubles_4 w hs post n8 0 0

def PX8_akin_4 (w : Mem) (hs : Int64) (post : Int32 → Prop) : Nat → Int32 → Int32 → Prop
  | 0, _, _ => False
  | n + 1, x1, x2 => vp_in 1 91 ∧ (((w 0 (ix 1)) ≤ x2) → post x1) ∧ ((¬ (w 0 (ix 1)) ≤ x2) → PX8_common w hs x2 (fun r3 => ((r3 ≤ 0) → ∀ q6 : Int32, q6 = x1 + 0 → PX8_akin_4 w hs post n q6 (x2 + 1)) ∧ ((¬ r3 ≤ 0) → ∀ q7 : Int32, q7 = x1 + 1 → PX8_akin_4 w hs post n q7 (x2 + 1))))

def PX8_akin (w : Mem) (hs : Int64) (post : Int32 → Prop) : Prop :=
  ∃ n8, PX8_akin_4 w hs post n8 0 0

def PX8_count0 (w : Mem) (hs : Int64) (p1 : Int32) (post : Int32 → Mem → Prop) : Prop :=
  (p1 = 0 → vp_in 0 91 ∧ post (w 0 (ix 0)) w) ∧ (¬ p1 = 0 → (p1 = 1 → vp_in 1 91 ∧ post (w 0 (ix 1)) w) ∧ (¬ p1 = 1 → (p1 = 2 → PX8_allLines w hs (fun r6 => post r6 w)) ∧ (¬ p1 = 2 → (p1 = 3 → PX8_allCrossings w hs (fun r9 w11 => post r9 w11)) ∧ (¬ p1 = 3 → (p1 = 4 → PX8_bent w hs (fun r13 w15 => post r13 w15)) ∧ (¬ p1 = 4 → (p1 = 5 → PX8_doubles w hs (fun r17 => post r17 w)) ∧ (¬ p1 = 5 → (p1 = 6 → PX8_akin w hs (fun r20 => post r20 w)) ∧ (¬ p1 = 6 → (p1 = 7 → vp_in 2 91 ∧ post (w 0 (ix 2)) w) ∧ (¬ p1 = 7 → post (w 2 0) w))))))))

def PX8_count (w : Mem) (hs : Int64) (p1 : Int32) (post : Int32 → Mem → Prop) : Prop :=
  ∀ w1 : Mem, w1 = mset w 5 0 0 → PX8_in p1 0 8 (fun r2 => ((r2 = 0) → PX8_fails w1 hs 1 (fun r5 w7 => post r5 w7)) ∧ ((¬ r2 = 0) → PX8_count0 w1 hs p1 (fun r8 w10 => post r8 w10)))

def PX8_least (w : Mem) (hs : Int64) (p1 : Int32) (p2 : Int32) (post : Int32 → Mem → Prop) : Prop :=
  ∀ w1 : Mem, w1 = mset w 5 0 0 → PX8_isRow p1 (fun r2 => ((¬ r2 = 0) → PX8_in p2 0 1 (fun r5 => ((r5 = 0) → PX8_fails w1 hs 2 (fun r8 w10 => post r8 w10)) ∧ ((¬ r5 = 0) → PX8_leastOf w1 hs p1 (fun r11 w13 => post r11 w13)))) ∧ ((r2 = 0) → PX8_fails w1 hs 1 (fun r14 w16 => post r14 w16)))

def PX8_bestOfAll_78 (hs : Int64) (post : Int32 → Mem → Prop) (K9 : Mem → Int32 → Int32 → Int32 → Prop) (K17 : Mem → Int32 → Int32 → Int32 → Int32 → Prop) (w : Mem) (x1 : Int32) (x3 : Int32) (x4 : Int32) (x5 : Int32) (z0 : Int32) : Prop :=
  ((x1 ≤ x5) → K17 w x1 z0 x3 (x4 + 1)) ∧ ((¬ x1 ≤ x5) → K17 w x5 z0 x3 (x4 + 1))

def PX8_bestOfAll_17 (hs : Int64) (post : Int32 → Mem → Prop) (K9 : Mem → Int32 → Int32 → Int32 → Prop) : Nat → Mem → Int32 → Int32 → Int32 → Int32 → Prop
  | 0, _, _, _, _, _ => False
  | n + 1, w, x1, x2, x3, x4 => vp_in (63 + x3) 91 ∧ ((((w 0 (ix (63 + x3))) - 1) ≤ x4) → K9 w x1 x2 (x3 + 1)) ∧ ((¬ ((w 0 (ix (63 + x3))) - 1) ≤ x4) → PX8_exchange w hs x3 x4 (x4 + 1) (fun w8 => PX8_allCrossings w8 hs (fun r9 w11 => PX8_exchange w11 hs x3 x4 (x4 + 1) (fun w13 => ((x1 ≤ r9) → PX8_bestOfAll_78 hs post K9 (PX8_bestOfAll_17 hs post K9 n) w13 x1 x3 x4 r9 x2) ∧ ((¬ x1 ≤ r9) → PX8_bestOfAll_78 hs post K9 (PX8_bestOfAll_17 hs post K9 n) w13 x1 x3 x4 r9 ((10 * x3) + x4))))))

def PX8_bestOfAll_9 (hs : Int64) (post : Int32 → Mem → Prop) : Nat → Mem → Int32 → Int32 → Int32 → Prop
  | 0, _, _, _, _ => False
  | n + 1, w, x1, x2, x3 => ((4 ≤ x3) → post x2 w) ∧ ((¬ 4 ≤ x3) → ∃ n16, PX8_bestOfAll_17 hs post (PX8_bestOfAll_9 hs post n) n16 w x1 x2 x3 0)

def PX8_bestOfAll (w : Mem) (hs : Int64) (post : Int32 → Mem → Prop) : Prop :=
  PX8_allCrossings w hs (fun r1 w3 => ∃ n17, PX8_bestOfAll_9 hs post n17 w3 r1 ((-1)) 0)

def PX8_bestSwap (w : Mem) (hs : Int64) (post : Int32 → Mem → Prop) : Prop :=
  ∀ w1 : Mem, w1 = mset w 5 0 0 → PX8_bestOfAll w1 hs (fun r2 w4 => post r2 w4)

def PX8_near_26 (w : Mem) (hs : Int64) (post : Int32 → Prop) : Nat → Int32 → Int32 → Int32 → Int32 → Int32 → Prop
  | 0, _, _, _, _, _ => False
  | n + 1, x1, x2, x3, x4, x5 => vp_in 0 91 ∧ (((w 0 (ix 0)) ≤ x5) → post x4) ∧ ((¬ (w 0 (ix 0)) ≤ x5) → PX8_rowOf w hs x1 (fun r8 => PX8_rowOf w hs x2 (fun r10 => PX8_rowOf w hs x5 (fun r12 => ∀ q14 : Int32, q14 = (r8 + r10) - (2 * r12) → ((¬ ((x3 >>> (x5 &&& 31)) &&& 1) = 1) → PX8_near_26 w hs post n x1 x2 x3 x4 (x5 + 1)) ∧ ((((x3 >>> (x5 &&& 31)) &&& 1) = 1) → ((x4 = ((-1))) → PX8_near_26 w hs post n x1 x2 x3 q14 (x5 + 1)) ∧ ((¬ x4 = ((-1))) → ((x4 ≤ q14) → PX8_near_26 w hs post n x1 x2 x3 x4 (x5 + 1)) ∧ ((¬ x4 ≤ q14) → PX8_near_26 w hs post n x1 x2 x3 q14 (x5 + 1))))))))

def PX8_near (w : Mem) (hs : Int64) (p1 : Int32) (p2 : Int32) (post : Int32 → Prop) : Prop :=
  PX8_ancestors w hs p1 (fun r1 => PX8_ancestors w hs p2 (fun r3 => ∀ q5 : Int32, q5 = (r1 ||| (1 <<< (p1 &&& 31))) &&& (r3 ||| (1 <<< (p2 &&& 31))) → ∃ n18, PX8_near_26 w hs post n18 p1 p2 q5 ((-1)) 0))

def PX8_nearness_30 (hs : Int64) (post : Int32 → Mem → Prop) (w : Mem) : Prop :=
  PX8_fails w hs 1 (fun r5 w7 => post r5 w7
)
def PX8_nearness (w : Mem) (hs : Int64) (p1 : Int32) (p2 : Int32) (post : Int32 → Mem → Prop) : Prop :=
  ∀ w1 : Mem, w1 = mset w 5 0 0 → PX8_isPerson w1 hs p1 (fun r2 => ((r2 = 0) → PX8_nearness_30 hs post w1) ∧ ((¬ r2 = 0) → PX8_isPerson w1 hs p2 (fun r8 => ((r8 = 0) → PX8_nearness_30 hs post w1) ∧ ((¬ r8 = 0) → PX8_near w1 hs p1 p2 (fun r11 => post r11 w1)))))

def PX8_share (w : Mem) (hs : Int64) (post : UInt64 → Mem → Prop) : Prop :=
  PX8_allLines w hs (fun r1 => ((¬ r1 = 0) → PX8_allLines w hs (fun r4 => PX8_bent w hs (fun r6 w8 => PX8_allLines w8 hs (fun r9 => vf_n64 (FP.ddiv (FP.i2d (r4 - r6)) (FP.i2d r9)) ∧ post (FP.ddiv (FP.i2d (r4 - r6)) (FP.i2d r9)) w8)))) ∧ ((r1 = 0) → post 0x3ff0000000000000 w))

def PX8_straightShare (w : Mem) (hs : Int64) (post : UInt64 → Mem → Prop) : Prop :=
  ∀ w1 : Mem, w1 = mset w 5 0 0 → PX8_share w1 hs (fun r2 w4 => post r2 w4)

def PX8_mix (w : Mem) (hs : Int64) (p1 : Int64) (post : Int64 → Prop) : Prop :=
  ∀ hs1 : Int64, hs1 = (31 * hs) + p1 → post hs1

def PX8_mixRows_60 (post : Mem → Int64 → Prop) : Nat → Mem → Int64 → Int32 → Prop
  | 0, _, _, _ => False
  | n + 1, w, hs, x1 => ((4 ≤ x1) → post w hs) ∧ ((¬ 4 ≤ x1) → PX8_leastOf w hs x1 (fun r3 w5 => PX8_mix w5 hs r3.toInt64 (fun hs7 => PX8_leastOf w5 hs7 x1 (fun r8 w10 => PX8_mix w10 hs7 r8.toInt64 (fun hs12 => PX8_mixRows_60 post n w10 hs12 (x1 + 1))))))

def PX8_mixRows_9 (post : Mem → Int64 → Prop) (K2 : Mem → Int64 → Int32 → Prop) : Nat → Mem → Int64 → Int32 → Int32 → Prop
  | 0, _, _, _, _ => False
  | n + 1, w, hs, x1, x2 => ((6 ≤ x2) → PX8_crossingsTo w hs x1 (fun r15 w17 => PX8_mix w17 hs r15.toInt64 (fun hs19 => PX8_crossingsTo w17 hs19 x1 (fun r20 w22 => PX8_mix w22 hs19 r20.toInt64 (fun hs24 => K2 w22 hs24 (x1 + 1)))))) ∧ ((¬ 6 ≤ x2) → PX8_personAt w hs x1 x2 (fun r25 => PX8_mix w hs r25.toInt64 (fun hs28 => PX8_mixRows_9 post K2 n w hs28 x1 (x2 + 1))))

def PX8_mixRows_2 (post : Mem → Int64 → Prop) : Nat → Mem → Int64 → Int32 → Prop
  | 0, _, _, _ => False
  | n + 1, w, hs, x1 => ((4 ≤ x1) → ∃ n13, PX8_mixRows_60 post n13 w hs 0) ∧ ((¬ 4 ≤ x1) → ∃ n29, PX8_mixRows_9 post (PX8_mixRows_2 post n) n29 w hs x1 0)

def PX8_mixRows (w : Mem) (hs : Int64) (post : Mem → Int64 → Prop) : Prop :=
  ∃ n30, PX8_mixRows_2 post n30 w hs 0

def PJxe99ae_isNaN_b9ae7 (p1 : UInt64) (post : Int32 → Prop) : Prop :=
  (((Op.cmpValue (FP.dcmp p1 p1) .l) = 0) → post 0) ∧ ((¬ (Op.cmpValue (FP.dcmp p1 p1) .l) = 0) → post 1)

def PJxe99ae_doubleToLongBits_ccdee (p1 : UInt64) (post : Int64 → Prop) : Prop :=
  PJxe99ae_isNaN_b9ae7 p1 (fun r1 => ((¬ r1 = 0) → post 9221120237041090560) ∧ ((r1 = 0) → post p1.toInt64))

def PX8_digest_212 (post : Int64 → Mem → Int64 → Prop) : Nat → Mem → Int64 → Int32 → Prop
  | 0, _, _, _ => False
  | n + 1, w, hs, x1 => (((w 13 0) ≤ x1) → post hs w hs) ∧ ((¬ (w 13 0) ≤ x1) → vp_in x1 60 ∧ PX8_mix w hs ((w 12 (ix x1)).toInt64) (fun hs38 => PX8_digest_212 post n w hs38 (x1 + 1)))

def PX8_digest_198 (post : Int64 → Mem → Int64 → Prop) (w : Mem) (hs : Int64) (z0 : Int64) : Prop :=
  PX8_mix w hs z0 (fun hs32 => PX8_mix w hs32 ((w 13 0).toInt64) (fun hs34 => ∃ n39, PX8_digest_212 post n39 w hs34 0
))
def PX8_digest_180 (post : Int64 → Mem → Int64 → Prop) (w : Mem) (hs : Int64) (z0 : Int64) : Prop :=
  PX8_mix w hs z0 (fun hs28 => vp_in 1 2 ∧ (((w 4 (ix 1)) = 0) → PX8_digest_198 post w hs28 0) ∧ ((¬ (w 4 (ix 1)) = 0) → PX8_digest_198 post w hs28 1)
)
def PX8_digest_127 (post : Int64 → Mem → Int64 → Prop) : Nat → Mem → Int64 → Int32 → Prop
  | 0, _, _, _ => False
  | n + 1, w, hs, x1 => vp_in 0 91 ∧ (((w 0 (ix 0)) ≤ x1) → PX8_share w hs (fun r18 w20 => PJxe99ae_doubleToLongBits_ccdee r18 (fun r21 => PX8_mix w20 hs r21 (fun hs24 => vp_in 0 2 ∧ (((w20 4 (ix 0)) = 0) → PX8_digest_180 post w20 hs24 0) ∧ ((¬ (w20 4 (ix 0)) = 0) → PX8_digest_180 post w20 hs24 1))))) ∧ ((¬ (w 0 (ix 0)) ≤ x1) → PX8_near w hs 0 x1 (fun r40 => PX8_mix w hs r40.toInt64 (fun hs43 => PX8_digest_127 post n w hs43 (x1 + 1))))

def PX8_digest_76 (post : Int64 → Mem → Int64 → Prop) : Nat → Mem → Int64 → Int32 → Prop
  | 0, _, _, _ => False
  | n + 1, w, hs, x1 => vp_in 1 91 ∧ (((6 * (w 0 (ix 1))) ≤ x1) → PX8_mixRows w hs (fun w9 hs10 => PX8_bestOfAll w9 hs10 (fun r11 w13 => PX8_mix w13 hs10 r11.toInt64 (fun hs15 => ∃ n44, PX8_digest_127 post n44 w13 hs15 0)))) ∧ ((¬ (6 * (w 0 (ix 1))) ≤ x1) → PX8_ofCouple w hs (x1 / 6) (x1 - x1 / 6 * 6) (fun r45 => PX8_mix w hs r45.toInt64 (fun hs48 => PX8_digest_76 post n w hs48 (x1 + 1))))

def PX8_digest_38 (post : Int64 → Mem → Int64 → Prop) : Nat → Mem → Int64 → Int32 → Prop
  | 0, _, _, _ => False
  | n + 1, w, hs, x1 => vp_in 0 91 ∧ (((7 * (w 0 (ix 0))) ≤ x1) → ∃ n49, PX8_digest_76 post n49 w hs 0) ∧ ((¬ (7 * (w 0 (ix 0))) ≤ x1) → PX8_ofPerson w hs (x1 / 7) (x1 - x1 / 7 * 7) (fun r50 => PX8_mix w hs r50.toInt64 (fun hs53 => PX8_digest_38 post n w hs53 (x1 + 1))))

def PX8_digest_14 (post : Int64 → Mem → Int64 → Prop) : Nat → Mem → Int64 → Int32 → Prop
  | 0, _, _, _ => False
  | n + 1, w, hs, x1 => ((9 ≤ x1) → ∃ n54, PX8_digest_38 post n54 w hs 0) ∧ ((¬ 9 ≤ x1) → PX8_count0 w hs x1 (fun r55 w57 => PX8_mix w57 hs r55.toInt64 (fun hs59 => PX8_digest_14 post n w57 hs59 (x1 + 1))))

def PX8_digest (w : Mem) (hs : Int64) (post : Int64 → Mem → Int64 → Prop) : Prop :=
  ∀ w1 : Mem, w1 = mset w 5 0 0 → ∀ hs2 : Int64, hs2 = 3727 → ∃ n60, PX8_digest_14 post n60 w1 hs2 0

def PX7_person_x (kc : Mem) (v : Mem) (b : Mem) (r : Nat → Mem) (p1 : Int32) (post : Int32 → Mem → Mem → (Nat → Mem) → Prop) (xp : Nat → Prop) : Prop :=
  PX7_isRow p1 (fun r1 => ((¬ r1 = 0) → PX4_push b r v (fun b5 r6 => PX5_addPerson v p1 ((-1)) (fun r7 v9 => post r7 v9 b5 r6))) ∧ ((r1 = 0) → xp 0))

def PX7_marry_x (kc : Mem) (v : Mem) (b : Mem) (r : Nat → Mem) (p1 : Int32) (p2 : Int32) (post : Int32 → Mem → Mem → (Nat → Mem) → Prop) (xp : Nat → Prop) : Prop :=
  PX5_isPerson v p1 (fun r1 => ((r1 = 0) → xp 0) ∧ ((¬ r1 = 0) → PX5_isPerson v p2 (fun r4 => ((¬ r4 = 0) → ((¬ p1 = p2) → PX4_push b r v (fun b9 r10 => PX5_addCouple v p1 p2 (fun r11 v13 => post r11 v13 b9 r10))) ∧ ((p1 = p2) → xp 1)) ∧ ((r4 = 0) → xp 0))))

def PX7_child_x (kc : Mem) (v : Mem) (b : Mem) (r : Nat → Mem) (p1 : Int32) (post : Int32 → Mem → Mem → (Nat → Mem) → Prop) (xp : Nat → Prop) : Prop :=
  PX5_isCouple v p1 (fun r1 => ((¬ r1 = 0) → PX4_push b r v (fun b5 r6 => PX5_addChild v p1 (fun r7 v9 => post r7 v9 b5 r6))) ∧ ((r1 = 0) → xp 0))

def PX7_swap_x (kc : Mem) (v : Mem) (b : Mem) (r : Nat → Mem) (y : Mem) (p1 : Int32) (p2 : Int32) (post : Int32 → Mem → Mem → (Nat → Mem) → Mem → Prop) (xp : Nat → Prop) : Prop :=
  PX7_isRow p1 (fun r1 => ((¬ r1 = 0) → ((p2 < 0) → xp 1) ∧ ((¬ p2 < 0) → PX5_sizeOf v p1 (fun r5 => ((p2 < (r5 - 1)) → PX4_push b r v (fun b9 r10 => PX7_allCrossings kc v y (fun r11 y13 => PX5_exchange v p1 p2 (fun v15 => PX7_allCrossings kc v15 y13 (fun r16 y18 => post ((r16 - r11) + 100) v15 b9 r10 y18))))) ∧ ((¬ p2 < (r5 - 1)) → xp 1)))) ∧ ((r1 = 0) → xp 0))

def PX7_byParents_x (kc : Mem) (v : Mem) (b : Mem) (r : Nat → Mem) (o : Mem) (p1 : Int32) (post : Int32 → Mem → Mem → (Nat → Mem) → Mem → Prop) (xp : Nat → Prop) : Prop :=
  PX7_isRow p1 (fun r1 => ((¬ r1 = 0) → PX4_push b r v (fun b5 r6 => PX1_lay o v p1 (fun r7 o9 v10 => post r7 v10 b5 r6 o9))) ∧ ((r1 = 0) → xp 0))

def PX7_untangle_x (kc : Mem) (v : Mem) (b : Mem) (r : Nat → Mem) (x : Mem) (p1 : Int32) (post : Int32 → Mem → Mem → (Nat → Mem) → Mem → Prop) (xp : Nat → Prop) : Prop :=
  PX7_isRow p1 (fun r1 => ((¬ r1 = 0) → PX4_push b r v (fun b5 r6 => PX3_prepare x v p1 (fun x8 => PX3_leastByAllOrders x8 (fun r9 x11 => PX3_layBest x11 v p1 (fun v13 => post r9 v13 b5 r6 x11))))) ∧ ((r1 = 0) → xp 0))

def PX7_append_x (kc : Mem) (tx : Mem) (p1 : Int32) (post : Int32 → Mem → Prop) (xp : Nat → Prop) : Prop :=
  ((p1 < 33) → xp 1) ∧ ((¬ p1 < 33) → ((p1 ≤ 126) → PX6_isFull tx (fun r3 => ((r3 = 0) → PX6_add tx p1 (fun r6 tx8 => post r6 tx8)) ∧ ((¬ r3 = 0) → xp 2))) ∧ ((¬ p1 ≤ 126) → xp 1))

def PX7_run_x_69 (kc : Mem) (post : Int32 → Mem → Mem → (Nat → Mem) → Mem → Prop) (xp : Nat → Prop) (v : Mem) (b : Mem) (r : Nat → Mem) (tx : Mem) (x1 : Int32) : Prop :=
  PX6_empty tx (fun r10 tx12 => post x1 v b r tx12
)
def PX7_run_x_40 (kc : Mem) (post : Int32 → Mem → Mem → (Nat → Mem) → Mem → Prop) (xp : Nat → Prop) : Nat → Mem → Mem → (Nat → Mem) → Mem → Int32 → Prop
  | 0, _, _, _, _, _ => False
  | n + 1, v, b, r, tx, x1 => ((60 ≤ x1) → PX7_run_x_69 kc post xp v b r tx x1) ∧ ((¬ 60 ≤ x1) → PX6_readItem tx (fun r13 tx15 => ((r13 = 0) → PX7_run_x_69 kc post xp v b r tx15 x1) ∧ ((¬ r13 = 0) → PX7_doItem kc v tx15 (fun r17 v19 => ((r17 = 0) → PX7_run_x_69 kc post xp v19 b r tx15 x1) ∧ ((¬ r17 = 0) → PX7_run_x_40 kc post xp n v19 b r tx15 (x1 + 1))))))

def PX7_run_x (kc : Mem) (v : Mem) (b : Mem) (r : Nat → Mem) (tx : Mem) (post : Int32 → Mem → Mem → (Nat → Mem) → Mem → Prop) (xp : Nat → Prop) : Prop :=
  PX6_isWhole tx (fun r1 => ((¬ r1 = 0) → PX4_push b r v (fun b5 r6 => PX6_startReading tx (fun tx8 => ∃ n21, PX7_run_x_40 kc post xp n21 v b5 r6 tx8 0))) ∧ ((r1 = 0) → xp 1))

def PX7_keep_x (kc : Mem) (v : Mem) (sl : Nat → Mem) (p1 : Int32) (post : Int32 → Mem → (Nat → Mem) → Prop) (xp : Nat → Prop) : Prop :=
  PX7_isSlot p1 (fun r1 => ((¬ r1 = 0) → vp_in p1 2 ∧ PX5_copyFrom (sl (ix p1)) v (fun sl14 => ∀ sl15 : Nat → Mem, sl15 = rset sl (ix p1) sl14 → vp_in p1 2 ∧ ∀ kc17 : Mem, kc17 = mset kc 2 (ix p1) 1 → PX5_people v (fun r18 => post r18 kc17 sl15))) ∧ ((r1 = 0) → xp 1))

def PX7_goBack_x (kc : Mem) (v : Mem) (sl : Nat → Mem) (b : Mem) (r : Nat → Mem) (p1 : Int32) (post : Int32 → Mem → Mem → (Nat → Mem) → Prop) (xp : Nat → Prop) : Prop :=
  PX7_isSlot p1 (fun r1 => ((¬ r1 = 0) → vp_in p1 2 ∧ ((¬ (kc 2 (ix p1)) = 0) → PX4_push b r v (fun b7 r8 => vp_in p1 2 ∧ PX5_copyFrom v (sl (ix p1)) (fun v16 => PX5_people v16 (fun r17 => post r17 v16 b7 r8)))) ∧ (((kc 2 (ix p1)) = 0) → xp 2)) ∧ ((r1 = 0) → xp 1))

def PX7_undo_x (kc : Mem) (v : Mem) (b : Mem) (r : Nat → Mem) (post : Int32 → Mem → Mem → Prop) (xp : Nat → Prop) : Prop :=
  PX4_size b (fun r1 => ((¬ r1 = 0) → PX4_popTo b r v (fun b5 v6 => PX4_size b5 (fun r7 => post r7 v6 b5))) ∧ ((r1 = 0) → xp 2))

def PX7_personOf_x (kc : Mem) (v : Mem) (p1 : Int32) (p2 : Int32) (post : Int32 → Prop) (xp : Nat → Prop) : Prop :=
  PX5_isPerson v p1 (fun r1 => ((¬ r1 = 0) → (p2 = 0 → PX5_rowOf v p1 (fun r5 => post r5)) ∧ (¬ p2 = 0 → (p2 = 1 → PX5_placeOf v p1 (fun r8 => post r8)) ∧ (¬ p2 = 1 → (p2 = 2 → PX5_parentsOf v p1 (fun r11 => post r11)) ∧ (¬ p2 = 2 → (p2 = 3 → PX5_couplesWith v p1 (fun r14 => post r14)) ∧ (¬ p2 = 3 → (p2 = 4 → PX5_childrenWith v p1 (fun r17 => post r17)) ∧ (¬ p2 = 4 → (p2 = 5 → PX0_descendants v p1 (fun r20 => PJ6_bitCount_0f7a4 r20 (fun r22 => post r22))) ∧ (¬ p2 = 5 → (p2 = 6 → PX0_ancestors v p1 (fun r25 => PJ6_bitCount_0f7a4 r25 (fun r27 => post r27))) ∧ (¬ p2 = 6 → xp 1)))))))) ∧ ((r1 = 0) → xp 0))

def PX7_coupleOf_x (kc : Mem) (v : Mem) (p1 : Int32) (p2 : Int32) (post : Int32 → Prop) (xp : Nat → Prop) : Prop :=
  PX5_isCouple v p1 (fun r1 => ((¬ r1 = 0) → (p2 = 0 → PX5_lesserOf v p1 (fun r5 => post r5)) ∧ (¬ p2 = 0 → (p2 = 1 → PX5_greaterOf v p1 (fun r8 => post r8)) ∧ (¬ p2 = 1 → (p2 = 2 → PX5_lesserOf v p1 (fun r11 => PX5_rowOf v r11 (fun r13 => post r13))) ∧ (¬ p2 = 2 → (p2 = 3 → PX5_middleOf v p1 (fun r16 => post r16)) ∧ (¬ p2 = 3 → (p2 = 4 → PX5_childrenOf v p1 (fun r19 => post r19)) ∧ (¬ p2 = 4 → (p2 = 5 → PX0_commonAncestors v p1 (fun r22 => PJ6_bitCount_0f7a4 r22 (fun r24 => post r24))) ∧ (¬ p2 = 5 → xp 1))))))) ∧ ((r1 = 0) → xp 0))

def PX7_at_x (kc : Mem) (v : Mem) (p1 : Int32) (p2 : Int32) (post : Int32 → Prop) (xp : Nat → Prop) : Prop :=
  PX7_isRow p1 (fun r1 => ((¬ r1 = 0) → ((0 ≤ p2) → PX5_personAt v p1 p2 (fun r5 => post r5)) ∧ ((¬ 0 ≤ p2) → xp 1)) ∧ ((r1 = 0) → xp 0))

def PX7_crossings_x_36 (kc : Mem) (v : Mem) (post : Int32 → Mem → Prop) (xp : Nat → Prop) (y : Mem) (x1 : Int32) (x2 : Int32) : Prop :=
  PX2_collect y v x1 (fun y6 => ((¬ x2 = 0) → PX2_crossedOneByOne y6 (fun r8 y10 => post r8 y10)) ∧ ((x2 = 0) → PX2_crossedPairs y6 (fun r11 => post r11 y6))
)
def PX7_crossings_x (kc : Mem) (v : Mem) (y : Mem) (p1 : Int32) (p2 : Int32) (post : Int32 → Mem → Prop) (xp : Nat → Prop) : Prop :=
  PX7_isRow p1 (fun r1 => ((¬ r1 = 0) → ((p2 = 0) → PX7_crossings_x_36 kc v post xp y p1 p2) ∧ ((¬ p2 = 0) → ((p2 = 1) → PX7_crossings_x_36 kc v post xp y p1 p2) ∧ ((¬ p2 = 1) → xp 1))) ∧ ((r1 = 0) → xp 0))

def PX7_count_x (kc : Mem) (v : Mem) (b : Mem) (y : Mem) (p1 : Int32) (post : Int32 → Mem → Prop) (xp : Nat → Prop) : Prop :=
  (p1 = 0 → PX5_people v (fun r2 => post r2 y)) ∧ (¬ p1 = 0 → (p1 = 1 → PX5_couples v (fun r5 => post r5 y)) ∧ (¬ p1 = 1 → (p1 = 2 → PX5_lines v (fun r8 => post r8 y)) ∧ (¬ p1 = 2 → (p1 = 3 → PX7_allCrossings kc v y (fun r11 y13 => post r11 y13)) ∧ (¬ p1 = 3 → (p1 = 4 → PX5_bentLines v (fun r15 => post r15 y)) ∧ (¬ p1 = 4 → (p1 = 5 → PX5_doubles v (fun r18 => post r18 y)) ∧ (¬ p1 = 5 → (p1 = 6 → PX0_kinCouples v (fun r21 => post r21 y)) ∧ (¬ p1 = 6 → (p1 = 7 → PX5_refused v (fun r24 => post r24 y)) ∧ (¬ p1 = 7 → (p1 = 8 → PX4_size b (fun r27 => post r27 y)) ∧ (¬ p1 = 8 → xp 1)))))))))

def PX7_least_x_36 (kc : Mem) (v : Mem) (post : Int32 → Mem → Prop) (xp : Nat → Prop) (x : Mem) (x1 : Int32) (x2 : Int32) : Prop :=
  PX3_prepare x v x1 (fun x6 => ((¬ x2 = 0) → PX3_leastByLaying x6 (fun r8 x10 => post r8 x10)) ∧ ((x2 = 0) → PX3_leastByAllOrders x6 (fun r11 x13 => post r11 x13))
)
def PX7_least_x (kc : Mem) (v : Mem) (x : Mem) (p1 : Int32) (p2 : Int32) (post : Int32 → Mem → Prop) (xp : Nat → Prop) : Prop :=
  PX7_isRow p1 (fun r1 => ((¬ r1 = 0) → ((p2 = 0) → PX7_least_x_36 kc v post xp x p1 p2) ∧ ((¬ p2 = 0) → ((p2 = 1) → PX7_least_x_36 kc v post xp x p1 p2) ∧ ((¬ p2 = 1) → xp 1))) ∧ ((r1 = 0) → xp 0))

def PX7_nearness_x (kc : Mem) (v : Mem) (p1 : Int32) (p2 : Int32) (post : Int32 → Prop) (xp : Nat → Prop) : Prop :=
  PX5_isPerson v p1 (fun r1 => ((r1 = 0) → xp 0) ∧ ((¬ r1 = 0) → PX5_isPerson v p2 (fun r4 => ((¬ r4 = 0) → PX0_fewestLines v p1 p2 (fun r7 => post r7)) ∧ ((r4 = 0) → xp 0))))
