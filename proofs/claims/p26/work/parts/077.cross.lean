/-- the line at place q of middle x crosses the one at place q2 of middle x2, further to the left -/
def xx (q x q2 x2 : Nat) : Nat := if x < x2 ∧ q2 < q then 1 else 0
theorem xx1 (q x q2 x2 : Nat) : xx q x q2 x2 ≤ 1 := by unfold xx; split <;> decide
/-- the crossings of the lines to a row -/
def Kr.X (K : Kr) (r : Nat) : Nat := sm (fun q => og (fun q x => sm (fun q2 => og (fun q2 x2 => xx q x q2 x2) q2 (K.up (K.od r q2))) (K.sz r)) q (K.up (K.od r q))) (K.sz r)
def XX (mm pp : Nat → Nat) (m : Nat) : Nat := sm (fun a => sm (fun b => xx (pp a) (mm a) (pp b) (mm b)) m) m
theorem XX_X {mm pp : Nat → Nat} {m : Nat} {K : Kr} {r : Nat} (h : ∀ g : Nat → Nat → Nat, sm (fun j => g (pp j) (mm j)) m = sm (fun q => og g q (K.up (K.od r q))) (K.sz r)) : XX mm pp m = K.X r := by
  unfold XX Kr.X
  rw [sm_congr (fun a _ => h (fun q2 x2 => xx (pp a) (mm a) q2 x2))]
  exact h (fun q x => sm (fun q2 => og (fun q2 x2 => xx q x q2 x2) q2 (K.up (K.od r q2))) (K.sz r))
theorem XX_le (mm pp : Nat → Nat) {m : Nat} (h : m ≤ 6) : XX mm pp m ≤ 36 := by
  have h1 : XX mm pp m ≤ m * m := sm_le_mul fun a _ => by
    have := sm_le_mul (f := fun b => xx (pp a) (mm a) (pp b) (mm b)) (k := 1) (n := m) (fun b _ => xx1 _ _ _ _)
    omega
  have h2 : m * m ≤ 6 * 6 := Nat.mul_le_mul h h
  omega
theorem nI_leq {a b : Nat} (ha : a < 2 ^ 31) (hb : b < 2 ^ 31) (h : ¬ b < a) : nI a ≤ nI b := nI_le (by omega) hb
theorem c_cp_in {y : Mem} {m left c0 : Nat} {mm : Nat → Nat} (h2 : y 2 0 = nI m) (hm : m ≤ 6) (hA : ∀ j, j < m → y 0 j = nI (mm j)) (h11 : ∀ j, j < m → mm j < 11) (hl : left < m) {post : Int32 → Prop} {K4 : Int32 → Int32 → Prop} (k : K4 (nI (c0 + sm (fun b => if left < b ∧ mm b < mm left then 1 else 0) m)) (nI (left + 1))) : ∀ d i : Nat, i + d = m → left < i → PX2_crossedPairs_16 y post K4 (d + 1) (nI (c0 + sm (fun b => if left < b ∧ mm b < mm left then 1 else 0) i)) (nI left) (nI i) := by
  intro d
  induction d with
  | zero =>
    intro i hi hli
    unfold PX2_crossedPairs_16
    rw [h2, nI_1]
    refine pc_t (nle' (by omega) (by omega)) ?_
    rw [show i = m by omega]; exact k
  | succ d ih =>
    intro i hi hli
    have e := ih (i + 1) (by omega) (by omega)
    rw [sm_s] at e
    have b1 := h11 i (by omega)
    have b2 := h11 left hl
    unfold PX2_crossedPairs_16
    rw [h2, ix_nI (by omega), ix_nI (by omega), hA i (by omega), hA left hl]
    refine pc_f (nle (by omega) (by omega)) ⟨in_nI (by omega) (by omega), in_nI (by omega) (by omega), ?_⟩
    rw [nI_1, nI_1]
    by_cases h : mm i < mm left
    · rw [if_pos ⟨hli, h⟩] at e
      exact pc_f (nle h (by omega)) e
    · rw [if_neg (fun q => h q.2)] at e
      exact pc_t (nI_leq (by omega) (by omega) h) e
theorem c_cp_out {y : Mem} {m : Nat} {mm : Nat → Nat} (h2 : y 2 0 = nI m) (hm : m ≤ 6) (hA : ∀ j, j < m → y 0 j = nI (mm j)) (h11 : ∀ j, j < m → mm j < 11) {post : Int32 → Prop} (k : post (nI (sm (fun a => sm (fun b => if a < b ∧ mm b < mm a then 1 else 0) m) m))) : ∀ d i : Nat, i + d = m → PX2_crossedPairs_4 y post (d + 1) (nI (sm (fun a => sm (fun b => if a < b ∧ mm b < mm a then 1 else 0) m) i)) (nI i) := by
  intro d
  induction d with
  | zero =>
    intro i hi
    unfold PX2_crossedPairs_4
    rw [h2]
    refine pc_t (nle' (by omega) (by omega)) ?_
    rw [show i = m by omega]; exact k
  | succ d ih =>
    intro i hi
    have e := ih (i + 1) (by omega)
    rw [sm_s] at e
    unfold PX2_crossedPairs_4
    rw [h2]
    refine pc_f (nle (by omega) (by omega)) fun q2 eq => ?_
    rw [eq, nI_1]
    have h := c_cp_in (c0 := sm (fun a => sm (fun b => if a < b ∧ mm b < mm a then 1 else 0) m) i) (post := post) h2 hm hA h11 (left := i) (by omega) e (m - (i + 1)) (i + 1) (by omega) (by omega)
    rw [sm_none (fun b hb => if_neg (fun q => absurd q.1 (by omega)))] at h
    exact ⟨_, h⟩
theorem c_crossedPairs {y : Mem} {m : Nat} {K : Kr} {r : Nat} (W : WF K) (hr : r < 4) (h2 : y 2 0 = nI m) (hl : LN (y 0) (y 1) m K r (K.sz r)) {post : Int32 → Prop} (k : post (nI (K.X r))) : PX2_crossedPairs y post := by
  have h6 := W.sz6 hr
  obtain ⟨mm, pp, l1, l2, l3, l4, l5⟩ := hl
  refine ⟨_, c_cp_out h2 (by omega) (fun j hj => (l1 j hj).1) (fun j hj => (l2 j hj).1) ?_ m 0 (by omega)⟩
  rw [← XX_X l4] at k
  have e : sm (fun a => sm (fun b => if a < b ∧ mm b < mm a then 1 else 0) m) m = XX mm pp m := by
    rw [sm_swap]
    refine sm_congr fun b hb => sm_congr fun a ha => ?_
    unfold xx
    have h1 : a < b ↔ pp a < pp b := by
      constructor
      · exact fun h => l3 a b h hb
      · intro h
        rcases Nat.lt_trichotomy a b with g | g | g
        · exact g
        · rw [g] at h; omega
        · have := l3 b a g ha; omega
    by_cases g : a < b ∧ mm b < mm a
    · rw [if_pos g, if_pos ⟨g.2, h1.mp g.1⟩]
    · rw [if_neg g, if_neg (fun q => g ⟨h1.mpr q.2, q.1⟩)]
  rw [e]; exact k
/-- all but the drawn lines stays -/
def FR (w w2 : Mem) : Prop := ∀ j, j ≠ 6 → j ≠ 7 → j ≠ 8 → w2 j = w j
theorem FR.rf (w : Mem) : FR w w := fun _ _ _ _ => rfl
theorem FR.tr {a b c : Mem} (h : FR a b) (g : FR b c) : FR a c := fun j x y z => (g j x y z).trans (h j x y z)
theorem FR.ms {w w2 : Mem} (h : FR w w2) {K : Kr} (M : MS (w 0) K) : MS (w2 0) K := by rw [h 0 (by decide) (by decide) (by decide)]; exact M
theorem X_le {K : Kr} (W : WF K) {r : Nat} (hr : r < 4) : K.X r ≤ 36 := by
  have h6 := W.sz6 hr
  have h1 : K.X r ≤ K.sz r * K.sz r := sm_le_mul fun q _ => by
    cases K.up (K.od r q) with
    | none => exact Nat.zero_le _
    | some x =>
      have := sm_le_mul (f := fun q2 => og (fun q2 x2 => xx q x q2 x2) q2 (K.up (K.od r q2))) (k := 1) (n := K.sz r) (fun b _ => by
        cases K.up (K.od r b) with
        | none => exact Nat.zero_le _
        | some x2 => exact xx1 _ _ _ _)
      show sm _ _ ≤ _
      omega
  have h2 : K.sz r * K.sz r ≤ 6 * 6 := Nat.mul_le_mul h6 h6
  omega
def Kr.XA (K : Kr) : Nat := sm K.X 4
theorem c_allCrossings_l {kc v : Mem} {K : Kr} (C : CS v K) (W : WF K) {post : Int32 → Mem → Prop} (k : ∀ y, post (nI K.XA) y) : ∀ (d i : Nat) (y : Mem), i + d = 4 → PX7_allCrossings_4 kc v post (d + 1) y (nI (sm K.X i)) (nI i) := by
  intro d
  induction d with
  | zero =>
    intro i y hi
    unfold PX7_allCrossings_4
    rw [show i = 4 by omega]
    exact pc_t (by decide) (k y)
  | succ d ih =>
    intro i y hi
    unfold PX7_allCrossings_4
    rw [n4I]
    refine pc_f (nle (by omega) (by omega)) (c_collect C W (by omega) fun y3 m h2 hl => c_crossedPairs W (by omega) h2 hl fun q6 e6 => ?_)
    rw [e6, nI_add, nI_1]
    exact ih (i + 1) y3 (by omega)
theorem c_allCrossings {kc v y : Mem} {K : Kr} (C : CS v K) (W : WF K) {post : Int32 → Mem → Prop} (k : ∀ y, post (nI K.XA) y) : PX7_allCrossings kc v y post := ⟨_, c_allCrossings_l C W k 4 0 y (by omega)⟩
