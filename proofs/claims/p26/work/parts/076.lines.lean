theorem sm_single {f : Nat → Nat} {a : Nat} : ∀ {n : Nat}, a < n → (∀ i, i < n → i ≠ a → f i = 0) → sm f n = f a
  | 0, h, _ => absurd h (by omega)
  | n + 1, h, hz => by
    rw [sm_s]
    by_cases e : n = a
    · rw [sm_congr (g := fun _ => 0) (fun i hi => hz i (by omega) (by omega)), sm_zero, e]; omega
    · rw [sm_single (f := f) (a := a) (n := n) (by omega) (fun i hi => hz i (by omega)), hz n (by omega) e]; omega
theorem sm_none {f : Nat → Nat} {n : Nat} (h : ∀ i, i < n → f i = 0) : sm f n = 0 := by rw [sm_congr (g := fun _ => 0) h, sm_zero]
/-- people, counted row by row -/
theorem sm_rows {K : Kr} (W : WF K) (g : Nat → Nat) : sm g K.np = sm (fun r => sm (fun k => g (K.od r k)) (K.sz r)) 4 := by
  have h1 : ∀ r k, r < 4 → k < K.sz r → g (K.od r k) = sm (fun p => if K.od r k = p then g p else 0) K.np := fun r k hr hk => by
    rw [sm_single (a := K.od r k) (W.od_lt hr hk) (fun i _ hi => if_neg (fun e => hi e.symm)), if_pos rfl]
  have h2 : sm (fun r => sm (fun k => g (K.od r k)) (K.sz r)) 4 = sm (fun r => sm (fun p => sm (fun k => if K.od r k = p then g p else 0) (K.sz r)) K.np) 4 := sm_congr fun r hr => by
    rw [sm_congr (fun k hk => h1 r k hr hk), sm_swap]
  rw [h2, sm_swap]
  refine sm_congr fun p hp => ?_
  obtain ⟨l1, l2⟩ := W.pl_sz hp
  have hr := W.row4 hp
  rw [sm_single (a := K.row p) hr (fun r h3 h4 => sm_none fun k hk => if_neg (fun e => h4 (by rw [← e]; exact (W.od_row h3 hk).symm)))]
  rw [sm_single (a := K.pl p) l1 (fun k h3 h4 => if_neg (fun e => h4 (by have := W.pl_od hr h3; rw [e] at this; exact this.symm))), if_pos l2]
def og (g : Nat → Nat → Nat) (q : Nat) : Option Nat → Nat
  | none => 0
  | some x => g q x
/-- the lines drawn to the first k places of a row -/
def LN (A B : Nat → Int32) (m : Nat) (K : Kr) (r k : Nat) : Prop := ∃ mm pp : Nat → Nat, (∀ j, j < m → A j = nI (mm j) ∧ B j = nI (pp j)) ∧ (∀ j, j < m → mm j < 11 ∧ pp j < k) ∧ (∀ i j, i < j → j < m → pp i < pp j) ∧ (∀ g : Nat → Nat → Nat, sm (fun j => g (pp j) (mm j)) m = sm (fun q => og g q (K.up (K.od r q))) k) ∧ m ≤ k
theorem LN_0 (A B : Nat → Int32) (K : Kr) (r : Nat) : LN A B 0 K r 0 := ⟨fun _ => 0, fun _ => 0, fun j h => absurd h (by omega), fun j h => absurd h (by omega), fun i j _ h => absurd h (by omega), fun g => rfl, Nat.le_refl _⟩
theorem LN_n {A B : Nat → Int32} {m : Nat} {K : Kr} {r k : Nat} (h : LN A B m K r k) (hu : K.up (K.od r k) = none) : LN A B m K r (k + 1) := by
  obtain ⟨mm, pp, h1, h2, h3, h4, h5⟩ := h
  refine ⟨mm, pp, h1, fun j hj => ⟨(h2 j hj).1, by have := (h2 j hj).2; omega⟩, h3, fun g => ?_, by omega⟩
  rw [sm_s, ← h4 g, hu]; rfl
theorem LN_s {A B : Nat → Int32} {m : Nat} {K : Kr} {r k x : Nat} (h : LN A B m K r k) (hx : x < 11) (hu : K.up (K.od r k) = some x) : LN (upd A m (nI x)) (upd B m (nI k)) (m + 1) K r (k + 1) := by
  obtain ⟨mm, pp, h1, h2, h3, h4, h5⟩ := h
  refine ⟨fun j => if j = m then x else mm j, fun j => if j = m then k else pp j, fun j hj => ?_, fun j hj => ?_, fun i j hij hj => ?_, fun g => ?_, by omega⟩
  · unfold upd
    by_cases e : j = m
    · simp [e]
    · simp only [if_neg e]; exact h1 j (by omega)
  · by_cases e : j = m
    · simp only [if_pos e]; omega
    · simp only [if_neg e]; have := h2 j (by omega); omega
  · have hi : i ≠ m := by omega
    by_cases e : j = m
    · simp only [if_pos e, if_neg hi]; exact (h2 i (by omega)).2
    · simp only [if_neg e, if_neg hi]; exact h3 i j hij (by omega)
  · rw [sm_s, sm_s, ← h4 g, hu]
    simp only [if_pos]
    rw [sm_congr (g := fun j => g (pp j) (mm j)) (fun j hj => by rw [if_neg (by omega), if_neg (by omega)])]
    rfl
theorem LN_eq {A B A' B' : Nat → Int32} {m : Nat} {K : Kr} {r k : Nat} (h : LN A B m K r k) (ha : ∀ j, j < m → A' j = A j) (hb : ∀ j, j < m → B' j = B j) : LN A' B' m K r k := by
  obtain ⟨mm, pp, h1, h2⟩ := h
  exact ⟨mm, pp, fun j hj => by rw [ha j hj, hb j hj]; exact h1 j hj, h2⟩
theorem mset_a (v : Mem) (a i : Nat) (x : Int32) : mset v a i x a = upd (v a) i x := if_pos rfl
theorem mset_o (v : Mem) {a b : Nat} (i : Nat) (x : Int32) (h : b ≠ a) : mset v a i x b = v b := if_neg h
theorem upd_a (f : Nat → Int32) (i : Nat) (x : Int32) : upd f i x i = x := if_pos rfl
theorem upd_o (f : Nat → Int32) {i j : Nat} (x : Int32) (h : j ≠ i) : upd f i x j = f j := if_neg h
theorem up_some {K : Kr} {p c : Nat} (h : K.par p = some c) : K.up p = some (K.mid c) := by unfold Kr.up; rw [h]; rfl
theorem up_none {K : Kr} {p : Nat} (h : K.par p = none) : K.up p = none := by unfold Kr.up; rw [h]; rfl
theorem up11 (K : Kr) {p x : Nat} (h : K.up p = some x) : x < 11 := by
  unfold Kr.up at h
  cases e : K.par p with
  | none => rw [e] at h; cases h
  | some c => rw [e] at h; cases h; exact WF.mid11 K c
theorem c_collect_l {v : Mem} {K : Kr} (C : CS v K) (W : WF K) {r : Nat} (hr : r < 4) {post : Mem → Prop} (k : ∀ (y : Mem) (m : Nat), y 2 0 = nI m → LN (y 0) (y 1) m K r (K.sz r) → post y) : ∀ (d i : Nat) (y : Mem) (m : Nat), i + d = K.sz r → y 2 0 = nI m → LN (y 0) (y 1) m K r i → PX2_collect_7 v post (d + 1) y (nI r) (nI i) := by
  have h6 := W.sz6 hr
  intro d
  induction d with
  | zero =>
    intro i y m hi hm hl
    unfold PX2_collect_7
    refine c_sizeOf C hr (pc_t (nle' (by omega) (by omega)) (k y m hm ?_))
    rw [show K.sz r = i by omega]; exact hl
  | succ d ih =>
    intro i y m hi hm hl
    have hmi : m ≤ i := by obtain ⟨_, _, _, _, _, _, h⟩ := hl; exact h
    unfold PX2_collect_7
    refine c_sizeOf C hr (pc_f (nle (by omega) (by omega)) ?_)
    rw [n6I]
    refine pc_f (nle (by omega) (by omega)) (c_personAt C W hr (by omega) (c_middleAbove C W (W.od_lt hr (by omega)) ?_))
    rw [nI_1]
    cases hu : K.up (K.od r i) with
    | none => exact pc_t rfl (ih (i + 1) y m (by omega) hm (LN_n hl hu))
    | some x =>
      have hx := up11 K hu
      refine pc_f (pI_ne (c := x) (by omega) rfl) ?_
      rw [hm, ix_nI (by omega)]
      refine ⟨in_nI (by omega) (by omega), fun y12 e12 => ?_⟩
      have s12 : y12 2 0 = nI m := by rw [e12, mset_o _ _ _ (by decide)]; exact hm
      rw [s12, ix_nI (by omega)]
      refine ⟨in_nI (by omega) (by omega), fun y14 e14 y15 e15 => ?_⟩
      have s14 : y14 2 0 = nI m := by rw [e14, mset_o _ _ _ (by decide)]; exact s12
      refine ih (i + 1) y15 (m + 1) (by omega) (by rw [e15, mset_a, upd_a, s14, nI_1]) ?_
      have hq := LN_s hl hx hu
      have q0 : y15 0 = upd (y 0) m (nI x) := by rw [e15, mset_o _ _ _ (by decide), e14, mset_o _ _ _ (by decide), e12, mset_a]; rfl
      have q1 : y15 1 = upd (y 1) m (nI i) := by rw [e15, mset_o _ _ _ (by decide), e14, mset_a, e12, mset_o _ _ _ (by decide)]
      rw [q0, q1]; exact hq
theorem c_collect {v : Mem} {K : Kr} (C : CS v K) (W : WF K) {r : Nat} (hr : r < 4) {y : Mem} {post : Mem → Prop} (k : ∀ (y : Mem) (m : Nat), y 2 0 = nI m → LN (y 0) (y 1) m K r (K.sz r) → post y) : PX2_collect y v (nI r) post := by
  intro y1 e1
  exact ⟨_, c_collect_l C W hr k (K.sz r) 0 y1 0 (by omega) (by rw [e1, mset_a, upd_a]; rfl) (LN_0 _ _ _ _)⟩
