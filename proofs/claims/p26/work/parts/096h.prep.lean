/-! the class's search: what no order of the row changes -/
def Kr.szb (K : Kr) (r : Nat) : Nat := if r < 3 then K.sz (r + 1) else 0
theorem szb6 {K : Kr} (W : WF K) {r : Nat} (hr : r < 4) : K.szb r ≤ 6 := by
  unfold Kr.szb
  by_cases g : r < 3
  · rw [if_pos g]; exact W.sz6 (by omega)
  · rw [if_neg g]; omega
theorem szb_lt {K : Kr} {r q : Nat} (h : q < K.szb r) : r < 3 ∧ q < K.sz (r + 1) := by
  unfold Kr.szb at h
  by_cases g : r < 3
  · rw [if_pos g] at h; exact ⟨g, h⟩
  · rw [if_neg g] at h; omega
theorem c_sizeB {v : Mem} {K : Kr} (C : CS v K) {r : Nat} (hr : r < 4) {post : Int32 → Prop} (k : post (nI (K.szb r))) : PX5_sizeOf v (nI (r + 1)) post := by
  unfold Kr.szb at k
  by_cases g : r < 3
  · rw [if_pos g] at k; exact c_sizeOf C (by omega) k
  · rw [if_neg g] at k
    rw [show r = 3 by omega]
    exact c_sizeOf4 k
/-- the first of both is behind the second one -/
def gtU : Option Nat → Option Nat → Bool
  | some a, some b => decide (b < a)
  | _, _ => false
/-- rows of the search's memory that stay -/
def SX (a b : Nat) (x x2 : Mem) : Prop := ∀ j, j ≠ a → j ≠ b → x2 j = x j
theorem c_list_l {v : Mem} {K : Kr} (C : CS v K) (W : WF K) {r : Nat} (hr : r < 4) {x0 : Mem} {post : Mem → Prop} (k : ∀ x, SX 0 10 x0 x → x 10 0 = nI (K.sz r) → (∀ q, q < K.sz r → x 0 q = nI (K.srt r q)) → post x) : ∀ (d p : Nat) (x : Mem), p + d = K.np → SX 0 10 x0 x → x 10 0 = nI (K.cnt r p) → (∀ q, q < p → K.row q = r → x 0 (K.cnt r q) = nI q) → PX3_listPeople_7 v post (d + 1) x (nI r) (nI p) := by
  have h6 := W.sz6 hr
  have hn := W.np20
  have cs := cnt_sz W hr
  have fin : ∀ (x : Mem) (p : Nat), p ≤ K.np → K.cnt r p = K.sz r → SX 0 10 x0 x → x 10 0 = nI (K.cnt r p) → (∀ q, q < p → K.row q = r → x 0 (K.cnt r q) = nI q) → post x := fun x p hp ec f h10 h0 => by
    refine k x f (by rw [h10, ec]) fun q hq => ?_
    have s := srt_f W hr hq
    have e := h0 (K.srt r q) (by
      rcases Nat.lt_or_ge (K.srt r q) p with g | g
      · exact g
      · have := sm_mono (fun q => if K.row q = r then 1 else 0) g
        have b : K.cnt r p ≤ K.cnt r (K.srt r q) := this
        omega) s.2.1
    rw [s.2.2] at e; exact e
  intro d
  induction d with
  | zero =>
    intro p x hp f h10 h0
    have ep : p = K.np := by omega
    unfold PX3_listPeople_7 PX5_people
    rw [C.1.1]
    exact pc_t (nle' (by omega) (by omega)) (fin x p (by omega) (by rw [ep]; exact cs) f h10 h0)
  | succ d ih =>
    intro p x hp f h10 h0
    have hp2 : p < K.np := by omega
    have cl : K.cnt r p ≤ K.sz r := by rw [← cs]; exact sm_mono _ (by omega)
    have es : K.cnt r (p + 1) = K.cnt r p + (if K.row p = r then 1 else 0) := rfl
    have cl2 : K.cnt r (p + 1) ≤ K.sz r := by rw [← cs]; exact sm_mono _ (by omega)
    unfold PX3_listPeople_7 PX5_people
    rw [C.1.1, h10, n6I, nI_1]
    refine pc_f (nle hp2 (by omega)) ?_
    by_cases g6 : 6 ≤ K.cnt r p
    · exact pc_t (nle' g6 (by omega)) (fin x p (by omega) (by omega) f h10 h0)
    · refine pc_f (nle (by omega) (by omega)) (c_rowOf C W hp2 ?_)
      have r4 := W.row4 hp2
      by_cases e : K.row p = r
      · rw [if_pos e] at es
        refine pd_t (by rw [e]) ⟨in_nI (by omega) (by omega), fun x10 e10 x11 e11 => ?_⟩
        rw [ix_nI (show K.cnt r p < 2 ^ 31 by omega)] at e10
        have z : x10 10 0 = nI (K.cnt r p) := by rw [e10, mset_o _ _ _ (by decide)]; exact h10
        rw [z, nI_1] at e11
        refine ih (p + 1) x11 (by omega) (fun j a b => by rw [e11, mset_o _ _ _ b, e10, mset_o _ _ _ a]; exact f j a b) (by rw [e11, mset_a, upd_a, es]) fun q hq hq2 => ?_
        rw [e11, mset_o _ _ _ (by decide), e10, mset_a]
        rcases Nat.lt_succ_iff_lt_or_eq.mp hq with g | rfl
        · have := cnt_lt hq2 g
          rw [upd_o _ _ (by omega)]; exact h0 q g hq2
        · rw [upd_a]
      · rw [if_neg e] at es
        refine pd_f (nne (by omega) (by omega) e) (ih (p + 1) x (by omega) f (by rw [es]; exact h10) fun q hq hq2 => ?_)
        rcases Nat.lt_succ_iff_lt_or_eq.mp hq with g | rfl
        · exact h0 q g hq2
        · exact absurd hq2 e
theorem c_listPeople {x v : Mem} {K : Kr} (C : CS v K) (W : WF K) {r : Nat} (hr : r < 4) {post : Mem → Prop} (k : ∀ x2, SX 0 10 x x2 → x2 10 0 = nI (K.sz r) → (∀ q, q < K.sz r → x2 0 q = nI (K.srt r q)) → post x2) : PX3_listPeople x v (nI r) post := by
  intro x1 e1
  exact ⟨_, c_list_l C W hr (x0 := x) k K.np 0 x1 (by omega) (fun j a b => by rw [e1, mset_o _ _ _ b]) (by rw [e1, mset_a, upd_a]; rfl) (fun q h => absurd h (by omega))⟩
/-- whose line crosses that of p if they are to the left -/
def XL3 (K : Kr) (r p : Nat) (q : Nat) : Prop := q < K.np ∧ K.row q = r ∧ gtU (K.up q) (K.up p) = true
theorem c_nlt_in {v : Mem} {K : Kr} (C : CS v K) (W : WF K) {r : Nat} (hr : r < 4) {x : Mem} (h10 : x 10 0 = nI (K.sz r)) (h0 : ∀ q, q < K.sz r → x 0 q = nI (K.srt r q)) {t : Nat} (ht : t < K.sz r) {post : Mem → Prop} {K2 : Mem → Int32 → Prop} (k : ∀ x2 y, x2 = mset x 3 (K.srt r t) y → BS y (XL3 K r (K.srt r t)) → K2 x2 (nI (t + 1))) : ∀ (d i : Nat) (y : Int32), i + d = K.sz r → BS y (fun q => ∃ j, j < i ∧ K.srt r j = q ∧ gtU (K.up q) (K.up (K.srt r t)) = true) → PX3_noteLinesTo_27 v post K2 (d + 1) x (nI t) (pI (K.up (K.srt r t))) y (nI i) := by
  have h6 := W.sz6 hr
  have hn := W.np20
  have st := srt_f W hr ht
  have fin : ∀ y : Int32, BS y (XL3 K r (K.srt r t)) → PX3_noteLinesTo_76 v post K2 x (nI t) y := fun y hy => by
    unfold PX3_noteLinesTo_76
    rw [ix_nI (show t < 2 ^ 31 by omega), h0 t ht, ix_nI (show K.srt r t < 2 ^ 31 by omega), nI_1]
    exact ⟨in_nI (by omega) (by omega), in_nI (by omega) (by omega), fun x8 e8 => k x8 y e8 hy⟩
  intro d
  induction d with
  | zero =>
    intro i y hi hy
    unfold PX3_noteLinesTo_27
    rw [h10]
    refine pc_t (nle' (by omega) (by omega)) (fin y (hy.cg fun q _ => ⟨?_, ?_⟩))
    · rintro ⟨j, hj, rfl, g⟩
      have s := srt_f W hr (show j < K.sz r by omega)
      exact ⟨s.1, s.2.1, g⟩
    · rintro ⟨a, b, g⟩
      exact ⟨K.cnt r q, by rw [show i = K.sz r by omega, ← cnt_sz W hr]; exact cnt_lt b a, srt_cnt a b, g⟩
  | succ d ih =>
    intro i y hi hy
    have hi2 : i < K.sz r := by omega
    have si := srt_f W hr hi2
    unfold PX3_noteLinesTo_27
    rw [h10, ix_nI (show i < 2 ^ 31 by omega), h0 i hi2, nI_1]
    refine pc_f (nle hi2 (by omega)) ?_
    cases hu : K.up (K.srt r t) with
    | none =>
      refine pc_t rfl (fin y (hy.cg fun q _ => ⟨?_, ?_⟩))
      · rintro ⟨j, _, _, g⟩
        rw [hu] at g
        cases h : K.up q <;> rw [h] at g <;> cases g
      · rintro ⟨_, _, g⟩
        rw [hu] at g
        cases h : K.up q <;> rw [h] at g <;> cases g
    | some m =>
      have hm := up11 K hu
      rw [hu] at ih hy
      refine pc_f (nI_ne_m1 (show m < 2 ^ 31 by omega)) ⟨in_nI (by omega) (by omega), c_middleAbove C W si.1 ?_⟩
      have stepno : gtU (K.up (K.srt r i)) (some m) = false → PX3_noteLinesTo_27 v post K2 (d + 1) x (nI t) (pI (some m)) y (nI (i + 1)) := fun g => by
        refine ih (i + 1) y (by omega) (hy.cg fun q _ => ⟨?_, ?_⟩)
        · rintro ⟨j, hj, e, h⟩; exact ⟨j, by omega, e, h⟩
        · rintro ⟨j, hj, e, h⟩
          rcases Nat.lt_succ_iff_lt_or_eq.mp hj with l | rfl
          · exact ⟨j, l, e, h⟩
          · subst e; rw [h] at g; cases g
      cases hv : K.up (K.srt r i) with
      | none => exact pc_t (by show (-1 : Int32) ≤ nI m; exact Int32.le_trans (by decide : (-1 : Int32) ≤ 0) (nI_pos' (by omega))) (stepno (by rw [hv]; rfl))
      | some a =>
        have ha := up11 K hv
        by_cases g : m < a
        · refine pc_f (nle g (by omega)) ⟨in_nI (by omega) (by omega), fun q15 e15 => ih (i + 1) q15 (by omega) ?_⟩
          rw [e15]
          refine (hy.or (BS.one (a := K.srt r i) (by omega))).cg fun q _ => ⟨?_, ?_⟩
          · rintro (⟨j, hj, e, h⟩ | e)
            · exact ⟨j, by omega, e, h⟩
            · subst e; exact ⟨i, by omega, rfl, by rw [hv]; exact decide_eq_true g⟩
          · rintro ⟨j, hj, e, h⟩
            rcases Nat.lt_succ_iff_lt_or_eq.mp hj with l | rfl
            · exact Or.inl ⟨j, l, e, h⟩
            · exact Or.inr e.symm
        · exact pc_t (nI_leq (by omega) (by omega) g) (stepno (by rw [hv]; exact decide_eq_false g))
theorem c_nlt_out {v : Mem} {K : Kr} (C : CS v K) (W : WF K) {r : Nat} (hr : r < 4) {x0 : Mem} (h10 : x0 10 0 = nI (K.sz r)) (h0 : ∀ q, q < K.sz r → x0 0 q = nI (K.srt r q)) {post : Mem → Prop} (k : ∀ x, (∀ j, j ≠ 3 → x j = x0 j) → (∀ q, q < K.sz r → BS (x 3 (K.srt r q)) (XL3 K r (K.srt r q))) → post x) : ∀ (d t : Nat) (x : Mem), t + d = K.sz r → (∀ j, j ≠ 3 → x j = x0 j) → (∀ q, q < t → BS (x 3 (K.srt r q)) (XL3 K r (K.srt r q))) → PX3_noteLinesTo_2 v post (d + 1) x (nI t) := by
  have h6 := W.sz6 hr
  have hn := W.np20
  intro d
  induction d with
  | zero =>
    intro t x ht f h3
    unfold PX3_noteLinesTo_2
    rw [f 10 (by decide), h10]
    exact pc_t (nle' (by omega) (by omega)) (k x f fun q hq => h3 q (by omega))
  | succ d ih =>
    intro t x ht f h3
    have ht2 : t < K.sz r := by omega
    have z10 : x 10 0 = nI (K.sz r) := by rw [f 10 (by decide)]; exact h10
    have z0 : ∀ q, q < K.sz r → x 0 q = nI (K.srt r q) := fun q hq => by rw [f 0 (by decide)]; exact h0 q hq
    unfold PX3_noteLinesTo_2
    rw [z10, ix_nI (show t < 2 ^ 31 by omega), z0 t ht2]
    refine pc_f (nle ht2 (by omega)) ⟨in_nI (by omega) (by omega), c_middleAbove C W (srt_f W hr ht2).1 ⟨_, c_nlt_in C W hr z10 z0 ht2 (fun x2 y e2 hy => ?_) (K.sz r) 0 0 (by omega) (BS.zero.cg fun q _ => ⟨fun h => h.elim, fun ⟨j, hj, _⟩ => absurd hj (by omega)⟩)⟩⟩
    refine ih (t + 1) x2 (by omega) (fun j a => by rw [e2, mset_o _ _ _ a]; exact f j a) fun q hq => ?_
    rw [e2, mset_a]
    rcases Nat.lt_succ_iff_lt_or_eq.mp hq with g | rfl
    · rw [upd_o _ _ (fun e => by have a := (srt_inc W hr (show q < K.sz r by omega) ht2).mpr g; omega)]; exact h3 q g
    · rw [upd_a]; exact hy
/-- the couples that have children in the row behind -/
def LCo (x : Mem) (K : Kr) (r m i : Nat) (cc : Nat → Nat) : Prop := m ≤ i ∧ x 11 0 = nI m ∧ (∀ j, j < m → cc j < K.nc ∧ K.row (K.lo (cc j)) = r ∧ x 4 j = nI (cc j) ∧ x 5 j = nI (K.lo (cc j)) ∧ x 6 j = nI (K.hi (cc j))) ∧ (∀ a b, a < m → b < m → cc a = cc b → a = b) ∧ ∀ q, q < i → (K.par (K.od (r + 1) q) = none ∧ x 8 q = -1) ∨ ∃ j, j < m ∧ K.par (K.od (r + 1) q) = some (cc j) ∧ x 8 q = nI j
def S5 (x x2 : Mem) : Prop := ∀ j, j ≠ 4 → j ≠ 5 → j ≠ 6 → j ≠ 8 → j ≠ 11 → x2 j = x j
theorem S5.rf (x : Mem) : S5 x x := fun _ _ _ _ _ _ => rfl
theorem S5.tr {a b c : Mem} (h : S5 a b) (g : S5 b c) : S5 a c := fun j x y z t u => (g j x y z t u).trans (h j x y z t u)
theorem c_ioc {v : Mem} {K : Kr} (C : CS v K) (W : WF K) {r m i c : Nat} {cc : Nat → Nat} {x : Mem} (hi : i < 6) (L : LCo x K r m i cc) (hc : c < K.nc) (hrow : K.row (K.lo c) = r) {post : Int32 → Mem → Prop} (k : ∀ (x2 : Mem) (m2 : Nat) (cc2 : Nat → Nat) (j : Nat), S5 x x2 → j < m2 → cc2 j = c → m2 ≤ i + 1 → x2 8 = x 8 → x2 11 0 = nI m2 → (∀ j, j < m2 → cc2 j < K.nc ∧ K.row (K.lo (cc2 j)) = r ∧ x2 4 j = nI (cc2 j) ∧ x2 5 j = nI (K.lo (cc2 j)) ∧ x2 6 j = nI (K.hi (cc2 j))) → (∀ a b, a < m2 → b < m2 → cc2 a = cc2 b → a = b) → m ≤ m2 → (∀ a, a < m → cc2 a = cc a) → post (nI j) x2) : ∀ d j : Nat, j + d = m → (∀ a, a < j → cc a ≠ c) → PX3_indexOfCouple_2 v post (d + 1) x (nI c) (nI j) := by
  obtain ⟨l1, l2, l3, l4, l5⟩ := L
  have hn := W.np20
  have hcc := W.nc10
  intro d
  induction d with
  | zero =>
    intro j hj hs
    have ej : j = m := by omega
    subst ej
    unfold PX3_indexOfCouple_2
    rw [l2, n6I]
    refine pc_t (nle' (by omega) (by omega)) (pc_t (nI_lt (by omega) (by omega)) fun q3 e3 x4 e4 => ?_)
    subst e3
    rw [nI_1] at e4
    rw [ix_nI (show j < 2 ^ 31 by omega)]
    refine ⟨in_nI (by omega) (by omega), fun x6 e6 => c_lesserOf C W hc ⟨in_nI (by omega) (by omega), fun x10 e10 => c_greaterOf C W hc ⟨in_nI (by omega) (by omega), fun x14 e14 => ?_⟩⟩⟩
    refine k x14 (j + 1) (fun a => if a = j then c else cc a) j (fun q a b d e f => ?_) (by omega) (if_pos rfl) (by omega) ?_ ?_ (fun q hq => ?_) (fun a b ha hb e => ?_) (by omega) (fun a ha => if_neg (by omega))
    · rw [e14, mset_o _ _ _ d, e10, mset_o _ _ _ b, e6, mset_o _ _ _ a, e4, mset_o _ _ _ f]
    · rw [e14, mset_o _ _ _ (by decide), e10, mset_o _ _ _ (by decide), e6, mset_o _ _ _ (by decide), e4, mset_o _ _ _ (by decide)]
    · rw [e14, mset_o _ _ _ (by decide), e10, mset_o _ _ _ (by decide), e6, mset_o _ _ _ (by decide), e4, mset_a, upd_a]
    · have r4 : x14 4 = upd (x 4) j (nI c) := by rw [e14, mset_o _ _ _ (by decide), e10, mset_o _ _ _ (by decide), e6, mset_a, e4, mset_o _ _ _ (by decide)]
      have r5 : x14 5 = upd (x 5) j (nI (K.lo c)) := by rw [e14, mset_o _ _ _ (by decide), e10, mset_a, e6, mset_o _ _ _ (by decide), e4, mset_o _ _ _ (by decide)]
      have r6 : x14 6 = upd (x 6) j (nI (K.hi c)) := by rw [e14, mset_a, e10, mset_o _ _ _ (by decide), e6, mset_o _ _ _ (by decide), e4, mset_o _ _ _ (by decide)]
      rw [r4, r5, r6]
      by_cases e : q = j
      · rw [if_pos e, e, upd_a, upd_a, upd_a]; exact ⟨hc, hrow, rfl, rfl, rfl⟩
      · rw [if_neg e, upd_o _ _ e, upd_o _ _ e, upd_o _ _ e]; exact l3 q (by omega)
    · by_cases e1 : a = j
      · by_cases e2 : b = j
        · omega
        · rw [if_pos e1, if_neg e2] at e
          exact absurd e.symm (hs b (by omega))
      · by_cases e2 : b = j
        · rw [if_neg e1, if_pos e2] at e
          exact absurd e (hs a (by omega))
        · rw [if_neg e1, if_neg e2] at e
          exact l4 a b (by omega) (by omega) e
  | succ d ih =>
    intro j hj hs
    have lj := l3 j (by omega)
    unfold PX3_indexOfCouple_2
    rw [l2, ix_nI (show j < 2 ^ 31 by omega), lj.2.2.1, nI_1 j]
    refine pc_f (nle (by omega) (by omega)) ⟨in_nI (by omega) (by omega), ?_⟩
    by_cases e : cc j = c
    · exact pd_t (by rw [e]) (k x m cc j (S5.rf x) (by omega) e (by omega) rfl l2 l3 l4 (Nat.le_refl _) (fun _ _ => rfl))
    · refine pd_f (nne (by omega) (by omega) e) (ih (j + 1) (by omega) fun a ha => ?_)
      rcases Nat.lt_succ_iff_lt_or_eq.mp ha with g | rfl
      · exact hs a g
      · exact e
theorem c_lcs {v : Mem} {K : Kr} (C : CS v K) (W : WF K) {r : Nat} (hr : r < 4) {x0 : Mem} {post : Mem → Prop} (k : ∀ x m cc, S5 x0 x → LCo x K r m (K.szb r) cc → post x) : ∀ (d i : Nat) (x : Mem) (m : Nat) (cc : Nat → Nat), i + d = K.szb r → S5 x0 x → LCo x K r m i cc → PX3_listCouples_7 v post (d + 1) x (nI (r + 1)) (nI i) := by
  have h6 := szb6 W hr
  have hcc := W.nc10
  intro d
  induction d with
  | zero =>
    intro i x m cc hi f L
    unfold PX3_listCouples_7
    refine c_sizeB C hr (pc_t (nle' (by omega) (by omega)) (k x m cc f ?_))
    rw [show K.szb r = i by omega]; exact L
  | succ d ih =>
    intro i x m cc hi f L
    have hs := szb_lt (show i < K.szb r by omega)
    have hp := W.od_lt (show r + 1 < 4 by omega) hs.2
    have hrow := W.od_row (show r + 1 < 4 by omega) hs.2
    unfold PX3_listCouples_7
    rw [n6I]
    refine c_sizeB C hr (pc_f (nle (by omega) (by omega)) (pc_f (nle (by omega) (by omega)) (c_personAt C W (by omega) hs.2 (c_parentsOf C W hp ?_))))
    cases hu : K.par (K.od (r + 1) i) with
    | none =>
      refine pd_t rfl ?_
      unfold PX3_listCouples_56
      rw [ix_nI (show i < 2 ^ 31 by omega), nI_1]
      refine ⟨in_nI (by omega) (by omega), fun x15 e15 => ih (i + 1) x15 m cc (by omega) (fun j a b c d e => by rw [e15, mset_o _ _ _ d]; exact f j a b c d e) ?_⟩
      obtain ⟨l1, l2, l3, l4, l5⟩ := L
      refine ⟨by omega, by rw [e15, mset_o _ _ _ (by decide)]; exact l2, fun j hj => by rw [e15, mset_o _ _ _ (by decide), mset_o _ _ _ (by decide), mset_o _ _ _ (by decide)]; exact l3 j hj, l4, fun q hq => ?_⟩
      rw [e15, mset_a]
      rcases Nat.lt_succ_iff_lt_or_eq.mp hq with g | rfl
      · rw [upd_o _ _ (by omega)]; exact l5 q g
      · rw [upd_a]; exact Or.inl ⟨hu, rfl⟩
    | some c =>
      have hc := W.par_c hp hu
      have hr2 := W.par_row hp hu
      refine pd_f (nI_ne_m1 (show c < 2 ^ 31 by omega)) ⟨_, c_ioc C W (show i < 6 by omega) L hc (by omega) (fun x2 m2 cc2 j f2 hj ej hm2 e8 g11 g3 g4 hmm gcc => ?_) m 0 (by omega) (fun a h => absurd h (by omega))⟩
      unfold PX3_listCouples_56
      rw [ix_nI (show i < 2 ^ 31 by omega), nI_1]
      refine ⟨in_nI (by omega) (by omega), fun x15 e15 => ih (i + 1) x15 m2 cc2 (by omega) (fun j a b c d e => by rw [e15, mset_o _ _ _ d, f2 j a b c d e]; exact f j a b c d e) ?_⟩
      refine ⟨hm2, by rw [e15, mset_o _ _ _ (by decide)]; exact g11, fun j hj => by rw [e15, mset_o _ _ _ (by decide), mset_o _ _ _ (by decide), mset_o _ _ _ (by decide)]; exact g3 j hj, g4, fun q hq => ?_⟩
      rw [e15, mset_a]
      rcases Nat.lt_succ_iff_lt_or_eq.mp hq with g | rfl
      · rw [upd_o _ _ (by omega), e8]
        rcases L.2.2.2.2 q g with a | ⟨j2, a, b, c2⟩
        · exact Or.inl a
        · exact Or.inr ⟨j2, by omega, by rw [gcc j2 a]; exact b, c2⟩
      · rw [upd_a]; exact Or.inr ⟨j, hj, by rw [ej]; exact hu, rfl⟩
theorem c_listCouples {x v : Mem} {K : Kr} (C : CS v K) (W : WF K) {r : Nat} (hr : r < 4) {post : Mem → Prop} (k : ∀ x2 m cc, S5 x x2 → LCo x2 K r m (K.szb r) cc → post x2) : PX3_listCouples x v (nI (r + 1)) post := by
  intro x1 e1
  exact ⟨_, c_lcs C W hr (x0 := x) k (K.szb r) 0 x1 0 (fun _ => 0) (by omega) (fun j a b c d e => by rw [e1, mset_o _ _ _ e]) ⟨Nat.le_refl _, by rw [e1, mset_a, upd_a]; rfl, fun j h => absurd h (by omega), fun a b h => absurd h (by omega), fun q h => absurd h (by omega)⟩⟩
/-- of the children, left of which couple, right of which -/
def cI1 (K : Kr) (r : Nat) (cc : Nat → Nat) (i j a b : Nat) : Nat := if a < b ∧ K.par (K.od (r + 1) b) = some (cc i) ∧ K.par (K.od (r + 1) a) = some (cc j) then 1 else 0
def CI (K : Kr) (r : Nat) (cc : Nat → Nat) (i j : Nat) : Nat := sm (fun a => sm (fun b => cI1 K r cc i j a b) (K.szb r)) (K.szb r)
theorem c_nlf_z {r m i : Nat} {x0 : Mem} {x1 : Int32} (hm : m ≤ 6) (hi : i < m) (h11 : x0 11 0 = nI m) {post : Mem → Prop} {K2 : Mem → Int32 → Int32 → Prop} (k : ∀ x, (∀ q, q < 20 → x q = x0 q) → (∀ a b, a < i + 1 → b < m → x (20 + a) b = 0) → K2 x x1 (nI (i + 1))) : ∀ (d j : Nat) (x : Mem), j + d = m → (∀ q, q < 20 → x q = x0 q) → (∀ a b, a < i → b < m → x (20 + a) b = 0) → (∀ b, b < j → x (20 + i) b = 0) → PX3_noteLinesFrom_12 post K2 (d + 1) x x1 (nI i) (nI j) := by
  intro d
  induction d with
  | zero =>
    intro j x hj f h1 h2
    unfold PX3_noteLinesFrom_12
    rw [f 11 (by decide), h11, nI_1]
    refine pc_t (nle' (by omega) (by omega)) (k x f fun a b ha hb => ?_)
    rcases Nat.lt_succ_iff_lt_or_eq.mp ha with g | rfl
    · exact h1 a b g hb
    · exact h2 b (by omega)
  | succ d ih =>
    intro j x hj f h1 h2
    unfold PX3_noteLinesFrom_12
    rw [f 11 (by decide), h11, ix_nI (show i < 2 ^ 31 by omega), ix_nI (show j < 2 ^ 31 by omega), nI_1 j]
    refine pc_f (nle (by omega) (by omega)) ⟨in_nI (by omega) (by omega), in_nI (by omega) (by omega), fun x20 e20 => ih (j + 1) x20 (by omega) (fun q hq => by rw [e20, mset_o _ _ _ (by omega)]; exact f q hq) (fun a b ha hb => by rw [e20, mset_o _ _ _ (by omega)]; exact h1 a b ha hb) fun b hb => ?_⟩
    rw [e20, mset_a]
    by_cases e : b = j
    · subst e; rw [upd_a]
    · rw [upd_o _ _ e]; exact h2 b (by omega)
theorem c_nlf_in {K : Kr} (W : WF K) {r m : Nat} (hr : r < 4) {cc : Nat → Nat} {x0 : Mem} (L : LCo x0 K r m (K.szb r) cc) {a : Nat} (ha : a < K.szb r) {post : Mem → Prop} {K43 : Mem → Int32 → Int32 → Prop} (k : ∀ x, (∀ q, q < 20 → x q = x0 q) → (∀ i j, i < m → j < m → x (20 + i) j = nI (sm (fun a => sm (fun b => cI1 K r cc i j a b) (K.szb r)) (a + 1))) → K43 x (nI (K.szb r)) (nI (a + 1))) : ∀ (d b : Nat) (x : Mem), b + d = K.szb r → a < b → (∀ q, q < 20 → x q = x0 q) → (∀ i j, i < m → j < m → x (20 + i) j = nI (sm (fun a => sm (fun b => cI1 K r cc i j a b) (K.szb r)) a + sm (fun b => cI1 K r cc i j a b) b)) → PX3_noteLinesFrom_52 post K43 (d + 1) x (nI (K.szb r)) (nI a) (nI b) := by
  have h6 := szb6 W hr
  obtain ⟨l1, l2, l3, l4, l5⟩ := L
  intro d
  induction d with
  | zero =>
    intro b x hb hab f h1
    unfold PX3_noteLinesFrom_52
    rw [nI_1]
    refine pc_t (nle' (by omega) (by omega)) (k x f fun i j hi hj => ?_)
    rw [h1 i j hi hj, sm_s, show b = K.szb r by omega]
  | succ d ih =>
    intro b x hb hab f h1
    have la := l5 a (by omega)
    have lb := l5 b (by omega)
    have same : (∀ i j, i < m → j < m → cI1 K r cc i j a b = 0) → PX3_noteLinesFrom_52 post K43 (d + 1) x (nI (K.szb r)) (nI a) (nI (b + 1)) := fun hz => by
      refine ih (b + 1) x (by omega) (by omega) f fun i j hi hj => ?_
      rw [h1 i j hi hj, sm_s (fun b => cI1 K r cc i j a b) b, hz i j hi hj]; rfl
    unfold PX3_noteLinesFrom_52
    rw [f 8 (by decide), ix_nI (show a < 2 ^ 31 by omega), ix_nI (show b < 2 ^ 31 by omega), nI_1 b]
    refine pc_f (nle (by omega) (by omega)) ⟨in_nI (by omega) (by omega), ?_⟩
    rcases la with ⟨p1, p2⟩ | ⟨ja, hja, p1, p2⟩
    · rw [p2]
      exact pc_t rfl (same fun i j _ _ => if_neg fun q => by rw [p1] at q; cases q.2.2)
    · rw [p2]
      refine pc_f (nI_ne_m1 (by omega)) ⟨in_nI (by omega) (by omega), ?_⟩
      rcases lb with ⟨s1, s2⟩ | ⟨jb, hjb, s1, s2⟩
      · rw [s2]
        exact pc_t rfl (same fun i j _ _ => if_neg fun q => by rw [s1] at q; cases q.2.1)
      · rw [s2, ix_nI (show ja < 2 ^ 31 by omega), ix_nI (show jb < 2 ^ 31 by omega)]
        refine pc_f (nI_ne_m1 (by omega)) ⟨in_nI (by omega) (by omega), in_nI (by omega) (by omega), in_nI (by omega) (by omega), in_nI (by omega) (by omega), in_nI (by omega) (by omega), fun x14 e14 => ?_⟩
        rw [h1 jb ja hjb hja, nI_1] at e14
        refine ih (b + 1) x14 (by omega) (by omega) (fun q hq => by rw [e14, mset_o _ _ _ (by omega)]; exact f q hq) fun i j hi hj => ?_
        rw [e14, sm_s (fun b => cI1 K r cc i j a b) b]
        have ev : cI1 K r cc i j a b = if i = jb ∧ j = ja then 1 else 0 := by
          unfold cI1
          by_cases q : i = jb ∧ j = ja
          · rw [if_pos q, if_pos ⟨hab, by rw [q.1]; exact s1, by rw [q.2]; exact p1⟩]
          · rw [if_neg q, if_neg fun y => q ⟨?_, ?_⟩]
            · have := y.2.1; rw [s1] at this; exact (l4 jb i hjb hi (Option.some.inj this)).symm
            · have := y.2.2; rw [p1] at this; exact (l4 ja j hja hj (Option.some.inj this)).symm
        rw [ev]
        by_cases e1 : i = jb
        · subst e1
          rw [mset_a]
          by_cases e2 : j = ja
          · subst e2; rw [upd_a, if_pos ⟨rfl, rfl⟩]; rfl
          · rw [upd_o _ _ e2, if_neg (fun q => e2 q.2)]; exact h1 i j hi hj
        · rw [mset_o _ _ _ (by omega), if_neg (fun q => e1 q.1)]; exact h1 i j hi hj
theorem c_nlf_mid {K : Kr} (W : WF K) {r m : Nat} (hr : r < 4) {cc : Nat → Nat} {x0 : Mem} (L : LCo x0 K r m (K.szb r) cc) {post : Mem → Prop} (k : ∀ x, (∀ q, q < 20 → x q = x0 q) → (∀ i j, i < m → j < m → x (20 + i) j = nI (CI K r cc i j)) → post x) : ∀ (d a : Nat) (x : Mem), a + d = K.szb r → (∀ q, q < 20 → x q = x0 q) → (∀ i j, i < m → j < m → x (20 + i) j = nI (sm (fun a => sm (fun b => cI1 K r cc i j a b) (K.szb r)) a)) → PX3_noteLinesFrom_43 post (d + 1) x (nI (K.szb r)) (nI a) := by
  have h6 := szb6 W hr
  intro d
  induction d with
  | zero =>
    intro a x ha f h1
    unfold PX3_noteLinesFrom_43
    refine pc_t (nle' (by omega) (by omega)) (k x f fun i j hi hj => ?_)
    rw [h1 i j hi hj, show a = K.szb r by omega]; rfl
  | succ d ih =>
    intro a x ha f h1
    unfold PX3_noteLinesFrom_43
    refine pc_f (nle (by omega) (by omega)) fun q3 e3 => ?_
    rw [e3, nI_1]
    refine ⟨_, c_nlf_in W hr L (show a < K.szb r by omega) (fun x2 f2 g2 => ih (a + 1) x2 (by omega) f2 g2) (K.szb r - (a + 1)) (a + 1) x (by omega) (by omega) f fun i j hi hj => ?_⟩
    rw [h1 i j hi hj, sm_none (f := fun b => cI1 K r cc i j a b) (n := a + 1) (fun b hb => if_neg fun q => by omega)]; rfl
theorem c_nlf_out {K : Kr} (W : WF K) {r m : Nat} (hr : r < 4) {cc : Nat → Nat} {x0 : Mem} (L : LCo x0 K r m (K.szb r) cc) {post : Mem → Prop} (k : ∀ x, (∀ q, q < 20 → x q = x0 q) → (∀ i j, i < m → j < m → x (20 + i) j = nI (CI K r cc i j)) → post x) : ∀ (d i : Nat) (x : Mem), i + d = m → (∀ q, q < 20 → x q = x0 q) → (∀ a b, a < i → b < m → x (20 + a) b = 0) → PX3_noteLinesFrom_2 post (d + 1) x (nI (K.szb r)) (nI i) := by
  have h6 := szb6 W hr
  have hm := L.1
  have h11 := L.2.1
  intro d
  induction d with
  | zero =>
    intro i x hi f h1
    unfold PX3_noteLinesFrom_2
    rw [f 11 (by decide), h11]
    exact pc_t (nle' (by omega) (by omega)) ⟨_, c_nlf_mid W hr L k (K.szb r) 0 x (by omega) f (fun a b ha hb => by rw [h1 a b (by omega) hb]; rfl)⟩
  | succ d ih =>
    intro i x hi f h1
    unfold PX3_noteLinesFrom_2
    rw [f 11 (by decide), h11]
    exact pc_f (nle (by omega) (by omega)) ⟨_, c_nlf_z (r := r) (x0 := x0) (show m ≤ 6 by omega) (show i < m by omega) h11 (fun x2 f2 g2 => ih (i + 1) x2 (by omega) f2 g2) m 0 x (by omega) f h1 (fun b h => absurd h (by omega))⟩
/-- the search is prepared -/
def PR (x : Mem) (K : Kr) (r m : Nat) (cc : Nat → Nat) : Prop := x 10 0 = nI (K.sz r) ∧ (∀ p, p < K.np → K.row p = r → BS (x 3 p) (XL3 K r p)) ∧ (m ≤ 6 ∧ x 11 0 = nI m) ∧ (∀ j, j < m → cc j < K.nc ∧ K.row (K.lo (cc j)) = r ∧ x 5 j = nI (K.lo (cc j)) ∧ x 6 j = nI (K.hi (cc j))) ∧ (∀ a b, a < m → b < m → cc a = cc b → a = b) ∧ (∀ q c, q < K.szb r → K.par (K.od (r + 1) q) = some c → ∃ j, j < m ∧ cc j = c) ∧ ∀ i j, i < m → j < m → x (20 + i) j = nI (CI K r cc i j)
theorem c_prepare {x v : Mem} {K : Kr} (C : CS v K) (W : WF K) {r : Nat} (hr : r < 4) {post : Mem → Prop} (k : ∀ x2 m cc, PR x2 K r m cc → (∀ q, q < K.sz r → x2 0 q = nI (K.srt r q)) → post x2) : PX3_prepare x v (nI r) post := by
  unfold PX3_prepare
  rw [nI_1]
  refine c_listPeople C W hr fun x2 f2 z10 z0 => ⟨_, c_nlt_out C W hr (x0 := x2) z10 z0 (fun x4 f4 g3 => c_listCouples C W hr fun x6 m cc f6 L => c_sizeB C hr ⟨_, c_nlf_out W hr L (fun x7 f7 g7 => k x7 m cc ⟨?_, fun p hp hq => ?_, ⟨?_, ?_⟩, fun j hj => ?_, L.2.2.2.1, fun q c hq e => ?_, g7⟩ fun q hq => ?_) m 0 x6 (by omega) (fun _ _ => rfl) (fun a b h => absurd h (by omega))⟩) (K.sz r) 0 x2 (by omega) (fun _ _ => rfl) (fun q h => absurd h (by omega))⟩
  · rw [f7 10 (by decide), f6 10 (by decide) (by decide) (by decide) (by decide) (by decide), f4 10 (by decide)]; exact z10
  · rw [f7 3 (by decide), f6 3 (by decide) (by decide) (by decide) (by decide) (by decide)]
    have := g3 (K.cnt r p) (by rw [← cnt_sz W hr]; exact cnt_lt hq hp)
    rw [srt_cnt hp hq] at this; exact this
  · have := L.1; have := szb6 W hr; omega
  · rw [f7 11 (by decide)]; exact L.2.1
  · rw [f7 5 (by decide), f7 6 (by decide)]
    have l := L.2.2.1 j hj
    exact ⟨l.1, l.2.1, l.2.2.2.1, l.2.2.2.2⟩
  · rcases L.2.2.2.2 q hq with a | ⟨j, a, b, _⟩
    · rw [a.1] at e; cases e
    · rw [e] at b; exact ⟨j, a, (Option.some.inj b).symm⟩
  · rw [f7 0 (by decide), f6 0 (by decide) (by decide) (by decide) (by decide) (by decide), f4 0 (by decide)]; exact z0 q hq
