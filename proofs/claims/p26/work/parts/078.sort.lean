def trp (i k : Nat) : Nat := if k = i then i + 1 else if k = i + 1 then i else k
theorem sm_trp (f : Nat → Nat) (i : Nat) : ∀ n : Nat, i + 1 < n → sm (fun k => f (trp i k)) n = sm f n
  | 0, h => absurd h (by omega)
  | n + 1, h => by
    rcases Nat.lt_or_ge (i + 1) n with h1 | h1
    · rw [sm_s, sm_s, sm_trp f i n h1]
      have : trp i n = n := by unfold trp; rw [if_neg (by omega), if_neg (by omega)]
      rw [this]
    · have e : n = i + 1 := by omega
      subst e
      rw [sm_s, sm_s, sm_s, sm_s, sm_congr (g := f) (fun k hk => by show f (trp i k) = f k; unfold trp; rw [if_neg (by omega), if_neg (by omega)])]
      have h2 : trp i i = i + 1 := if_pos rfl
      have h3 : trp i (i + 1) = i := by unfold trp; rw [if_neg (by omega), if_pos rfl]
      rw [h2, h3]; omega
theorem sm_cut {f : Nat → Nat} {a : Nat} : ∀ {n : Nat}, a ≤ n → (∀ i, a ≤ i → i < n → f i = 0) → sm f n = sm f a
  | 0, h, _ => by rw [show a = 0 by omega]
  | n + 1, h, hz => by
    rcases Nat.lt_or_ge n a with g | g
    · rw [show a = n + 1 by omega]
    · rw [sm_s, sm_cut (f := f) (a := a) (n := n) g (fun i h1 h2 => hz i h1 (by omega)), hz n g (by omega)]; rfl
/-- the lines in the arrays, in whatever order -/
def LPm (A B : Nat → Int32) (m : Nat) (K : Kr) (r : Nat) (mm pp : Nat → Nat) : Prop := (∀ j, j < m → A j = nI (mm j) ∧ B j = nI (pp j)) ∧ (∀ j, j < m → mm j < 11 ∧ pp j < 6) ∧ ∀ g : Nat → Nat → Nat, sm (fun j => g (pp j) (mm j)) m = sm (fun q => og g q (K.up (K.od r q))) (K.sz r)
/-- the inner loop: the line that is held stands, by mm and pp, at place t -/
theorem c_sort_in {K : Kr} {r m line : Nat} (hm : m ≤ 6) (hli : line < m) {post : Mem → Prop} {K2 : Mem → Int32 → Prop} {x pq : Nat} (k : ∀ (y : Mem) (mm pp : Nat → Nat), y 2 0 = nI m → LPm (y 0) (y 1) m K r mm pp → (∀ i j, i < j → j < line + 1 → mm i ≤ mm j) → K2 y (nI (line + 1))) : ∀ (t : Nat) (y : Mem) (mm pp : Nat → Nat), t ≤ line → y 2 0 = nI m → (∀ j, j < m → j ≠ t → y 0 j = nI (mm j) ∧ y 1 j = nI (pp j)) → mm t = x → pp t = pq → (∀ j, j < m → mm j < 11 ∧ pp j < 6) → (∀ g : Nat → Nat → Nat, sm (fun j => g (pp j) (mm j)) m = sm (fun q => og g q (K.up (K.od r q))) (K.sz r)) → (∀ i j, i < j → j ≤ line → j ≠ t → mm i ≤ mm j) → PX2_sortByMiddles_27 post K2 (t + 1) y (nI line) (nI x) (nI pq) (nI t) := by
  have fin : ∀ (t : Nat) (y : Mem) (mm pp : Nat → Nat), t ≤ line → y 2 0 = nI m → (∀ j, j < m → j ≠ t → y 0 j = nI (mm j) ∧ y 1 j = nI (pp j)) → mm t = x → pp t = pq → (∀ j, j < m → mm j < 11 ∧ pp j < 6) → (∀ g : Nat → Nat → Nat, sm (fun j => g (pp j) (mm j)) m = sm (fun q => og g q (K.up (K.od r q))) (K.sz r)) → (∀ i j, i < j → j ≤ line → mm i ≤ mm j) → PX2_sortByMiddles_83 post K2 y (nI line) (nI x) (nI pq) (nI t) := by
    intro t y mm pp ht h2 hA hx hp h11 hg hs
    unfold PX2_sortByMiddles_83
    rw [ix_nI (by omega)]
    refine ⟨in_nI (by omega) (by omega), fun y8 e8 => ⟨in_nI (by omega) (by omega), fun y10 e10 => ?_⟩⟩
    rw [nI_1]
    refine k y10 mm pp ?_ ⟨fun j hj => ?_, h11, hg⟩ (fun i j h1 h3 => hs i j h1 (by omega))
    · rw [e10, mset_o _ _ _ (by decide), e8, mset_o _ _ _ (by decide)]; exact h2
    · rw [e10, mset_o _ _ _ (by decide), mset_a, e8, mset_a, mset_o _ _ _ (by decide)]
      by_cases e : j = t
      · rw [e, upd_a, upd_a, hx, hp]; exact ⟨rfl, rfl⟩
      · rw [upd_o _ _ e, upd_o _ _ e]; exact hA j hj e
  intro t
  induction t with
  | zero =>
    intro y mm pp ht h2 hA hx hp h11 hg hs
    unfold PX2_sortByMiddles_27
    exact pc_t (by decide) (fin 0 y mm pp ht h2 hA hx hp h11 hg (fun i j h1 h3 => hs i j h1 h3 (by omega)))
  | succ t ih =>
    intro y mm pp ht h2 hA hx hp h11 hg hs
    have b1 := h11 t (by omega)
    have b2 := h11 (t + 1) (by omega)
    have ha := hA t (by omega) (by omega)
    unfold PX2_sortByMiddles_27
    rw [nI_pred, ix_nI (by omega), ix_nI (by omega), ha.1]
    refine pc_f (nI_nle (by omega) (by omega)) ⟨in_nI (by omega) (by omega), ?_⟩
    by_cases h : x < mm t
    · refine pc_f (nle h (by omega)) ⟨in_nI (by omega) (by omega), in_nI (by omega) (by omega), fun y15 e15 => ⟨in_nI (by omega) (by omega), in_nI (by omega) (by omega), fun y18 e18 => ?_⟩⟩
      rw [pk_m1]
      have hsw : ∀ f : Nat → Nat, (fun j => f (trp t j)) t = f (t + 1) := fun f => by show f (trp t t) = _; rw [show trp t t = t + 1 from if_pos rfl]
      refine ih y18 (fun j => mm (trp t j)) (fun j => pp (trp t j)) (by omega) ?_ (fun j hj hne => ?_) ((hsw mm).trans hx) ((hsw pp).trans hp) (fun j hj => ?_) (fun g => ?_) (fun i j hij hj hne => ?_)
      · rw [e18, mset_o _ _ _ (by decide), e15, mset_o _ _ _ (by decide)]; exact h2
      · rw [e18, mset_o _ _ _ (by decide), mset_a, e15, mset_a, mset_o _ _ _ (by decide)]
        by_cases e : j = t + 1
        · rw [e, upd_a, upd_a, ha.2]
          show nI (mm t) = nI (mm (trp t (t + 1))) ∧ nI (pp t) = nI (pp (trp t (t + 1)))
          rw [show trp t (t + 1) = t by unfold trp; rw [if_neg (by omega), if_pos rfl]]
          exact ⟨rfl, rfl⟩
        · rw [upd_o _ _ e, upd_o _ _ e]
          show _ = nI (mm (trp t j)) ∧ _ = nI (pp (trp t j))
          rw [show trp t j = j by unfold trp; rw [if_neg hne, if_neg e]]
          exact hA j hj e
      · show mm (trp t j) < 11 ∧ pp (trp t j) < 6
        unfold trp
        split
        · exact b2
        · split
          · exact b1
          · exact h11 j hj
      · rw [← hg g]
        exact sm_trp (fun j => g (pp j) (mm j)) t m (by omega)
      · show mm (trp t i) ≤ mm (trp t j)
        unfold trp
        rw [if_neg hne]
        by_cases e : j = t + 1
        · rw [if_pos e]
          by_cases e2 : i = t
          · rw [if_pos e2, hx]; omega
          · rw [if_neg e2, if_neg (by omega)]
            exact hs i t (by omega) (by omega) (by omega)
        · rw [if_neg e]
          by_cases e2 : i = t
          · rw [if_pos e2]; exact hs (t + 1) j (by omega) hj e
          · rw [if_neg e2]
            by_cases e3 : i = t + 1
            · rw [if_pos e3]; exact hs t j (by omega) hj e
            · rw [if_neg e3]; exact hs i j hij hj e
    · refine pc_t (nI_leq (by omega) (by omega) h) (fin (t + 1) y mm pp ht h2 hA hx hp h11 hg fun i j h1 h3 => ?_)
      by_cases e : j = t + 1
      · subst e
        rcases Nat.lt_succ_iff_lt_or_eq.mp h1 with h4 | rfl
        · have := hs i t h4 (by omega) (by omega); omega
        · omega
      · exact hs i j h1 h3 e
theorem c_sort_out {K : Kr} {r m : Nat} (hm : m ≤ 6) {post : Mem → Prop} (k : ∀ (y : Mem) (mm pp : Nat → Nat), y 2 0 = nI m → LPm (y 0) (y 1) m K r mm pp → (∀ i j, i < j → j < m → mm i ≤ mm j) → post y) : ∀ (d line : Nat) (y : Mem) (mm pp : Nat → Nat), line + d = m ∨ (m = 0 ∧ d = 0 ∧ line = 1) → y 2 0 = nI m → LPm (y 0) (y 1) m K r mm pp → (∀ i j, i < j → j < line → j < m → mm i ≤ mm j) → PX2_sortByMiddles_2 post (d + 1) y (nI line) := by
  intro d
  induction d with
  | zero =>
    intro line y mm pp hd h2 hl hs
    unfold PX2_sortByMiddles_2
    rw [h2]
    exact pc_t (nle' (by omega) (by omega)) (k y mm pp h2 hl fun i j h1 h3 => hs i j h1 (by omega) h3)
  | succ d ih =>
    intro line y mm pp hd h2 hl hs
    unfold PX2_sortByMiddles_2
    rw [h2, ix_nI (by omega)]
    refine pc_f (nle (by omega) (by omega)) ⟨in_nI (by omega) (by omega), fun q3 e3 => ⟨in_nI (by omega) (by omega), fun q5 e5 => ?_⟩⟩
    rw [e3, e5, (hl.1 line (by omega)).1, (hl.1 line (by omega)).2]
    exact ⟨_, c_sort_in hm (show line < m by omega) (fun y2 mm2 pp2 g2 gl gs => ih (line + 1) y2 mm2 pp2 (by omega) g2 gl (fun i j h1 h3 _ => gs i j h1 h3)) line y mm pp (Nat.le_refl _) h2 (fun j hj _ => hl.1 j hj) rfl rfl hl.2.1 hl.2.2 (fun i j h1 h3 h4 => hs i j h1 (by omega) (by omega))⟩
theorem c_sortByMiddles {K : Kr} {r m : Nat} (hm : m ≤ 6) {y : Mem} {mm pp : Nat → Nat} (h2 : y 2 0 = nI m) (hl : LPm (y 0) (y 1) m K r mm pp) {post : Mem → Prop} (k : ∀ (y : Mem) (mm pp : Nat → Nat), y 2 0 = nI m → LPm (y 0) (y 1) m K r mm pp → (∀ i j, i < j → j < m → mm i ≤ mm j) → post y) : PX2_sortByMiddles y post := by
  rcases Nat.eq_zero_or_pos m with h0 | h0
  · exact ⟨_, c_sort_out hm k 0 1 y mm pp (Or.inr ⟨h0, rfl, rfl⟩) h2 hl (fun i j _ h3 h4 => absurd h4 (by omega))⟩
  · exact ⟨_, c_sort_out hm k (m - 1) 1 y mm pp (Or.inl (by omega)) h2 hl (fun i j h1 h3 h4 => absurd h3 (by omega))⟩
theorem c_ob_in {y : Mem} {m line c0 : Nat} {mm pp : Nat → Nat} (hm : m ≤ 6) (hA : ∀ j, j < m → y 0 j = nI (mm j) ∧ y 1 j = nI (pp j)) (h11 : ∀ j, j < m → mm j < 11 ∧ pp j < 6) (hl : line < m) {post : Int32 → Mem → Prop} {K8 : Mem → Int32 → Int32 → Prop} (k : K8 y (nI (c0 + sm (fun a => xx (pp a) (mm a) (pp line) (mm line)) line)) (nI (line + 1))) : ∀ d i : Nat, i + d = line → PX2_crossedOneByOne_18 post K8 (d + 1) y (nI (c0 + sm (fun a => xx (pp a) (mm a) (pp line) (mm line)) i)) (nI line) (nI i) := by
  intro d
  induction d with
  | zero =>
    intro i hi
    unfold PX2_crossedOneByOne_18
    rw [nI_1]
    refine pc_t (nle' (by omega) (by omega)) ?_
    rw [show i = line by omega]; exact k
  | succ d ih =>
    intro i hi
    have e := ih (i + 1) (by omega)
    rw [sm_s] at e
    have b1 := h11 i (by omega)
    have b2 := h11 line hl
    unfold PX2_crossedOneByOne_18
    rw [ix_nI (by omega), ix_nI (by omega), (hA i (by omega)).1, (hA i (by omega)).2, (hA line hl).1, (hA line hl).2]
    refine pc_f (nle (by omega) (by omega)) ⟨in_nI (by omega) (by omega), in_nI (by omega) (by omega), ?_⟩
    rw [nI_1, nI_1]
    by_cases h : mm i < mm line
    · refine pc_f (nle h (by omega)) ⟨in_nI (by omega) (by omega), in_nI (by omega) (by omega), ?_⟩
      by_cases g : pp line < pp i
      · rw [show xx (pp i) (mm i) (pp line) (mm line) = 1 from if_pos ⟨h, g⟩] at e
        exact pc_f (nle g (by omega)) e
      · rw [show xx (pp i) (mm i) (pp line) (mm line) = 0 from if_neg (fun q => g q.2)] at e
        exact pc_t (nI_leq (by omega) (by omega) g) e
    · rw [show xx (pp i) (mm i) (pp line) (mm line) = 0 from if_neg (fun q => h q.1)] at e
      exact pc_t (nI_leq (by omega) (by omega) h) e
theorem c_ob_out {y : Mem} {m : Nat} {mm pp : Nat → Nat} (h2 : y 2 0 = nI m) (hm : m ≤ 6) (hA : ∀ j, j < m → y 0 j = nI (mm j) ∧ y 1 j = nI (pp j)) (h11 : ∀ j, j < m → mm j < 11 ∧ pp j < 6) {post : Int32 → Mem → Prop} (k : post (nI (sm (fun b => sm (fun a => xx (pp a) (mm a) (pp b) (mm b)) b) m)) y) : ∀ d i : Nat, i + d = m → PX2_crossedOneByOne_8 post (d + 1) y (nI (sm (fun b => sm (fun a => xx (pp a) (mm a) (pp b) (mm b)) b) i)) (nI i) := by
  intro d
  induction d with
  | zero =>
    intro i hi
    unfold PX2_crossedOneByOne_8
    rw [h2]
    refine pc_t (nle' (by omega) (by omega)) ?_
    rw [show i = m by omega]; exact k
  | succ d ih =>
    intro i hi
    have e := ih (i + 1) (by omega)
    rw [sm_s] at e
    unfold PX2_crossedOneByOne_8
    rw [h2]
    exact pc_f (nle (by omega) (by omega)) ⟨_, c_ob_in (c0 := sm (fun b => sm (fun a => xx (pp a) (mm a) (pp b) (mm b)) b) i) hm hA h11 (line := i) (by omega) e i 0 (by omega)⟩
theorem c_crossedOneByOne {y : Mem} {m : Nat} {K : Kr} {r : Nat} (W : WF K) (hr : r < 4) (h2 : y 2 0 = nI m) (hl : LN (y 0) (y 1) m K r (K.sz r)) {post : Int32 → Mem → Prop} (k : ∀ y, post (nI (K.X r)) y) : PX2_crossedOneByOne y post := by
  have h6 := W.sz6 hr
  obtain ⟨mm, pp, l1, l2, l3, l4, l5⟩ := hl
  refine c_sortByMiddles (mm := mm) (pp := pp) (show m ≤ 6 by omega) h2 ⟨l1, fun j hj => by have := l2 j hj; omega, l4⟩ fun y2 mm pp h2 hl hs => ?_
  refine ⟨_, c_ob_out h2 (by omega) hl.1 hl.2.1 ?_ m 0 (by omega)⟩
  have e : sm (fun b => sm (fun a => xx (pp a) (mm a) (pp b) (mm b)) b) m = K.X r := by
    rw [← XX_X hl.2.2]
    unfold XX
    rw [sm_swap (fun a b => xx (pp a) (mm a) (pp b) (mm b))]
    refine sm_congr fun b hb => ?_
    refine (sm_cut (by omega) fun a h1 h3 => if_neg fun q => ?_).symm
    rcases Nat.eq_or_lt_of_le h1 with e | e
    · rw [e] at q; omega
    · have := hs b a e h3; omega
  rw [e]; exact k y2
