/-! the law's least, best exchange and nearness -/
def iS (K : Kr) (k : Nat) : Nat × Int32 := bsR K (k / 6) (min (k % 6) (K.sz (k / 6) - 1)) (bsA K (k / 6))
theorem iS_y {K : Kr} {r q : Nat} (h6 : K.sz r ≤ 6) (hq : q + 1 < K.sz r) : iS K (6 * r + q + 1) = bst K r q (iS K (6 * r + q)) := by
  unfold iS
  rw [show (6 * r + q + 1) / 6 = r by omega, show (6 * r + q + 1) % 6 = q + 1 by omega, show (6 * r + q) / 6 = r by omega, show (6 * r + q) % 6 = q by omega, Nat.min_eq_left (by omega), Nat.min_eq_left (by omega)]
  rfl
theorem iS_n {K : Kr} {r q : Nat} (h6 : K.sz r ≤ 6) (hq5 : q < 6) (hq : ¬ q + 1 < K.sz r) : iS K (6 * r + q + 1) = iS K (6 * r + q) := by
  unfold iS
  rw [show (6 * r + q) / 6 = r by omega, show (6 * r + q) % 6 = q by omega, Nat.min_eq_right (show K.sz r - 1 ≤ q by omega)]
  rcases Nat.lt_or_ge q 5 with g | g
  · rw [show (6 * r + q + 1) / 6 = r by omega, show (6 * r + q + 1) % 6 = q + 1 by omega, Nat.min_eq_right (by omega)]
  · rw [show (6 * r + q + 1) / 6 = r + 1 by omega, show (6 * r + q + 1) % 6 = 0 by omega, Nat.zero_min]
    rfl
theorem iS_le {K : Kr} (W : WF K) {k : Nat} (hk : k < 24) : (iS K k).1 ≤ 144 := bsR_le W (show k / 6 < 4 by omega) (bsA_le W (k / 6) (by omega)) _ (Nat.min_le_right _ _)
theorem bsR_z (K : Kr) (r : Nat) (s : Nat × Int32) : bsR K r 0 s = s := rfl
theorem iS_z (K : Kr) (r : Nat) : iS K (6 * r) = bsA K r := by
  unfold iS
  rw [show 6 * r / 6 = r by omega, show 6 * r % 6 = 0 by omega, Nat.zero_min, bsR_z]
theorem iS_24 (K : Kr) : iS K 24 = bsA K 4 := iS_z K 4
theorem iS_0 (K : Kr) : iS K 0 = (K.XA, -1) := by
  unfold iS
  rw [show 0 / 6 = 0 from rfl, show 0 % 6 = 0 from rfl, Nat.zero_min]; rfl
theorem cm_comm (K : Kr) (a b : Nat) : K.cm b a = K.cm a b := by
  unfold Kr.cm
  exact b_ext fun i _ => by rw [b_and, b_and, Bool.and_comm]
theorem nr_comm (K : Kr) (a b : Nat) : ∀ n, K.nr b a n = K.nr a b n
  | 0 => rfl
  | n + 1 => by
    show (if bt (K.cm b a) n then _ else _) = (if bt (K.cm a b) n then _ else _)
    rw [cm_comm, nr_comm K a b n, Int32.add_comm (nI (K.row b)) (nI (K.row a))]
theorem cm_bt {K : Kr} {a b i : Nat} (ha : a < 32) (hb : b < 32) (hi : i < 32) : bt (K.cm a b) i = true ↔ (An K a i ∨ i = a) ∧ (An K b i ∨ i = b) := by
  unfold Kr.cm
  rw [b_and, b_or, b_or, Bool.and_eq_true, Bool.or_eq_true, Bool.or_eq_true, b_one ha hi, b_one hb hi, decide_eq_true_eq, decide_eq_true_eq, anc_bs K a i hi, anc_bs K b i hi]
theorem up_row {K : Kr} (W : WF K) {a i : Nat} (ha : a < K.np) (h : An K a i ∨ i = a) : K.row i ≤ K.row a := by
  rcases h with h | h
  · obtain ⟨n, hn, h⟩ := An_ex h
    have f := Gn_facts W ha n i h
    omega
  · rw [h]; exact Nat.le_refl _
theorem cm_row {K : Kr} (W : WF K) {a b i : Nat} (ha : a < K.np) (hb : b < K.np) (hi : i < 32) (h : bt (K.cm a b) i = true) : K.row i ≤ K.row a ∧ K.row i ≤ K.row b := by
  have hn := W.np20
  obtain ⟨h1, h2⟩ := (cm_bt (by omega) (by omega) hi).mp h
  exact ⟨up_row W ha h1, up_row W hb h2⟩
theorem nr_v {K : Kr} {a b i : Nat} (h : K.row i ≤ K.row a ∧ K.row i ≤ K.row b) : nI (K.row a) + nI (K.row b) - 2 * nI (K.row i) = nI (K.row a + K.row b - 2 * K.row i) := by
  rw [nI_add, e2, pk_sub (by omega)]
theorem nr_char {K : Kr} (W : WF K) {a b : Nat} (ha : a < K.np) (hb : b < K.np) : ∀ n, n ≤ K.np → ((∀ i, i < n → bt (K.cm a b) i = false) ∧ K.nr a b n = -1) ∨ ∃ i, i < n ∧ bt (K.cm a b) i = true ∧ K.nr a b n = nI (K.row a + K.row b - 2 * K.row i) ∧ ∀ j, j < n → bt (K.cm a b) j = true → K.row j ≤ K.row i
  | 0, _ => Or.inl ⟨fun i h => absurd h (Nat.not_lt_zero _), rfl⟩
  | n + 1, h => by
    have hn := W.np20
    have ra := W.row4 ha
    have rb := W.row4 hb
    have hd : K.nr a b (n + 1) = if bt (K.cm a b) n then (if K.nr a b n = -1 then nI (K.row a) + nI (K.row b) - 2 * nI (K.row n) else if K.nr a b n ≤ nI (K.row a) + nI (K.row b) - 2 * nI (K.row n) then K.nr a b n else nI (K.row a) + nI (K.row b) - 2 * nI (K.row n)) else K.nr a b n := rfl
    cases e : bt (K.cm a b) n with
    | false =>
      rw [e] at hd
      have hd' : K.nr a b (n + 1) = K.nr a b n := hd
      rw [hd']
      rcases nr_char W ha hb n (by omega) with ⟨h1, h2⟩ | ⟨i, h1, h2, h3, h4⟩
      · refine Or.inl ⟨fun i hi => ?_, h2⟩
        rcases Nat.lt_succ_iff_lt_or_eq.mp hi with y | y
        · exact h1 i y
        · rw [y]; exact e
      · refine Or.inr ⟨i, by omega, h2, h3, fun j hj hb => ?_⟩
        rcases Nat.lt_succ_iff_lt_or_eq.mp hj with y | y
        · exact h4 j y hb
        · rw [y, e] at hb; cases hb
    | true =>
      have hr := cm_row W ha hb (show n < 32 by omega) e
      rw [e, nr_v hr] at hd
      rcases nr_char W ha hb n (by omega) with ⟨h1, h2⟩ | ⟨i, h1, h2, h3, h4⟩
      · rw [h2] at hd
        refine Or.inr ⟨n, by omega, e, hd, fun j hj hb => ?_⟩
        rcases Nat.lt_succ_iff_lt_or_eq.mp hj with y | y
        · rw [h1 j y] at hb; cases hb
        · rw [y]; exact Nat.le_refl _
      · have hri := cm_row W ha hb (show i < 32 by omega) h2
        rw [h3] at hd
        have hd' : K.nr a b (n + 1) = if nI (K.row a + K.row b - 2 * K.row i) ≤ nI (K.row a + K.row b - 2 * K.row n) then nI (K.row a + K.row b - 2 * K.row i) else nI (K.row a + K.row b - 2 * K.row n) := by
          have z : ¬ nI (K.row a + K.row b - 2 * K.row i) = -1 := nI_ne_m1 (by omega)
          rw [hd]
          show (if nI (K.row a + K.row b - 2 * K.row i) = -1 then _ else _) = _
          rw [if_neg z]
        by_cases c : K.row a + K.row b - 2 * K.row i ≤ K.row a + K.row b - 2 * K.row n
        · rw [if_pos (nI_le c (by omega))] at hd'
          refine Or.inr ⟨i, by omega, h2, hd', fun j hj hb => ?_⟩
          rcases Nat.lt_succ_iff_lt_or_eq.mp hj with y | y
          · exact h4 j y hb
          · rw [y]; omega
        · rw [if_neg (nle (by omega) (by omega))] at hd'
          refine Or.inr ⟨n, by omega, e, hd', fun j hj hb => ?_⟩
          rcases Nat.lt_succ_iff_lt_or_eq.mp hj with y | y
          · have := h4 j y hb; omega
          · rw [y]; exact Nat.le_refl _
theorem l_nr_in {kc ap ac aq an : Mem} {K : Kr} (P : rP ap K) (N : rN an K) (W : WF K) {a b l : Nat} (ha : a < K.np) (hb : b < K.np) (hl : l < 4) {post : Int32 → Mem → Mem → Mem → Prop} {K252 : Mem → Mem → Mem → Mem → Int32 → Int32 → Int32 → Prop} {K298 : Mem → Mem → Mem → Mem → Int32 → Int32 → Int32 → Int32 → Int32 → Int32 → Prop} {v y x ar : Mem} {x11 : Int32} (k0 : (∀ i, i < K.np → bt (K.cm a b) i = true → K.row i ≠ l) → K298 v y x ar x11 (nI a) (nI b) (K.cm a b) (-1) (nI l - 1)) (k1 : ∀ i, i < K.np → bt (K.cm a b) i = true → K.row i = l → K298 v y x ar x11 (nI a) (nI b) (K.cm a b) (nI (K.row a + K.row b - 2 * l)) (nI l - 1)) : ∀ (d j : Nat) (near : Int32), j + d = K.np → ((∀ i, i < j → bt (K.cm a b) i = true → K.row i ≠ l) ∧ near = -1 ∨ ∃ i, i < j ∧ bt (K.cm a b) i = true ∧ K.row i = l ∧ near = nI (K.row a + K.row b - 2 * l)) → PL_isLeast_311 kc ap ac aq an post K252 K298 (d + 1) v y x ar x11 (nI a) (nI b) (K.cm a b) near (nI l) (nI j) := by
  have hn := W.np20
  have ra := W.row4 ha
  have rb := W.row4 hb
  intro d
  induction d with
  | zero =>
    intro j near hj h
    unfold PL_isLeast_311
    rw [ix0, N.1.1, m_neg]
    refine ⟨in7 (n := 0) (by decide), pc_t (nle' (by omega) (by omega)) ?_⟩
    rcases h with ⟨h, e⟩ | ⟨i, h1, h2, h3, e⟩
    · rw [e]; exact k0 fun i hi => h i (by omega)
    · rw [e]; exact k1 i (by omega) h2 h3
  | succ d ih =>
    intro j near hj h
    have hj2 : j < K.np := by omega
    have rj := W.row4 hj2
    have stay : ¬ (bt (K.cm a b) j = true ∧ K.row j = l) → PL_isLeast_311 kc ap ac aq an post K252 K298 (d + 1) v y x ar x11 (nI a) (nI b) (K.cm a b) near (nI l) (nI (j + 1)) := fun g => by
      refine ih (j + 1) near (by omega) ?_
      rcases h with ⟨h, e⟩ | ⟨i, h1, h2⟩
      · refine Or.inl ⟨fun i hi hb hr => ?_, e⟩
        rcases Nat.lt_succ_iff_lt_or_eq.mp hi with y | y
        · exact h i y hb hr
        · subst y; exact g ⟨hb, hr⟩
      · exact Or.inr ⟨i, by omega, h2⟩
    unfold PL_isLeast_311
    rw [ix0, N.1.1, e2 j, e2 a, e2 b, ix_nI (show 2 * j < 2 ^ 31 by omega), ix_nI (show 2 * a < 2 ^ 31 by omega), ix_nI (show 2 * b < 2 ^ 31 by omega), (P j hj2).1, (P a ha).1, (P b hb).1, b_shr1 _ (show j < 32 by omega), nI_1]
    refine ⟨in7 (n := 0) (by decide), pc_f (nle hj2 (by omega)) ⟨in40 (by omega), ?_⟩⟩
    by_cases g1 : K.row j = l
    · rw [g1]
      refine pd_t rfl ?_
      cases e : bt (K.cm a b) j with
      | false => exact pd_f (by decide) (stay fun y => by rw [y.1] at e; cases e)
      | true =>
        refine pd_t rfl ⟨in40 (by omega), in40 (by omega), fun q hq => ?_⟩
        have hr := cm_row W ha hb (show j < 32 by omega) e
        rw [nI_add, e2, pk_sub (by omega)] at hq
        exact ih (j + 1) q (by omega) (Or.inr ⟨j, by omega, e, g1, hq⟩)
    · exact pd_f (nne (by omega) (by omega) g1) (stay fun y => g1 y.2)
theorem l_nr_379 {kc v : Mem} {ap ac aq an : Mem} {K : Kr} (S : CS v K) (W : WF K) {a b : Nat} (ha : a < K.np) (hb : b < K.np) {post : Int32 → Mem → Mem → Mem → Prop} {K252 : Mem → Mem → Mem → Mem → Int32 → Int32 → Int32 → Prop} {y x ar : Mem} (kk : K252 v y x ar 1 (nI a) (nI (b + 1))) : PL_isLeast_379 kc ap ac aq an post K252 v y x ar 1 (nI a) (nI b) (K.nr a b K.np) := by
  unfold PL_isLeast_379
  rw [nI_1]
  refine pc_f i10 (n_near S W ha hb (pd_t rfl (n_near S W hb ha (pd_t (nr_comm K a b _) kk))))
theorem l_nr {kc v : Mem} {ap ac aq an : Mem} {K : Kr} (S : CS v K) (P : rP ap K) (N : rN an K) (W : WF K) {a b : Nat} (ha : a < K.np) (hb : b < K.np) {post : Int32 → Mem → Mem → Mem → Prop} {K252 : Mem → Mem → Mem → Mem → Int32 → Int32 → Int32 → Prop} {y x ar : Mem} (kk : K252 v y x ar 1 (nI a) (nI (b + 1))) : ∀ l : Nat, l ≤ 4 → (∀ i, i < K.np → bt (K.cm a b) i = true → K.row i < l) → PL_isLeast_298 kc ap ac aq an post K252 (l + 2) v y x ar 1 (nI a) (nI b) (K.cm a b) (-1) (nI l - 1) := by
  have hn := W.np20
  have ra := W.row4 ha
  have rb := W.row4 hb
  have fin := l_nr_379 (kc := kc) (ap := ap) (ac := ac) (aq := aq) (an := an) S W ha hb (post := post) kk
  have hc := nr_char W ha hb K.np (Nat.le_refl _)
  intro l
  induction l with
  | zero =>
    intro _ h
    unfold PL_isLeast_298
    refine pc_t i_m1_lt0 ?_
    rcases hc with ⟨h1, h2⟩ | ⟨i, h1, h2, h3, h4⟩
    · rw [h2] at fin; exact fin
    · exact absurd (h i h1 h2) (Nat.not_lt_zero _)
  | succ l ih =>
    intro hl h
    rw [nI_pred]
    unfold PL_isLeast_298
    refine pc_f (nI_lt0 (by omega)) (pc_f (by decide) ⟨K.np + 1, ?_⟩)
    refine l_nr_in P N W ha hb (show l < 4 by omega) (fun g => ih (by omega) fun i hi hb => ?_) (fun i hi hb2 hr => ?_) K.np 0 (-1) (by omega) (Or.inl ⟨fun i hi => absurd hi (Nat.not_lt_zero _), rfl⟩)
    · have := h i hi hb
      have := g i hi hb
      omega
    · have e : K.nr a b K.np = nI (K.row a + K.row b - 2 * l) := by
        rcases hc with ⟨h1, h2⟩ | ⟨i2, h1, h2, h3, h4⟩
        · rw [h1 i hi] at hb2; cases hb2
        · have q1 := h4 i hi hb2
          have q2 := h i2 h1 h2
          rw [h3, show K.row i2 = l by omega]
      rw [← e]
      unfold PL_isLeast_298
      cases l with
      | zero => exact pc_t i_m1_lt0 fin
      | succ l =>
        rw [nI_pred]
        refine pc_f (nI_lt0 (by omega)) (pc_t ?_ fin)
        rw [e]; exact nI_pos' (by omega)
theorem l_le_end {kc v : Mem} {ap ac aq an : Mem} {K : Kr} (S : CS v K) (P : rP ap K) (C : rC ac K) (N : rN an K) (W : WF K) (h1 : 1 ≤ K.np) {post : Int32 → Mem → Mem → Mem → Prop} {y x ar : Mem} {x6 : Int32} (k : post 1 v y x) : PL_isLeast_236 kc ap ac aq an post v y x ar x6 1 := by
  have hn := W.np20
  unfold PL_isLeast_236
  rw [ix0, N.1.1]
  refine ⟨in7 (n := 0) (by decide), l_low h1 (by omega) fun a ha => ⟨K.np + 1, ?_⟩⟩
  have loop : ∀ d b : Nat, b + d = K.np → PL_isLeast_252 kc ap ac aq an post (d + 1) v y x ar 1 (nI a) (nI b) := by
    intro d
    induction d with
    | zero =>
      intro b hb
      unfold PL_isLeast_252
      rw [ix0, N.1.1]
      exact ⟨in7 (n := 0) (by decide), pc_t (nle' (by omega) (by omega)) ⟨isB_1, k⟩⟩
    | succ d ih =>
      intro b hb
      have hb2 : b < K.np := by omega
      unfold PL_isLeast_252
      rw [ix0, N.1.1]
      refine ⟨in7 (n := 0) (by decide), pc_f (nle hb2 (by omega)) (l_anc P C N W ha (l_anc P C N W hb2 fun q28 h28 => ⟨6, ?_⟩))⟩
      have e : q28 = K.cm a b := h28
      rw [e]
      have z := l_nr (kc := kc) (ap := ap) (ac := ac) (aq := aq) (an := an) S P N W ha hb2 (post := post) (y := y) (x := x) (ar := ar) (ih (b + 1) (by omega)) 4 (Nat.le_refl _) (fun i hi _ => W.row4 hi)
      rw [show nI 4 - 1 = (3 : Int32) from by decide] at z
      exact z
  exact loop K.np 0 (by omega)
theorem l_le_l {kc v : Mem} {ap ac aq an : Mem} {K : Kr} (S : CS v K) (P : rP ap K) (C : rC ac K) (Q : rQ aq K) (N : rN an K) (W : WF K) (h1 : 1 ≤ K.np) {r0 : Nat} (hr0 : r0 < 4) {x7 : Int32} {y x : Mem} {post : Int32 → Mem → Mem → Mem → Prop} (k : ∀ v y x, CS v K → post 1 v y x) : ∀ (d i : Nat) (ar : Mem), i + d = 24 → rQ ar K → PL_isLeast_66 kc ap ac aq an post (d + 1) v y x ar (nI r0) x7 (nI (K.lst r0).1) (nI (iS K i).1) (iS K i).2 (nI i) := by
  intro d
  induction d with
  | zero =>
    intro i ar hi R
    have ei : i = 24 := by omega
    subst ei
    unfold PL_isLeast_66
    rw [iS_24]
    refine pc_t (nle' (a := 24) (b := 24) (by decide) (by decide)) ?_
    refine n_lst S W hr0 0 (by decide) fun x16 => pd_t rfl (n_lst S W hr0 1 (by decide) fun x51 => pd_t rfl (c_bestSwap S W fun v55 y56 S5 => pd_t rfl (l_le_end S5 P C N W h1 (k v55 y56 x51 S5))))
  | succ d ih =>
    intro i ar hi R
    obtain ⟨r, q, hq, rfl⟩ : ∃ r q, q < 6 ∧ i = 6 * r + q := ⟨i / 6, i % 6, by omega, by omega⟩
    have hr : r < 4 := by omega
    have h6 := W.sz6 hr
    have hS := iS_le W (show 6 * r + q < 24 by omega)
    unfold PL_isLeast_66
    rw [n6I, pk_div (show 6 * r + q < 2 ^ 31 by omega) (by decide) (by decide), pk_mul, pk_sub (by omega), show (6 * r + q) / 6 = r by omega, show 6 * r + q - r * 6 = q by omega, e3, ix_nI (show 3 + r < 2 ^ 31 by omega), N.2 r hr, nI_1, nI_1, ix_nI (show 6 * r + q < 2 ^ 31 by omega), ix_nI (show 6 * r + q + 1 < 2 ^ 31 by omega)]
    refine pc_f (nle (a := 24) (by omega) (by decide)) ⟨in7 (by omega), ?_⟩
    by_cases g : q + 1 < K.sz r
    · have a1 := Q r q hr (by omega)
      have a2 := Q r (q + 1) hr g
      refine pc_f (nle g (by omega)) ⟨in24 (by omega), in24 (by omega), fun ar62 f1 => ⟨in24 (by omega), in24 (by omega), fun ar65 f2 => ?_⟩⟩
      have ea : ar65 0 = upd (upd (ar 0) (6 * r + q) (aq 0 (6 * r + q + 1))) (6 * r + q + 1) (aq 0 (6 * r + q)) := by rw [f2, mset_a, f1, mset_a]
      have O2 := isO_trs (isO_od W hr) (show q < K.sz r by omega) g
      have W2 := setO_wf W O2
      have Q2 : rQ ar65 (K.setO r (fun k => K.od r (trs q (q + 1) k))) := by
        refine rQ_set R W hr (fun j hj => ?_) (fun z hz => ?_)
        · rw [ea, upd_o _ _ (by omega), upd_o _ _ (by omega)]
        · rw [ea]
          by_cases y1 : z = q
          · subst y1
            rw [upd_o _ _ (by omega), upd_a, trs_a]; exact a2
          · by_cases y2 : z = q + 1
            · subst y2
              rw [show 6 * r + (q + 1) = 6 * r + q + 1 from rfl, upd_a, trs_b]; exact a1
            · rw [upd_o _ _ (by omega), upd_o _ _ (by omega), trs_o y1 y2]; exact R r z hr hz
      refine l_all (K := K.setO r (fun k => K.od r (trs q (q + 1) k))) P C Q2 N W2 ?_
      have hx := xs_le W hr g
      have ex : (K.setO r (fun k => K.od r (trs q (q + 1) k))).XA = K.xs r q := rfl
      rw [ex]
      have e10 : (10 : Int32) * nI r + nI q = nI (10 * r + q) := by rw [n10I, pk_mul, nI_add]
      rw [e10]
      have back : ∀ (s1 s2 : Int32), (nI (iS K (6 * r + q + 1)).1 = s1) → ((iS K (6 * r + q + 1)).2 = s2) → PL_isLeast_168 kc ap ac aq an post (PL_isLeast_66 kc ap ac aq an post (d + 1)) v y x ar65 (nI r0) x7 (nI (K.lst r0).1) s2 (nI (6 * r + q)) s1 := fun s1 s2 hs1 hs2 => by
        unfold PL_isLeast_168
        rw [nI_1, ix_nI (show 6 * r + q < 2 ^ 31 by omega), ix_nI (show 6 * r + q + 1 < 2 ^ 31 by omega)]
        refine ⟨in24 (by omega), in24 (by omega), fun ar72 f3 => ⟨in24 (by omega), in24 (by omega), fun ar75 f4 => ?_⟩⟩
        rw [← hs1, ← hs2]
        refine ih (6 * r + q + 1) ar75 (by omega) fun r' k' hr' hk' => ?_
        have h6' := W.sz6 hr'
        have b1 := R r' k' hr' hk'
        have b2 := Q r' k' hr' hk'
        rw [f4, mset_a, f3, mset_a, ea]
        by_cases y1 : 6 * r' + k' = 6 * r + q + 1
        · rw [y1, upd_a, ← y1]; exact b2
        · rw [upd_o _ _ y1]
          by_cases y2 : 6 * r' + k' = 6 * r + q
          · rw [y2, upd_a, ← y2]; exact b2
          · rw [upd_o _ _ y2, upd_o _ _ y1, upd_o _ _ y2]; exact b1
      have hy := iS_y h6 g
      unfold PL_isLeast_152
      by_cases c : K.xs r q < (iS K (6 * r + q)).1
      · have hb : iS K (6 * r + q + 1) = (K.xs r q, nI (10 * r + q)) := by rw [hy]; exact if_pos c
        refine pc_f (nle c (by omega)) (pc_f (nle c (by omega)) (back _ _ (by rw [hb]) (by rw [hb])))
      · have hb : iS K (6 * r + q + 1) = iS K (6 * r + q) := by rw [hy]; exact if_neg c
        refine pc_t (nle' (by omega) (by omega)) (pc_t (nle' (by omega) (by omega)) (back _ _ (by rw [hb]) (by rw [hb])))
    · refine pc_t (nle' (by omega) (by omega)) ?_
      have e := ih (6 * r + q + 1) ar (by omega) R
      rw [iS_n h6 hq g] at e
      exact e
theorem l_isLeast {kc v y x : Mem} {ap ac aq an : Mem} {K : Kr} (S : CS v K) (P : rP ap K) (C : rC ac K) (Q : rQ aq K) (N : rN an K) (W : WF K) (h1 : 1 ≤ K.np) {r : Nat} (hr : r < 4) {x7 : Int32} {post : Int32 → Mem → Mem → Mem → Prop} (k : ∀ v y x, CS v K → post 1 v y x) : PL_isLeast kc v y x ap ac aq an (nI r) x7 post := by
  refine l_copy fun ar2 h2 => l_best P C Q N W hr fun b hb hL => l_layb (rQ_cg Q W h2) N W hr hb hL fun ar6 Q6 => ?_
  have W2 := setO_wf W (lo2_isO W hr)
  refine l_ofTwo (K := K.setO r (K.lo2 r)) P C Q6 N W2 hr ?_
  rw [lo2_Yo W hr]
  refine l_all P C Q N W (l_copy fun ar12 h12 => ⟨25, ?_⟩)
  have e := l_le_l (kc := kc) (y := y) (x := x) S P C Q N W h1 hr (x7 := x7) k 24 0 ar12 (by omega) (rQ_cg Q W h12)
  rw [iS_0] at e
  exact e
