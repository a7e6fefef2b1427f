/-! orders by their numbers: which person comes next -/
def fct : Nat → Nat
  | 0 => 1
  | n + 1 => fct n * (n + 1)
/-- the one of the set m that has r of the set before it -/
def pkk (m r : Nat) : Nat := sm (fun j => if m.testBit j = true ∧ pwk m j = r then j else 0) 6
def dc : Nat → Nat → Nat → List Nat
  | 0, _, _ => []
  | d + 1, m, num => pkk m (num / fct d) :: dc d (m - 2 ^ pkk m (num / fct d)) (num % fct d)
def dok (n : Nat) : Nat → Nat → Nat → Bool
  | 0, _, _ => true
  | d + 1, m, num => decide (pkk m (num / fct d) < n) && m.testBit (pkk m (num / fct d)) && decide (pwk m (pkk m (num / fct d)) = num / fct d) && dok n d (m - 2 ^ pkk m (num / fct d)) (num % fct d)
def pmc (n : Nat) : Bool := decide (PM n = (List.range (fct n)).map (dc n (2 ^ n - 1))) && (List.range (fct n)).all (fun num => dok n n (2 ^ n - 1) num)
set_option maxRecDepth 100000 in
theorem pmc_ok : ∀ n, n < 7 → pmc n = true := by decide +kernel
theorem PM_dc {n : Nat} (h : n ≤ 6) : PM n = (List.range (fct n)).map (dc n (2 ^ n - 1)) ∧ ∀ num, num < fct n → dok n n (2 ^ n - 1) num = true := by
  have c := pmc_ok n (by omega)
  unfold pmc at c
  rw [Bool.and_eq_true, decide_eq_true_eq, List.all_eq_true] at c
  exact ⟨c.1, fun num hn => c.2 num (List.mem_range.mpr hn)⟩
theorem PM_at {n num : Nat} (h : n ≤ 6) (hn : num < fct n) : (PM n)[num]? = some (dc n (2 ^ n - 1) num) := by
  rw [(PM_dc h).1, List.getElem?_map, List.getElem?_range hn]; rfl
theorem PM_len {n : Nat} (h : n ≤ 6) : (PM n).length = fct n := by rw [(PM_dc h).1, List.length_map, List.length_range]
theorem fct_le : ∀ n, n < 7 → fct n ≤ 720 ∧ 0 < fct n := by decide +kernel
theorem tb_rem : ∀ m, m < 64 → ∀ j, j < 6 → m.testBit j = true → ∀ i, i < 6 → (m - 2 ^ j).testBit i = (decide (i ≠ j) && m.testBit i) := by decide +kernel
theorem pwk_t {m j : Nat} (h : m.testBit j = true) : pwk m (j + 1) = pwk m j + 1 := by
  unfold pwk
  rw [sm_s, if_pos h]
theorem pwk_un {m a b : Nat} (ha : m.testBit a = true) (hb : m.testBit b = true) (h : pwk m a = pwk m b) : a = b := by
  rcases Nat.lt_trichotomy a b with g | g | g
  · have := sm_mono (fun i => if m.testBit i then 1 else 0) (show a + 1 ≤ b by omega)
    have e := pwk_t ha
    unfold pwk at *; omega
  · exact g
  · have := sm_mono (fun i => if m.testBit i then 1 else 0) (show b + 1 ≤ a by omega)
    have e := pwk_t hb
    unfold pwk at *; omega
/-- the people of the row whose ranks are in m -/
def SM (K : Kr) (r m p : Nat) : Prop := p < K.np ∧ K.row p = r ∧ m.testBit (K.cnt r p) = true
theorem cnt_s (K : Kr) (r p : Nat) : K.cnt r (p + 1) = K.cnt r p + (if K.row p = r then 1 else 0) := rfl
theorem sm_SM {K : Kr} {r m : Nat} {x : Int32} (hn : K.np ≤ 20) (h : BS x (SM K r m)) : ∀ t, t ≤ K.np → sm (fun i => if bt x i then 1 else 0) t = pwk m (K.cnt r t) := by
  intro t
  induction t with
  | zero => intro _; rfl
  | succ t ih =>
    intro ht
    rw [sm_s, ih (by omega), cnt_s]
    have hb := h t (by omega)
    by_cases g : K.row t = r
    · rw [if_pos g]
      by_cases e : m.testBit (K.cnt r t) = true
      · rw [if_pos (hb.mpr ⟨by omega, g, e⟩), pwk_t e]
      · rw [if_neg (fun y => e (hb.mp y).2.2)]
        unfold pwk
        rw [sm_s, if_neg e]
    · rw [if_neg g, if_neg (fun y => g (hb.mp y).2.1)]
      rfl
theorem msk_k : ∀ t, t < 20 → (1 <<< (nI t &&& 31)) - 1 = nI (2 ^ t - 1) := by decide +kernel
theorem msk_b {t : Nat} (ht : t < 20) {i : Nat} (hi : i < 32) : bt ((1 <<< (nI t &&& 31)) - 1) i = decide (i < t) := by
  rw [msk_k t ht, bt_nI _ hi, Nat.testBit_two_pow_sub_one]
theorem pcn_msk {x : Int32} {t : Nat} (ht : t < 20) : pcn (x &&& ((1 <<< (nI t &&& 31)) - 1)) 20 = sm (fun i => if bt x i then 1 else 0) t := by
  unfold pcn
  rw [sm_cut (a := t) (by omega) (fun i h1 h2 => by rw [b_and, msk_b ht (by omega), decide_eq_false (by omega), Bool.and_false]; rfl)]
  exact sm_congr fun i hi => by rw [b_and, msk_b ht (by omega), decide_eq_true hi, Bool.and_true]
theorem SM_hi {K : Kr} {r m : Nat} {x : Int32} (hn : K.np ≤ 20) (h : BS x (SM K r m)) {i : Nat} (h1 : 20 ≤ i) (h2 : i < 32) : bt x i = false := h.f h2 fun y => by have := y.1; omega
theorem l_who {aq an : Mem} {K : Kr} (W : WF K) {r m rank : Nat} (hr : r < 4) {x : Int32} (hx : BS x (SM K r m)) (hj : pkk m rank < K.sz r) (hb : m.testBit (pkk m rank) = true) (hp : pwk m (pkk m rank) = rank) {x2 x4 x6 x7 : Int32} {post : Mem → Prop} {K48 : Mem → Int32 → Int32 → Int32 → Int32 → Int32 → Prop} (k : PL_lays_105 an post K48 1 aq x2 x4 x x6 x7 (nI rank) (nI (K.srt r (pkk m rank))) (nI 0 - 1)) : ∀ t : Nat, t ≤ 20 → PL_lays_105 an post K48 (t + 1) aq x2 x4 x x6 x7 (nI rank) (nI (if t ≤ K.srt r (pkk m rank) then K.srt r (pkk m rank) else 0)) (nI t - 1) := by
  have hn := W.np20
  have h6 := W.sz6 hr
  have hs := srt_f W hr hj
  intro t
  induction t with
  | zero =>
    intro _
    rw [if_pos (Nat.zero_le _)]; exact k
  | succ t ih =>
    intro ht
    have e := ih (by omega)
    rw [nI_pred]
    unfold PL_lays_105
    rw [b_shr1 _ (show t < 32 by omega), m_neg]
    refine pc_f (nI_lt0 (by omega)) ?_
    have hbt := hx t (by omega)
    have keep : t ≠ K.srt r (pkk m rank) → PL_lays_105 an post K48 (t + 1) aq x2 x4 x x6 x7 (nI rank) (nI (if t + 1 ≤ K.srt r (pkk m rank) then K.srt r (pkk m rank) else 0)) (nI t - 1) := fun h => by
      by_cases g : t ≤ K.srt r (pkk m rank)
      · rw [if_pos g] at e
        rw [if_pos (by omega)]; exact e
      · rw [if_neg g] at e
        rw [if_neg (by omega)]; exact e
    cases g : bt x t with
    | false =>
      refine pd_f (by decide) (keep fun y => ?_)
      have : bt x t = true := hbt.mpr ⟨by rw [y]; exact hs.1, by rw [y]; exact hs.2.1, by rw [y, hs.2.2]; exact hb⟩
      rw [g] at this; cases this
    | true =>
      have hS := hbt.mp g
      refine pd_t rfl (l_ones (fun i h1 h2 => by rw [b_and, SM_hi hn hx h1 h2, Bool.false_and]) ?_)
      rw [pcn_msk (by omega), sm_SM hn hx t (by have := hS.1; omega)]
      have hw : pwk m (K.cnt r t) ≤ 20 := by
        have a := sm_01 (f := fun i => if m.testBit i then 1 else 0) (fun i => by split <;> decide) (K.cnt r t)
        have b := sm_01 (f := fun q => if K.row q = r then 1 else 0) (fun i => by split <;> decide) t
        have a' : pwk m (K.cnt r t) ≤ K.cnt r t := a
        have b' : K.cnt r t ≤ t := b
        omega
      have hrk : rank ≤ 20 := by
        have a := sm_01 (f := fun i => if m.testBit i then 1 else 0) (fun i => by split <;> decide) (pkk m rank)
        have a' : pwk m (pkk m rank) ≤ pkk m rank := a
        omega
      by_cases c : pwk m (K.cnt r t) = rank
      · have cj := pwk_un hS.2.2 hb (c.trans hp.symm)
        have et : t = K.srt r (pkk m rank) := by rw [← cj, srt_cnt hS.1 hS.2.1]
        rw [c]
        refine pd_t rfl ?_
        rw [← et, if_pos (Nat.le_refl _)] at e
        exact e
      · refine pd_f (nne (by omega) (by omega) c) (keep fun y => c ?_)
        rw [y, hs.2.2]; exact hp
theorem l_fct {aq an : Mem} {r i n num : Nat} (h6 : n ≤ 6) (hi : i < n) (hnum : num ≤ 720) {x : Int32} {post : Mem → Prop} {K48 : Mem → Int32 → Int32 → Int32 → Int32 → Int32 → Prop} (k : ∃ n18, PL_lays_105 an post K48 n18 aq (nI r) (nI n) x (nI (num % fct (n - i - 1))) (nI i) (nI (num / fct (n - i - 1))) 0 19) : ∀ t q : Nat, q + t = max 2 (n - i) → 2 ≤ q → PL_lays_61 an post K48 (t + 1) aq (nI r) (nI n) x (nI num) (nI i) (nI (fct (q - 1))) (nI q) := by
  intro t
  induction t with
  | zero =>
    intro q hq h2
    have ef : fct (q - 1) = fct (n - i - 1) := by
      rcases Nat.lt_or_ge (n - i) 2 with g | g
      · rw [show q - 1 = 1 by omega, show n - i - 1 = 0 by omega]; rfl
      · rw [show q - 1 = n - i - 1 by omega]
    have f0 := fct_le (n - i - 1) (by omega)
    unfold PL_lays_61
    rw [pk_sub (by omega), ef, pk_div (by omega) f0.2 (by omega)]
    refine pc_t (nle' (by omega) (by omega)) ⟨nI_ne0 f0.2 (by omega), fun q7 e7 => ⟨nI_ne0 f0.2 (by omega), fun q9 e9 => ?_⟩⟩
    rw [← pk_div (by omega) f0.2 (by omega), pk_rem (by omega) f0.2 (by omega)] at e9
    rw [e7, e9]; exact k
  | succ t ih =>
    intro q hq h2
    unfold PL_lays_61
    rw [pk_sub (by omega)]
    refine pc_f (nle (by omega) (by omega)) fun q19 e => ?_
    have ef : fct (q - 1) * q = fct (q + 1 - 1) := by
      obtain ⟨z, rfl⟩ : ∃ z, q = z + 1 := ⟨q - 1, by omega⟩
      rfl
    rw [e, pk_mul, ef, nI_1]
    exact ih (q + 1) (by omega) (by omega)
theorem l_lays_l {an aq0 : Mem} {K : Kr} (W : WF K) {r : Nat} (hr : r < 4) {L : List Nat} {post : Mem → Prop} (k : ∀ aq2 : Mem, (∀ j, ¬ (6 * r ≤ j ∧ j < 6 * r + K.sz r) → aq2 0 j = aq0 0 j) → (∀ k, k < K.sz r → aq2 0 (6 * r + k) = nI (OL (K.srt r) L k)) → post aq2) : ∀ (d i m num : Nat) (x : Int32) (aq : Mem), i + d = K.sz r → m < 64 → num ≤ 720 → dok (K.sz r) d m num = true → BS x (SM K r m) → (∀ q, q < i → aq 0 (6 * r + q) = nI (OL (K.srt r) L q)) → (∀ j, ¬ (6 * r ≤ j ∧ j < 6 * r + K.sz r) → aq 0 j = aq0 0 j) → (∀ q, q < d → lq L (i + q) = lq (dc d m num) q) → PL_lays_48 an post (d + 1) aq (nI r) (nI (K.sz r)) x (nI num) (nI i) := by
  have h6 := W.sz6 hr
  have hn := W.np20
  intro d
  induction d with
  | zero =>
    intro i m num x aq hi hm hnum hd hx hq hf hl
    unfold PL_lays_48
    refine pc_t (nle' (by omega) (by omega)) (k aq hf fun q hq2 => hq q (by omega))
  | succ d ih =>
    intro i m num x aq hi hm hnum hd hx hq hf hl
    have hd' : (decide (pkk m (num / fct d) < K.sz r) && m.testBit (pkk m (num / fct d)) && decide (pwk m (pkk m (num / fct d)) = num / fct d) && dok (K.sz r) d (m - 2 ^ pkk m (num / fct d)) (num % fct d)) = true := hd
    rw [Bool.and_eq_true, Bool.and_eq_true, Bool.and_eq_true, decide_eq_true_eq, decide_eq_true_eq] at hd'
    obtain ⟨⟨⟨h1, h2⟩, h3⟩, h4⟩ := hd'
    have f0 := fct_le d (by omega)
    obtain ⟨j, hj⟩ : ∃ j, j = pkk m (num / fct d) := ⟨_, rfl⟩
    have hs := srt_f W hr h1
    unfold PL_lays_48
    refine pc_f (nle (by omega) (by omega)) ⟨_, l_fct h6 (by omega) hnum ?_ (max 2 (K.sz r - i) - 2) 2 (by omega) (Nat.le_refl _)⟩
    rw [show K.sz r - i - 1 = d by omega]
    refine ⟨21, ?_⟩
    have e20 := l_who (aq := aq) (an := an) W hr hx h1 h2 h3 (x2 := nI r) (x4 := nI (K.sz r)) (x6 := nI (num % fct d)) (x7 := nI i) (post := post) (K48 := PL_lays_48 an post (d + 1)) ?_ 20 (Nat.le_refl _)
    · rw [if_neg (show ¬ 20 ≤ K.srt r (pkk m (num / fct d)) by have := hs.1; omega), show nI 20 - 1 = (19 : Int32) from by decide] at e20
      exact e20
    · unfold PL_lays_105
      rw [m_m1, e6, ix_nI (show 6 * r + i < 2 ^ 31 by omega), nI_1]
      refine pc_t i_m1_lt0 ⟨in24 (by omega), fun aq2 e2 q13 e13 => ?_⟩
      have ea : aq2 0 = upd (aq 0) (6 * r + i) (nI (K.srt r (pkk m (num / fct d)))) := by rw [e2, mset_a]
      refine ih (i + 1) _ _ q13 aq2 (by omega) (Nat.lt_of_le_of_lt (Nat.sub_le _ _) hm) (Nat.le_trans (Nat.mod_le _ _) hnum) h4 ?_ (fun q hq2 => ?_) (fun j' hj' => ?_) (fun q hq2 => ?_)
      · intro p hp
        have hj6 : pkk m (num / fct d) < 6 := by omega
        rw [e13, b_and, b_xor, b_one (show K.srt r (pkk m (num / fct d)) < 32 by have := hs.1; omega) hp, b_m1 p hp, Bool.and_eq_true, hx p hp]
        constructor
        · rintro ⟨⟨g1, g2, g3⟩, g4⟩
          have hc : K.cnt r p < 6 := by
            have a := cnt_lt g2 g1
            rw [cnt_sz W hr] at a; omega
          refine ⟨g1, g2, ?_⟩
          rw [tb_rem m hm _ hj6 h2 _ hc, g3, Bool.and_true, decide_eq_true_eq]
          intro y
          have : p = K.srt r (pkk m (num / fct d)) := by rw [← y, srt_cnt g1 g2]
          rw [decide_eq_true this] at g4
          simp at g4
        · rintro ⟨g1, g2, g3⟩
          have hc : K.cnt r p < 6 := by
            have a := cnt_lt g2 g1
            rw [cnt_sz W hr] at a; omega
          rw [tb_rem m hm _ hj6 h2 _ hc, Bool.and_eq_true, decide_eq_true_eq] at g3
          refine ⟨⟨g1, g2, g3.2⟩, ?_⟩
          have : p ≠ K.srt r (pkk m (num / fct d)) := fun y => g3.1 (by rw [y, hs.2.2])
          rw [decide_eq_false this]; rfl
      · rw [ea]
        rcases Nat.lt_succ_iff_lt_or_eq.mp hq2 with y | y
        · rw [upd_o _ _ (by omega)]; exact hq q y
        · rw [y, upd_a]
          have z := hl 0 (by omega)
          rw [Nat.add_zero] at z
          show _ = nI (K.srt r (lq L i))
          rw [z]; rfl
      · rw [ea, upd_o _ _ (by omega)]; exact hf j' hj'
      · have z := hl (q + 1) (by omega)
        rw [show i + 1 + q = i + (q + 1) by omega, z]; rfl
theorem tb_full {n i : Nat} : (2 ^ n - 1).testBit i = decide (i < n) := Nat.testBit_two_pow_sub_one n i
theorem l_lset {aq an : Mem} {K : Kr} (W : WF K) {r : Nat} (hr : r < 4) {o : Nat → Nat} (O : isO K r o) (Q : ∀ q, q < K.sz r → aq 0 (6 * r + q) = nI (o q)) {num : Nat} {post : Mem → Prop} (k : ∀ x, BS x (SM K r (2 ^ K.sz r - 1)) → ∃ n21, PL_lays_48 an post n21 aq (nI r) (nI (K.sz r)) x (nI num) 0) : ∀ (d i : Nat) (x : Int32), i + d = K.sz r → BS x (fun p => ∃ q, q < i ∧ o q = p) → PL_lays_13 an post (d + 1) aq (nI r) (nI num) (nI (K.sz r)) x (nI i) := by
  have h6 := W.sz6 hr
  have hn := W.np20
  intro d
  induction d with
  | zero =>
    intro i x hi hx
    unfold PL_lays_13
    refine pc_t (nle' (by omega) (by omega)) (k x (hx.cg fun p hp => ?_))
    constructor
    · rintro ⟨q, hq, rfl⟩
      have g := O.1 q (by omega)
      refine ⟨g.1, g.2, ?_⟩
      rw [tb_full, decide_eq_true_eq]
      have a := cnt_lt g.2 g.1
      rw [cnt_sz W hr] at a; exact a
    · rintro ⟨g1, g2, -⟩
      obtain ⟨q, hq, e⟩ := O.2.2 p g1 g2
      exact ⟨q, by omega, e⟩
  | succ d ih =>
    intro i x hi hx
    have g := O.1 i (by omega)
    unfold PL_lays_13
    rw [e6, ix_nI (show 6 * r + i < 2 ^ 31 by omega), Q i (by omega), nI_1]
    refine pc_f (nle (by omega) (by omega)) ⟨in24 (by omega), fun q23 e => ih (i + 1) q23 (by omega) ?_⟩
    rw [e]
    refine (hx.or (BS.one (show o i < 32 by have := g.1; omega))).cg fun p hp => ?_
    constructor
    · rintro (⟨q, hq, e⟩ | e)
      · exact ⟨q, by omega, e⟩
      · exact ⟨i, by omega, e.symm⟩
    · rintro ⟨q, hq, e7⟩
      rcases Nat.lt_succ_iff_lt_or_eq.mp hq with y | y
      · exact Or.inl ⟨q, y, e7⟩
      · exact Or.inr (by rw [← e7, y])
theorem l_lays {aq an : Mem} {K : Kr} (N : rN an K) (W : WF K) {r : Nat} (hr : r < 4) {o : Nat → Nat} (O : isO K r o) (Q : ∀ q, q < K.sz r → aq 0 (6 * r + q) = nI (o q)) {num : Nat} (hnum : num < fct (K.sz r)) {post : Mem → Prop} (k : ∀ aq2 : Mem, (∀ j, ¬ (6 * r ≤ j ∧ j < 6 * r + K.sz r) → aq2 0 j = aq 0 j) → (∀ k, k < K.sz r → aq2 0 (6 * r + k) = nI (OL (K.srt r) (dc (K.sz r) (2 ^ K.sz r - 1) num) k)) → post aq2) : PL_lays aq an (nI r) (nI num) post := by
  have h6 := W.sz6 hr
  have f := fct_le (K.sz r) (by omega)
  unfold PL_lays
  rw [e3, ix_nI (show 3 + r < 2 ^ 31 by omega), N.2 r hr]
  refine ⟨in7 (by omega), fun q2 e => ⟨K.sz r + 1, ?_⟩⟩
  rw [e]
  refine l_lset W hr O Q (fun x hx => ⟨K.sz r + 1, ?_⟩) (K.sz r) 0 0 (by omega) (BS.zero.cg fun p _ => ⟨fun h => h.elim, fun ⟨q, h, _⟩ => absurd h (by omega)⟩)
  have hm : 2 ^ K.sz r - 1 < 64 := by
    have : 2 ^ K.sz r ≤ 2 ^ 6 := Nat.pow_le_pow_right (by decide) h6
    omega
  exact l_lays_l W hr k (K.sz r) 0 _ num x aq (by omega) hm (by omega) ((PM_dc h6).2 num hnum) hx (fun q h => absurd h (by omega)) (fun _ _ => rfl) (fun q _ => by rw [Nat.zero_add])
