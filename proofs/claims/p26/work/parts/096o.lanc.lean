/-! the law's ancestors row by row, and its count of a set -/
def Fl (K : Kr) (p l q : Nat) : Prop := q = p ∨ (An K p q ∧ l ≤ K.row q)
def Gl (K : Kr) (p l I q : Nat) : Prop := Fl K p l q ∨ ∃ i, i < I ∧ K.row i = l ∧ Fl K p l i ∧ K.isPar q i = true
theorem Fl_up {K : Kr} (W : WF K) {p : Nat} (hp : p < K.np) (q : Nat) : Fl K p (K.row p) q ↔ q = p := by
  constructor
  · rintro (h | ⟨h, g⟩)
    · exact h
    · obtain ⟨n, hn, h⟩ := An_ex h
      have f := Gn_facts W hp n q h
      omega
  · exact fun h => Or.inl h
theorem An_dn {K : Kr} (W : WF K) {p q : Nat} (hp : p < K.np) (h : An K p q) : K.isPar q p = true ∨ ∃ u, An K p u ∧ K.isPar q u = true := by
  obtain ⟨n, hn, h⟩ := An_ex h
  obtain ⟨n, rfl⟩ : ∃ k, n = k + 1 := ⟨n - 1, by omega⟩
  obtain ⟨u, hu, h1, h2⟩ := h
  cases n with
  | zero =>
    have e : u = p := h1
    rw [e] at h2; exact Or.inl h2
  | succ n => exact Or.inr ⟨u, An_of W hp (n := n + 1) (by omega) h1, h2⟩
theorem Gl_end {K : Kr} (W : WF K) {p l : Nat} (hp : p < K.np) (hl : 0 < l) (hlr : l ≤ K.row p) (q : Nat) : Gl K p l K.np q ↔ Fl K p (l - 1) q := by
  constructor
  · rintro (h | ⟨i, hi, h1, h2, h3⟩)
    · rcases h with h | ⟨h, g⟩
      · exact Or.inl h
      · exact Or.inr ⟨h, by omega⟩
    · have f := isPar_facts W hi h3
      refine Or.inr ⟨?_, by omega⟩
      rcases h2 with h2 | ⟨h2, -⟩
      · rw [h2] at h3; exact (An_iff W hp).mpr (Or.inl h3)
      · exact An_up W hp h2 h3
  · rintro (h | ⟨h, g⟩)
    · exact Or.inl (Or.inl h)
    · by_cases e : l ≤ K.row q
      · exact Or.inl (Or.inr ⟨h, e⟩)
      · rcases An_dn W hp h with h1 | ⟨u, h1, h2⟩
        · have f := isPar_facts W hp h1
          exact Or.inr ⟨p, hp, by omega, Or.inl rfl, h1⟩
        · have hu : u < K.np := by have := An_lt W hp h1; omega
          have f := isPar_facts W hu h2
          exact Or.inr ⟨u, hu, by omega, Or.inr ⟨h1, by omega⟩, h2⟩
theorem Gl_at {K : Kr} (W : WF K) {p l I : Nat} (hI : I ≤ K.np) {q : Nat} (hq : K.row q = l) : Gl K p l I q ↔ Fl K p l q := by
  constructor
  · rintro (h | ⟨i, hi, h1, h2, h3⟩)
    · exact h
    · have f := isPar_facts W (show i < K.np by omega) h3
      omega
  · exact fun h => Or.inl h
theorem Gl_s {K : Kr} {p l I : Nat} (h : ¬ (K.row I = l ∧ Fl K p l I ∧ K.par I ≠ none)) (q : Nat) : Gl K p l (I + 1) q ↔ Gl K p l I q := by
  constructor
  · rintro (g | ⟨i, hi, h1, h2, h3⟩)
    · exact Or.inl g
    · rcases Nat.lt_succ_iff_lt_or_eq.mp hi with y | y
      · exact Or.inr ⟨i, y, h1, h2, h3⟩
      · subst y
        refine absurd ⟨h1, h2, fun e => ?_⟩ h
        obtain ⟨c, hc, -⟩ := isPar_iff.mp h3
        rw [e] at hc; cases hc
  · rintro (g | ⟨i, hi, h1⟩)
    · exact Or.inl g
    · exact Or.inr ⟨i, by omega, h1⟩
theorem Gl_t {K : Kr} {p l I c : Nat} (h1 : K.row I = l) (h2 : Fl K p l I) (h3 : K.par I = some c) (q : Nat) : Gl K p l (I + 1) q ↔ Gl K p l I q ∨ q = K.lo c ∨ q = K.hi c := by
  constructor
  · rintro (g | ⟨i, hi, g1, g2, g3⟩)
    · exact Or.inl (Or.inl g)
    · rcases Nat.lt_succ_iff_lt_or_eq.mp hi with y | y
      · exact Or.inl (Or.inr ⟨i, y, g1, g2, g3⟩)
      · subst y
        obtain ⟨d, e1, e2⟩ := isPar_iff.mp g3
        rw [h3] at e1; cases e1
        exact Or.inr (e2.elim (fun e => Or.inl e.symm) (fun e => Or.inr e.symm))
  · rintro ((g | ⟨i, hi, g1⟩) | g)
    · exact Or.inl g
    · exact Or.inr ⟨i, by omega, g1⟩
    · exact Or.inr ⟨I, by omega, h1, h2, isPar_iff.mpr ⟨c, h3, g.elim (fun e => Or.inl e.symm) (fun e => Or.inr e.symm)⟩⟩
theorem or0 (x : Int32) : x ||| 0 = x := b_ext fun i _ => by rw [b_or, b_0, Bool.or_false]
theorem l_anc_in {ap ac an : Mem} {K : Kr} (P : rP ap K) (C : rC ac K) (N : rN an K) (W : WF K) {p l : Nat} (hp : p < K.np) (hl : 0 < l) (hl4 : l ≤ K.row p) {post : Int32 → Prop} {K12 : Int32 → Int32 → Int32 → Prop} (k : ∀ x, BS x (Fl K p (l - 1)) → K12 (nI p) x (nI (l - 1))) : ∀ (d I : Nat) (x : Int32), I + d = K.np → BS x (Gl K p l I) → PL_ancestors_20 ap ac an post K12 (d + 1) (nI p) x (nI l) (nI I) := by
  have hn := W.np20
  have hr4 := W.row4 hp
  intro d
  induction d with
  | zero =>
    intro I x hI hx
    unfold PL_ancestors_20
    rw [ix0, N.1.1, show I = K.np by omega]
    refine ⟨in7 (n := 0) (by decide), pc_t (nle' (Nat.le_refl _) (by omega)) ?_⟩
    obtain ⟨m, rfl⟩ : ∃ m, l = m + 1 := ⟨l - 1, by omega⟩
    rw [pk_m1]
    exact k x (hx.cg fun i _ => by rw [show I = K.np by omega]; exact Gl_end W hp hl hl4 i)
  | succ d ih =>
    intro I x hI hx
    have hI2 : I < K.np := by omega
    have r4 := W.row4 hI2
    have no : ¬ (K.row I = l ∧ Fl K p l I ∧ K.par I ≠ none) → PL_ancestors_65 ap ac an post K12 (PL_ancestors_20 ap ac an post K12 (d + 1)) (nI p) x (nI l) (nI I) := fun h => by
      unfold PL_ancestors_65 PL_ancestors_66
      refine pc_t rfl fun q hq => ?_
      rw [hq, or0, nI_1]
      exact ih (I + 1) x (by omega) (hx.cg fun i _ => (Gl_s h i).symm)
    unfold PL_ancestors_20
    rw [ix0, N.1.1, e2s, e2, ix_nI (show 2 * I < 2 ^ 31 by omega), ix_nI (show 2 * I + 1 < 2 ^ 31 by omega), (P I hI2).1, (P I hI2).2, b_shr1 _ (show I < 32 by omega)]
    refine ⟨in7 (n := 0) (by decide), pc_f (nle hI2 (by omega)) ⟨in40 (by omega), ?_⟩⟩
    by_cases g1 : K.row I = l
    · refine pd_t (by rw [g1]) ?_
      have hb := hx I (by omega)
      rw [Gl_at W (by omega) g1] at hb
      cases e : bt x I with
      | false =>
        refine pd_f (by decide) (no fun h => ?_)
        rw [hb.mpr h.2.1] at e; cases e
      | true =>
        refine pd_t rfl ⟨in40 (by omega), ?_⟩
        cases ec : K.par I with
        | none => exact pc_t i_m1_lt0 (no fun h => h.2.2 ec)
        | some c =>
          have hc := W.par_c hI2 ec
          have h10 := W.nc10
          refine pc_f (nI_lt0 (show c < 2 ^ 31 by omega)) ?_
          unfold PL_ancestors_66
          rw [e2s, ix_nI (show 2 * I + 1 < 2 ^ 31 by omega), (P I hI2).2, ec]
          show ((1 : Int32) = 0 → _) ∧ _
          have hc' : pI (some c) = nI c := rfl
          rw [hc', e2s, e2, ix_nI (show 2 * c < 2 ^ 31 by omega), ix_nI (show 2 * c + 1 < 2 ^ 31 by omega), (C c hc).1, (C c hc).2]
          refine pc_f i10 ⟨in40 (by omega), in20 (by omega), in40 (by omega), in20 (by omega), fun q hq => ?_⟩
          rw [hq, nI_1]
          have l1 := W.lo_np hc
          have l2 := W.hi_np hc
          refine ih (I + 1) _ (by omega) ((hx.or ((BS.one (show K.lo c < 32 by omega)).or (BS.one (show K.hi c < 32 by omega)))).cg fun i _ => (Gl_t g1 (hb.mp e) ec i).symm)
    · exact pd_f (nne (by omega) (by omega) g1) (no fun h => g1 h.1)
theorem l_anc_out {ap ac an : Mem} {K : Kr} (P : rP ap K) (C : rC ac K) (N : rN an K) (W : WF K) {p : Nat} (hp : p < K.np) {post : Int32 → Prop} (k : post (K.anc p)) : ∀ (l : Nat) (x : Int32), l ≤ K.row p → BS x (Fl K p l) → PL_ancestors_12 ap ac an post (l + 1) (nI p) x (nI l) := by
  have hn := W.np20
  have hr4 := W.row4 hp
  intro l
  induction l with
  | zero =>
    intro x _ hx
    unfold PL_ancestors_12
    refine pc_t (nle' (a := 0) (b := 0) (by decide) (by decide)) ?_
    have e : x &&& ((1 <<< (nI p &&& 31)) ^^^ (-1)) = K.anc p := by
      refine BS.eq (S := An K p) (fun i hi => ?_) (anc_bs K p)
      rw [b_and, b_xor, b_one (by omega) hi, b_m1 i hi, Bool.and_eq_true, hx i hi]
      constructor
      · rintro ⟨h | h, g⟩
        · rw [h] at g; simp at g
        · exact h.1
      · intro h
        have hlt := An_lt W hp h
        refine ⟨Or.inr ⟨h, Nat.zero_le _⟩, ?_⟩
        rw [decide_eq_false (show ¬ i = p by omega)]; rfl
    rw [e]; exact k
  | succ l ih =>
    intro x hl hx
    unfold PL_ancestors_12
    refine pc_f (nle (a := l + 1) (b := 0) (by omega) (by omega)) ⟨K.np + 1, ?_⟩
    refine l_anc_in P C N W hp (Nat.succ_pos l) hl (fun y hy => ih y (by omega) hy) K.np 0 x (by omega) (hx.cg fun i _ => ?_)
    constructor
    · exact fun h => Or.inl h
    · rintro (h | ⟨i2, hi, -⟩)
      · exact h
      · omega
theorem l_anc {ap ac an : Mem} {K : Kr} (P : rP ap K) (C : rC ac K) (N : rN an K) (W : WF K) {p : Nat} (hp : p < K.np) {post : Int32 → Prop} (k : post (K.anc p)) : PL_ancestors ap ac an (nI p) post := by
  have hn := W.np20
  unfold PL_ancestors
  intro q1 h1
  rw [e2, ix_nI (show 2 * p < 2 ^ 31 by omega), (P p hp).1]
  refine ⟨in40 (by omega), fun q3 h3 => ⟨K.row p + 1, ?_⟩⟩
  rw [h1, h3]
  exact l_anc_out P C N W hp k (K.row p) _ (Nat.le_refl _) ((BS.one (show p < 32 by omega)).cg fun i _ => (Fl_up W hp i).symm)
def pwk (n : Nat) : Nat → Nat := sm (fun i => if n.testBit i then 1 else 0)
theorem pwk_s (n k : Nat) : pwk n (k + 1) = (if n.testBit 0 then 1 else 0) + pwk (n / 2) k := by
  unfold pwk
  rw [Nat.add_comm k 1, sm_cat _ 1 k, sm_s, sm_0, Nat.zero_add]
  congr 1
  refine sm_congr fun i _ => ?_
  rw [Nat.add_comm 1 i, Nat.testBit_succ]
theorem pwk_0 : ∀ k, pwk 0 k = 0 := fun k => sm_none fun i _ => by rw [Nat.zero_testBit]; rfl
theorem pw_clr : ∀ (k n : Nat), 0 < n → n < 2 ^ k → pwk (n &&& (n - 1)) k + 1 = pwk n k := by
  intro k
  induction k with
  | zero => intro n h1 h2; simp at h2; omega
  | succ k ih =>
    intro n h1 h2
    have h3 : n / 2 < 2 ^ k := by rw [Nat.pow_succ] at h2; omega
    rw [pwk_s, pwk_s n, Nat.testBit_and]
    have hand : (n &&& (n - 1)) / 2 = n / 2 &&& (n - 1) / 2 := by
      refine Nat.eq_of_testBit_eq fun i => ?_
      rw [Nat.testBit_and, ← Nat.testBit_succ, ← Nat.testBit_succ, ← Nat.testBit_succ, Nat.testBit_and]
    rw [hand]
    have t0 : ∀ m : Nat, m.testBit 0 = decide (m % 2 = 1) := fun m => Nat.testBit_zero m
    rw [t0 n, t0 (n - 1)]
    rcases Nat.mod_two_eq_zero_or_one n with e | e
    · have f := ih (n / 2) (by omega) h3
      rw [show (n - 1) / 2 = n / 2 - 1 by omega, decide_eq_false (show ¬ n % 2 = 1 by omega), Bool.false_and]
      simp only [Bool.false_eq_true, if_false]
      omega
    · rw [show (n - 1) / 2 = n / 2 by omega, decide_eq_false (show ¬ (n - 1) % 2 = 1 by omega), decide_eq_true e, Bool.and_false, Nat.and_self]
      simp only [Bool.false_eq_true, if_false, if_true]
      omega
theorem pw_0 {k n : Nat} (h : n < 2 ^ k) (e : pwk n k = 0) : n = 0 := by
  rcases Nat.eq_zero_or_pos n with g | g
  · exact g
  · have := pw_clr k n g h; omega
theorem l_ones_l {post : Int32 → Prop} : ∀ (t n c : Nat), pwk n 20 = t → n < 2 ^ 20 → post (nI (c + t)) → PL_ones_4 post (t + 1) (nI c) (nI n) := by
  intro t
  induction t with
  | zero =>
    intro n c e h k
    have e0 := pw_0 h e
    subst e0
    unfold PL_ones_4
    exact pc_t rfl k
  | succ t ih =>
    intro n c e h k
    have hp : 0 < n := by
      rcases Nat.eq_zero_or_pos n with g | g
      · rw [g, pwk_0] at e; omega
      · exact g
    unfold PL_ones_4
    refine pc_f (nI_ne0 hp (by omega)) fun q hq => ?_
    obtain ⟨m, rfl⟩ : ∃ m, n = m + 1 := ⟨n - 1, by omega⟩
    have f := pw_clr 20 (m + 1) hp h
    rw [show m + 1 - 1 = m from rfl] at f
    rw [hq, nI_pred, nx_and, nI_1]
    refine ih ((m + 1) &&& m) (c + 1) (by omega) (Nat.lt_of_le_of_lt Nat.and_le_left h) ?_
    rw [show c + 1 + t = c + (t + 1) by omega]; exact k
theorem l_ones {x : Int32} (h : ∀ i, 20 ≤ i → i < 32 → bt x i = false) {post : Int32 → Prop} (k : post (nI (pcn x 20))) : PL_ones x post := by
  obtain ⟨n, hn, rfl⟩ := b_nat h
  have e : pwk n 20 = pcn (nI n) 20 := sm_congr fun i hi => by rw [bt_nI n (show i < 32 by omega)]
  exact ⟨_, l_ones_l _ n 0 e hn (by rw [Nat.zero_add]; exact k)⟩
theorem chW_p {K : Kr} (W : WF K) (p : Nat) : sm (fun i => if K.isPar p i = true then 1 else 0) K.np = K.chW p := by
  have e1 : K.chW p = sm (fun c => sm (fun i => if (K.lo c = p ∨ K.hi c = p) ∧ K.par i = some c then 1 else 0) K.np) K.nc := by
    unfold Kr.chW Kr.ch
    refine sm_congr fun c _ => ?_
    by_cases g : K.lo c = p ∨ K.hi c = p
    · rw [if_pos g]
      exact sm_congr fun i _ => by
        by_cases h : K.par i = some c
        · rw [if_pos h, if_pos ⟨g, h⟩]
        · rw [if_neg h, if_neg fun y => h y.2]
    · rw [if_neg g]
      exact (sm_none fun i _ => if_neg fun y => g y.1).symm
  rw [e1, sm_swap]
  refine sm_congr fun i hi => ?_
  cases e : K.par i with
  | none =>
    have : K.isPar p i ≠ true := fun h => by
      obtain ⟨c, hc, -⟩ := isPar_iff.mp h
      rw [e] at hc; cases hc
    rw [if_neg this]
    exact (sm_none fun c _ => if_neg fun y => by cases y.2).symm
  | some c0 =>
    have hc := W.par_c hi e
    rw [sm_single (a := c0) hc (fun c _ hne => if_neg fun y => hne (Option.some.inj y.2).symm)]
    by_cases g : K.isPar p i = true
    · obtain ⟨c, h1, h2⟩ := isPar_iff.mp g
      rw [e] at h1; cases h1
      rw [if_pos g, if_pos ⟨h2, rfl⟩]
    · rw [if_neg g, if_neg fun y => g (isPar_iff.mpr ⟨c0, e, y.1⟩)]
