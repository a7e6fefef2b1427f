theorem b_1 (i : Nat) : bt 1 i = decide (i = 0) := by
  rcases Nat.lt_or_ge i 32 with h | h
  · exact (by decide +kernel : ∀ i, i < 32 → bt 1 i = decide (i = 0)) i h
  · rw [b_big h, decide_eq_false (by omega)]
theorem b_one {a i : Nat} (ha : a < 32) (hi : i < 32) : bt (1 <<< (nI a &&& 31)) i = decide (i = a) := by
  rw [b_shl a ha 1 hi, b_1]
  by_cases h : i = a
  · simp [h]
  · rw [decide_eq_false h]
    by_cases g : a ≤ i
    · rw [decide_eq_false (show ¬ i - a = 0 by omega), Bool.and_false]
    · rw [decide_eq_false g, Bool.false_and]
theorem b_shr1 (x : Int32) {a : Nat} (ha : a < 32) : ((x >>> (nI a &&& 31)) &&& 1) = nI (if bt x a then 1 else 0) := by
  apply b_ext
  intro i hi
  rw [b_and, b_1, b_sshr a ha x hi, bt_nI _ hi]
  by_cases h : i = 0
  · subst h
    rw [if_pos (show a + 0 < 32 by omega)]
    cases e : bt x (a + 0) <;> rw [show a + 0 = a from rfl] at e <;> simp [e]
  · rw [decide_eq_false h, Bool.and_false]
    have : ∀ j, (if bt x a then 1 else 0) < 2 ^ (j + 1) := fun j => by
      have := Nat.pow_le_pow_right (show 2 > 0 by decide) (show 1 ≤ j + 1 by omega)
      split <;> omega
    have h2 := this (i - 1)
    rw [show i - 1 + 1 = i by omega] at h2
    rw [Nat.testBit_lt_two_pow h2]
theorem b_and0 (x y : Int32) : (x &&& y) = 0 ↔ ∀ i, i < 32 → ¬ (bt x i = true ∧ bt y i = true) := by
  constructor
  · intro h i hi hc
    have := congrArg (fun z => bt z i) h
    simp only [b_and, b_0, hc.1, hc.2] at this
    cases this
  · intro h
    apply b_ext
    intro i hi
    rw [b_and, b_0]
    cases e1 : bt x i
    · rfl
    · cases e2 : bt y i
      · rfl
      · exact absurd ⟨e1, e2⟩ (h i hi)
theorem b_nat {x : Int32} (h : ∀ i, 20 ≤ i → i < 32 → bt x i = false) : ∃ n, n < 2 ^ 20 ∧ x = nI n := by
  refine ⟨x.toBitVec.toNat, ?_, ?_⟩
  · apply Nat.lt_pow_two_of_testBit
    intro i hi
    by_cases h2 : i < 32
    · exact h i hi h2
    · exact b_big (x := x) (by omega)
  · apply b_ext
    intro i hi
    rw [bt_nI _ hi]; rfl
theorem pcn_congr {x y : Int32} {n : Nat} (h : ∀ i, i < n → bt x i = bt y i) : pcn x n = pcn y n := sm_congr fun i hi => by rw [h i hi]
theorem bitCount_of {x : Int32} (h : ∀ i, 20 ≤ i → i < 32 → bt x i = false) {post : Int32 → Prop} (k : post (nI (pcn x 20))) : PJ6_bitCount_0f7a4 x post := by
  obtain ⟨n, hn, e⟩ := b_nat h
  rw [e] at k ⊢
  exact bitCount_ok hn k
/-- q is a parent of p -/
def Kr.isPar (K : Kr) (q p : Nat) : Bool := match K.par p with | none => false | some c => decide (K.lo c = q ∨ K.hi c = q)
theorem isPar_iff {K : Kr} {q p : Nat} : K.isPar q p = true ↔ ∃ c, K.par p = some c ∧ (K.lo c = q ∨ K.hi c = q) := by
  unfold Kr.isPar
  cases K.par p with
  | none => exact ⟨fun h => absurd (show false = true from h) (by decide), fun ⟨c, h, _⟩ => by cases h⟩
  | some c => exact ⟨fun h => ⟨c, rfl, of_decide_eq_true h⟩, fun ⟨d, h, g⟩ => by cases h; exact decide_eq_true g⟩
theorem isPar_facts {K : Kr} (W : WF K) {q p : Nat} (hp : p < K.np) (h : K.isPar q p = true) : q < p ∧ q < K.np ∧ K.row p = K.row q + 1 := by
  obtain ⟨c, h1, h2⟩ := isPar_iff.mp h
  have hc := W.par_c hp h1
  have l1 := W.lo_hi hc
  have l2 := W.hi_np hc
  have l3 := W.par_hi hp h1
  have l4 := W.par_row hp h1
  have l5 := W.row_eq hc
  rcases h2 with rfl | rfl
  · exact ⟨by omega, by omega, l4⟩
  · exact ⟨by omega, by omega, by omega⟩
/-- q stands n generations above p -/
def Gn (K : Kr) : Nat → Nat → Nat → Prop
  | 0, p, q => q = p
  | n + 1, p, q => ∃ o, o < K.np ∧ Gn K n p o ∧ K.isPar q o = true
theorem Gn_facts {K : Kr} (W : WF K) {p : Nat} (hp : p < K.np) : ∀ (n q : Nat), Gn K n p q → q < K.np ∧ K.row p = K.row q + n ∧ q ≤ p ∧ (0 < n → q < p)
  | 0, q, h => by cases h; exact ⟨hp, by omega, by omega, fun h => absurd h (by omega)⟩
  | n + 1, q, ⟨o, ho, h1, h2⟩ => by
    have h3 := Gn_facts W hp n o h1
    have h4 := isPar_facts W ho h2
    omega
theorem Gn_down {K : Kr} {p w : Nat} (hp : p < K.np) (hw : w < K.np) (h : K.isPar w p = true) : ∀ (n q : Nat), Gn K n w q → Gn K (n + 1) p q
  | 0, q, e => by cases e; exact ⟨p, hp, rfl, h⟩
  | n + 1, q, ⟨o, ho, h1, h2⟩ => ⟨o, ho, Gn_down hp hw h n o h1, h2⟩
theorem Gn_up {K : Kr} {p : Nat} : ∀ (n q : Nat), Gn K (n + 1) p q → ∃ w, K.isPar w p = true ∧ (q = w ∧ n = 0 ∨ Gn K n w q)
  | 0, q, ⟨o, _, h1, h2⟩ => by cases h1; exact ⟨q, h2, Or.inr rfl⟩
  | n + 1, q, ⟨o, ho, h1, h2⟩ => by
    obtain ⟨w, h3, h4⟩ := Gn_up n o h1
    refine ⟨w, h3, Or.inr ⟨o, ho, ?_, h2⟩⟩
    rcases h4 with ⟨rfl, rfl⟩ | h4
    · exact rfl
    · exact h4
/-- q is an ancestor of p -/
def An (K : Kr) (p q : Nat) : Prop := Gn K 1 p q ∨ Gn K 2 p q ∨ Gn K 3 p q
theorem An_of {K : Kr} (W : WF K) {p q n : Nat} (hp : p < K.np) (hn : 0 < n) (h : Gn K n p q) : An K p q := by
  have h1 := Gn_facts W hp n q h
  have h2 := W.row4 hp
  rcases (show n = 1 ∨ n = 2 ∨ n = 3 by omega) with rfl | rfl | rfl
  · exact Or.inl h
  · exact Or.inr (Or.inl h)
  · exact Or.inr (Or.inr h)
theorem An_ex {K : Kr} {p q : Nat} (h : An K p q) : ∃ n, 0 < n ∧ Gn K n p q := by
  rcases h with h | h | h
  · exact ⟨1, by decide, h⟩
  · exact ⟨2, by decide, h⟩
  · exact ⟨3, by decide, h⟩
theorem An_lt {K : Kr} (W : WF K) {p q : Nat} (hp : p < K.np) (h : An K p q) : q < p := by
  obtain ⟨n, hn, h⟩ := An_ex h
  exact (Gn_facts W hp n q h).2.2.2 hn
theorem An_up {K : Kr} (W : WF K) {p q u : Nat} (hp : p < K.np) (h : An K p u) (h2 : K.isPar q u = true) : An K p q := by
  obtain ⟨n, hn, h⟩ := An_ex h
  exact An_of W hp (n := n + 1) (by omega) ⟨u, (Gn_facts W hp n u h).1, h, h2⟩
theorem An_iff {K : Kr} (W : WF K) {p q : Nat} (hp : p < K.np) : An K p q ↔ K.isPar q p = true ∨ ∃ w, K.isPar w p = true ∧ An K w q := by
  constructor
  · intro h
    obtain ⟨n, hn, h⟩ := An_ex h
    obtain ⟨n, rfl⟩ : ∃ k, n = k + 1 := ⟨n - 1, by omega⟩
    obtain ⟨w, h1, h2⟩ := Gn_up n q h
    have h3 := isPar_facts W hp h1
    rcases h2 with ⟨rfl, -⟩ | h2
    · exact Or.inl h1
    · cases n with
      | zero => cases h2; exact Or.inl h1
      | succ n => exact Or.inr ⟨w, h1, An_of W h3.2.1 (n := n + 1) (by omega) h2⟩
  · rintro (h | ⟨w, h1, h2⟩)
    · exact Or.inl ⟨p, hp, rfl, h⟩
    · obtain ⟨n, hn, h⟩ := An_ex h2
      exact An_of W hp (n := n + 1) (by omega) (Gn_down hp (isPar_facts W hp h1).2.1 h1 n q h)
/-- the number holds the set by its bits -/
def BS (x : Int32) (S : Nat → Prop) : Prop := ∀ i, i < 32 → (bt x i = true ↔ S i)
theorem BS.eq {x y : Int32} {S : Nat → Prop} (h : BS x S) (g : BS y S) : x = y := b_ext fun i hi => by
  have h1 := h i hi
  have h2 := g i hi
  cases e1 : bt x i <;> cases e2 : bt y i <;> simp_all
theorem BS.cg {x : Int32} {S T : Nat → Prop} (h : BS x S) (e : ∀ i, i < 32 → (S i ↔ T i)) : BS x T := fun i hi => (h i hi).trans (e i hi)
theorem BS.or {x y : Int32} {S T : Nat → Prop} (h : BS x S) (g : BS y T) : BS (x ||| y) (fun i => S i ∨ T i) := fun i hi => by
  rw [b_or, Bool.or_eq_true, h i hi, g i hi]
theorem BS.and {x y : Int32} {S T : Nat → Prop} (h : BS x S) (g : BS y T) : BS (x &&& y) (fun i => S i ∧ T i) := fun i hi => by
  rw [b_and, Bool.and_eq_true, h i hi, g i hi]
theorem BS.one {a : Nat} (ha : a < 32) : BS (1 <<< (nI a &&& 31)) (fun i => i = a) := fun i hi => by rw [b_one ha hi, decide_eq_true_iff]
theorem BS.zero : BS 0 (fun _ => False) := fun i hi => by rw [b_0]; exact ⟨fun h => (by cases h), fun h => h.elim⟩
theorem BS.f {x : Int32} {S : Nat → Prop} (h : BS x S) {i : Nat} (hi : i < 32) (n : ¬ S i) : bt x i = false := by
  cases e : bt x i
  · rfl
  · exact absurd ((h i hi).mp e) n
theorem c_parentBits {v : Mem} {K : Kr} (C : CS v K) (W : WF K) {p : Nat} (hp : p < K.np) {post : Int32 → Prop} (k : ∀ x, BS x (fun q => K.isPar q p = true) → post x) : PX0_parentBits v (nI p) post := by
  refine c_parentsOf C W hp ?_
  cases e : K.par p with
  | none => exact pd_t rfl (k 0 (BS.zero.cg fun i _ => by rw [isPar_iff]; exact ⟨fun h => h.elim, fun ⟨c, h, _⟩ => by rw [e] at h; cases h⟩))
  | some c =>
    have hc := W.par_c hp e
    have l1 := W.lo_np hc
    have l2 := W.hi_np hc
    have l3 := W.np20
    have l4 := W.nc10
    refine pd_f (nI_ne_m1 (by omega)) (c_lesserOf C W hc (c_greaterOf C W hc (k _ (((BS.one (by omega)).or (BS.one (by omega))).cg fun i _ => ?_))))
    rw [isPar_iff, e]
    constructor
    · rintro (h | h)
      · exact ⟨c, rfl, Or.inl h.symm⟩
      · exact ⟨c, rfl, Or.inr h.symm⟩
    · rintro ⟨d, h, g⟩
      cases h
      exact g.elim (fun g => Or.inl g.symm) (fun g => Or.inr g.symm)
theorem c_anc_l {v : Mem} {K : Kr} (C : CS v K) (W : WF K) {p : Nat} (hp : p < K.np) {post : Int32 → Prop} (k : ∀ x, BS x (An K p) → post x) : ∀ (o : Nat) (F : Nat → Prop) (x : Int32), o ≤ p → BS x F → (∀ q, F q → An K p q) → (∀ q, K.isPar q p = true → F q) → (∀ u, o ≤ u → u < p → F u → ∀ q, K.isPar q u = true → F q) → PX0_ancestors_10 v post (o + 1) x (nI o - 1) := by
  have h20 := W.np20
  intro o
  induction o with
  | zero =>
    intro F x ho hx hA h1 h2
    unfold PX0_ancestors_10
    refine pc_t (by decide) (k x (hx.cg fun i _ => ⟨hA i, fun h => ?_⟩))
    have cl : ∀ n q, Gn K (n + 1) p q → F q := by
      intro n
      induction n with
      | zero => rintro q ⟨o, -, e, h⟩; cases e; exact h1 q h
      | succ n ihn =>
        rintro q ⟨o, ho2, e, h⟩
        exact h2 o (by omega) ((Gn_facts W hp (n + 1) o e).2.2.2 (by omega)) (ihn o e) q h
    obtain ⟨n, hn, h⟩ := An_ex h
    obtain ⟨n, rfl⟩ : ∃ k, n = k + 1 := ⟨n - 1, by omega⟩
    exact cl n i h
  | succ o ih =>
    intro F x ho hx hA h1 h2
    unfold PX0_ancestors_10
    rw [nI_pred]
    refine pc_f (nI_lt0 (by omega)) ?_
    have em : nI o + (-1) = nI o - 1 := by rw [Int32.sub_eq_add_neg]
    rw [em]
    by_cases hb : F o
    · refine pc_f (fun z => ?_) (c_parentBits C W (by omega) fun y hy q8 e8 => ?_)
      · rw [b_and0] at z
        exact z o (by omega) ⟨(hx o (by omega)).mpr hb, ((BS.one (by omega)) o (by omega)).mpr rfl⟩
      · refine ih (fun q => F q ∨ K.isPar q o = true) q8 (by omega) (by rw [e8]; exact hx.or hy) (fun q h => h.elim (hA q) (An_up W hp (hA o hb))) (fun q h => Or.inl (h1 q h)) (fun u u1 u2 uF q hq => ?_)
        rcases Nat.eq_or_lt_of_le u1 with e | e
        · subst e; exact Or.inr hq
        · rcases uF with uF | uF
          · exact Or.inl (h2 u e u2 uF q hq)
          · have := (isPar_facts W (show o < K.np by omega) uF).1; omega
    · refine pc_t ?_ (ih F x (by omega) hx hA h1 fun u u1 u2 uF q hq => ?_)
      · rw [b_and0]
        intro i hi z
        have e := ((BS.one (show o < 32 by omega)) i hi).mp z.2
        rw [e] at z
        exact hb ((hx o (by omega)).mp z.1)
      · rcases Nat.eq_or_lt_of_le u1 with e | e
        · subst e; exact absurd uF hb
        · exact h2 u e u2 uF q hq
theorem c_ancestors {v : Mem} {K : Kr} (C : CS v K) (W : WF K) {p : Nat} (hp : p < K.np) {post : Int32 → Prop} (k : ∀ x, BS x (An K p) → post x) : PX0_ancestors v (nI p) post := by
  refine c_parentBits C W hp fun x hx q3 e3 => ?_
  rw [e3]
  exact ⟨_, c_anc_l C W hp k p (fun q => K.isPar q p = true) x (Nat.le_refl _) hx (fun q h => Or.inl ⟨p, hp, rfl, h⟩) (fun q h => h) (fun u h1 h2 => absurd h1 (by omega))⟩
