/-! the fewest lines between two people -/
theorem m_isPerson {w : Mem} {hs : Int64} {K : Kr} (M : MS (w 0) K) (W : WF K) {p : Nat} (hp : p < 2 ^ 31) {post : Int32 → Prop} (k1 : p < K.np → post 1) (k0 : K.np ≤ p → post 0) : PX8_isPerson w hs (nI p) post := by
  have hn := W.np20
  unfold PX8_isPerson
  rw [ix0, M.1.1]
  refine ⟨in91 (n := 0) (by decide), ?_⟩
  rcases Nat.eq_zero_or_pos K.np with e | e
  · rw [e]
    refine pc_f (nI_lt0 hp) (pc_t ?_ ⟨Or.inl rfl, k0 (by omega)⟩)
    have h : (nI 0 - 1 : Int32) = -1 := by decide
    rw [h]
    rcases Nat.eq_zero_or_pos p with e2 | e2
    · rw [e2]; decide
    · have := nI_pos' hp
      have h2 : (-1 : Int32) < 0 := by decide
      exact Int32.lt_of_lt_of_le h2 this
  · obtain ⟨n, hn2⟩ : ∃ n, K.np = n + 1 := ⟨K.np - 1, by omega⟩
    rw [hn2, nI_pred, n0I]
    exact m_in hp (by omega) (by omega) (fun _ h => ⟨Or.inr rfl, k1 (by omega)⟩) (fun h => ⟨Or.inl rfl, k0 (by omega)⟩)
theorem m_isCouple {w : Mem} {hs : Int64} {K : Kr} (M : MS (w 0) K) (W : WF K) {p : Nat} (hp : p < 2 ^ 31) {post : Int32 → Prop} (k1 : p < K.nc → post 1) (k0 : K.nc ≤ p → post 0) : PX8_isCouple w hs (nI p) post := by
  have hn := W.nc10
  unfold PX8_isCouple
  rw [ix1, M.1.2.1]
  refine ⟨in91 (n := 1) (by decide), ?_⟩
  rcases Nat.eq_zero_or_pos K.nc with e | e
  · rw [e]
    refine pc_f (nI_lt0 hp) (pc_t ?_ ⟨Or.inl rfl, k0 (by omega)⟩)
    have h : (nI 0 - 1 : Int32) = -1 := by decide
    rw [h]
    exact Int32.lt_of_lt_of_le (by decide) (nI_pos' hp)
  · obtain ⟨n, hn2⟩ : ∃ n, K.nc = n + 1 := ⟨K.nc - 1, by omega⟩
    rw [hn2, nI_pred, n0I]
    exact m_in hp (by omega) (by omega) (fun _ h => ⟨Or.inr rfl, k1 (by omega)⟩) (fun h => ⟨Or.inl rfl, k0 (by omega)⟩)
theorem m_isPersonN {w : Mem} {hs : Int64} {x : Int32} (hx : x < 0) {post : Int32 → Prop} (k0 : post 0) : PX8_isPerson w hs x post := ⟨in91 (n := 0) (by decide), pc_t hx ⟨Or.inl rfl, k0⟩⟩
theorem m_isCoupleN {w : Mem} {hs : Int64} {x : Int32} (hx : x < 0) {post : Int32 → Prop} (k0 : post 0) : PX8_isCouple w hs x post := ⟨in91 (n := 1) (by decide), pc_t hx ⟨Or.inl rfl, k0⟩⟩
/-- people of both, themselves too: what is common -/
noncomputable def Kr.cm (K : Kr) (p o : Nat) : Int32 := (K.anc p ||| (1 <<< (nI p &&& 31))) &&& (K.anc o ||| (1 <<< (nI o &&& 31)))
/-- by how far up: the fewest up to the first i people; -1: none -/
noncomputable def Kr.nr (K : Kr) (p o : Nat) : Nat → Int32
  | 0 => -1
  | i + 1 => if bt (K.cm p o) i then (if K.nr p o i = -1 then nI (K.row p) + nI (K.row o) - 2 * nI (K.row i) else if K.nr p o i ≤ nI (K.row p) + nI (K.row o) - 2 * nI (K.row i) then K.nr p o i else nI (K.row p) + nI (K.row o) - 2 * nI (K.row i)) else K.nr p o i
theorem b_bit0 (x : Int32) {a : Nat} (ha : a < 32) : (x &&& (1 <<< (nI a &&& 31))) = 0 ↔ bt x a = false := by
  rw [b_and0]
  constructor
  · intro h
    cases e : bt x a
    · rfl
    · exact absurd ⟨e, by rw [b_one ha ha, decide_eq_true rfl]⟩ (h a ha)
  · intro h i hi hz
    rw [b_one ha hi, decide_eq_true_iff] at hz
    rw [hz.2, h] at hz
    exact absurd hz.1 (by decide)
theorem c_near_l {v : Mem} {K : Kr} (C : CS v K) (W : WF K) {p o : Nat} (hp : p < K.np) (ho : o < K.np) {post : Int32 → Prop} (k : post (K.nr p o K.np)) : ∀ d i : Nat, i + d = K.np → PX0_fewestLines_26 v post (d + 1) (nI p) (nI o) (K.cm p o) (K.nr p o i) (nI i) := by
  have hn := W.np20
  intro d
  induction d with
  | zero =>
    intro i hi
    unfold PX0_fewestLines_26 PX5_people
    rw [C.1.1, show i = K.np by omega]
    exact pc_t (nle' (Nat.le_refl _) (by omega)) k
  | succ d ih =>
    intro i hi
    have e := ih (i + 1) (by omega)
    have hd : K.nr p o (i + 1) = if bt (K.cm p o) i then (if K.nr p o i = -1 then nI (K.row p) + nI (K.row o) - 2 * nI (K.row i) else if K.nr p o i ≤ nI (K.row p) + nI (K.row o) - 2 * nI (K.row i) then K.nr p o i else nI (K.row p) + nI (K.row o) - 2 * nI (K.row i)) else K.nr p o i := rfl
    rw [hd] at e
    unfold PX0_fewestLines_26 PX5_people
    rw [C.1.1]
    refine pc_f (nle (by omega) (by omega)) ?_
    rw [nI_1]
    have hb := b_bit0 (K.cm p o) (show i < 32 by omega)
    cases g : bt (K.cm p o) i with
    | false =>
      rw [g] at e
      exact pc_t (hb.mpr g) (by simpa using e)
    | true =>
      rw [g, if_pos rfl] at e
      refine pc_f (fun z => by rw [hb.mp z] at g; cases g) (c_rowOf C W hp (c_rowOf C W ho (c_rowOf C W (show i < K.np by omega) fun q eq => ?_)))
      rw [← eq] at e
      by_cases h1 : K.nr p o i = -1
      · rw [if_pos h1] at e; exact pc_t h1 e
      · rw [if_neg h1] at e
        refine pc_f h1 ?_
        by_cases h2 : K.nr p o i ≤ q
        · rw [if_pos h2] at e; exact pc_t h2 e
        · rw [if_neg h2] at e; exact pc_f h2 e
theorem c_near {v : Mem} {K : Kr} (C : CS v K) (W : WF K) {p o : Nat} (hp : p < K.np) (ho : o < K.np) {post : Int32 → Prop} (k : post (K.nr p o K.np)) : PX0_fewestLines v (nI p) (nI o) post :=
  c_anc C W hp (c_anc C W ho fun q eq => by rw [eq]; exact ⟨_, c_near_l C W hp ho k K.np 0 (by omega)⟩)
theorem m_near_l {w : Mem} {hs : Int64} {K : Kr} (M : MS (w 0) K) (W : WF K) {p o : Nat} (hp : p < K.np) (ho : o < K.np) {post : Int32 → Prop} (k : post (K.nr p o K.np)) : ∀ d i : Nat, i + d = K.np → PX8_near_26 w hs post (d + 1) (nI p) (nI o) (K.cm p o) (K.nr p o i) (nI i) := by
  have hn := W.np20
  intro d
  induction d with
  | zero =>
    intro i hi
    unfold PX8_near_26
    rw [ix0, M.1.1, show i = K.np by omega]
    exact ⟨in91 (n := 0) (by decide), pc_t (nle' (Nat.le_refl _) (by omega)) k⟩
  | succ d ih =>
    intro i hi
    have e := ih (i + 1) (by omega)
    have hd : K.nr p o (i + 1) = if bt (K.cm p o) i then (if K.nr p o i = -1 then nI (K.row p) + nI (K.row o) - 2 * nI (K.row i) else if K.nr p o i ≤ nI (K.row p) + nI (K.row o) - 2 * nI (K.row i) then K.nr p o i else nI (K.row p) + nI (K.row o) - 2 * nI (K.row i)) else K.nr p o i := rfl
    rw [hd] at e
    unfold PX8_near_26
    rw [ix0, M.1.1]
    refine ⟨in91 (n := 0) (by decide), pc_f (nle (by omega) (by omega)) (m_rowOf M W hp (m_rowOf M W ho (m_rowOf M W (show i < K.np by omega) fun q eq => ?_)))⟩
    rw [← eq] at e
    rw [nI_1, b_shr1 _ (show i < 32 by omega)]
    cases g : bt (K.cm p o) i with
    | false =>
      rw [g] at e
      exact pd_f (by decide) (by simpa using e)
    | true =>
      rw [g, if_pos rfl] at e
      refine pd_t rfl ?_
      by_cases h1 : K.nr p o i = -1
      · rw [if_pos h1] at e; exact pc_t h1 e
      · rw [if_neg h1] at e
        refine pc_f h1 ?_
        by_cases h2 : K.nr p o i ≤ q
        · rw [if_pos h2] at e; exact pc_t h2 e
        · rw [if_neg h2] at e; exact pc_f h2 e
theorem m_near {w : Mem} {hs : Int64} {K : Kr} (M : MS (w 0) K) (W : WF K) {p o : Nat} (hp : p < K.np) (ho : o < K.np) {post : Int32 → Prop} (k : post (K.nr p o K.np)) : PX8_near w hs (nI p) (nI o) post :=
  m_anc M W hp (m_anc M W ho fun q eq => by rw [eq]; exact ⟨_, m_near_l M W hp ho k K.np 0 (by omega)⟩)
