/-- people of both, themselves too: what is common -/
noncomputable def Kr.cm (K : Kr) (p o : Nat) : Int32 := (K.anc p ||| (1 <<< (nI p &&& 31))) &&& (K.anc o ||| (1 <<< (nI o &&& 31)))
/-- by how far up: the fewest up to the first i people; -1: none -/
noncomputable def Kr.nr (K : Kr) (p o : Nat) : Nat → Int32
  | 0 => -1
  | i + 1 => if bt (K.cm p o) i then (if K.nr p o i = -1 then nI (K.row p) + nI (K.row o) - 2 * nI (K.row i) else if K.nr p o i ≤ nI (K.row p) + nI (K.row o) - 2 * nI (K.row i) then K.nr p o i else nI (K.row p) + nI (K.row o) - 2 * nI (K.row i)) else K.nr p o i
theorem b_bit0 (x : Int32) {a : Nat} (ha : a < 32) : (x &&& (1 <<< (nI a &&& 31))) = 0 ↔ bt x a = false := by
  rw [b_and0]
  constructor
  · intro h
    cases e : bt x a
    · rfl
    · exact absurd ⟨e, by rw [b_one ha ha, decide_eq_true rfl]⟩ (h a ha)
  · intro h i hi hz
    rw [b_one ha hi, decide_eq_true_iff] at hz
    rw [hz.2, h] at hz
    exact absurd hz.1 (by decide)
theorem c_near_l {v : Mem} {K : Kr} (C : CS v K) (W : WF K) {p o : Nat} (hp : p < K.np) (ho : o < K.np) {post : Int32 → Prop} (k : post (K.nr p o K.np)) : ∀ d i : Nat, i + d = K.np → PX0_fewestLines_26 v post (d + 1) (nI p) (nI o) (K.cm p o) (K.nr p o i) (nI i) := by
  have hn := W.np20
  intro d
  induction d with
  | zero =>
    intro i hi
    unfold PX0_fewestLines_26 PX5_people
    rw [C.1.1, show i = K.np by omega]
    exact pc_t (nle' (Nat.le_refl _) (by omega)) k
  | succ d ih =>
    intro i hi
    have e := ih (i + 1) (by omega)
    have hd : K.nr p o (i + 1) = if bt (K.cm p o) i then (if K.nr p o i = -1 then nI (K.row p) + nI (K.row o) - 2 * nI (K.row i) else if K.nr p o i ≤ nI (K.row p) + nI (K.row o) - 2 * nI (K.row i) then K.nr p o i else nI (K.row p) + nI (K.row o) - 2 * nI (K.row i)) else K.nr p o i := rfl
    rw [hd] at e
    unfold PX0_fewestLines_26 PX5_people
    rw [C.1.1]
    refine pc_f (nle (by omega) (by omega)) ?_
    rw [nI_1]
    have hb := b_bit0 (K.cm p o) (show i < 32 by omega)
    cases g : bt (K.cm p o) i with
    | false =>
      rw [g] at e
      exact pc_t (hb.mpr g) (by simpa using e)
    | true =>
      rw [g, if_pos rfl] at e
      refine pc_f (fun z => by rw [hb.mp z] at g; cases g) (c_rowOf C W hp (c_rowOf C W ho (c_rowOf C W (show i < K.np by omega) fun q eq => ?_)))
      rw [← eq] at e
      by_cases h1 : K.nr p o i = -1
      · rw [if_pos h1] at e; exact pc_t h1 e
      · rw [if_neg h1] at e
        refine pc_f h1 ?_
        by_cases h2 : K.nr p o i ≤ q
        · rw [if_pos h2] at e; exact pc_t h2 e
        · rw [if_neg h2] at e; exact pc_f h2 e
theorem c_near {v : Mem} {K : Kr} (C : CS v K) (W : WF K) {p o : Nat} (hp : p < K.np) (ho : o < K.np) {post : Int32 → Prop} (k : post (K.nr p o K.np)) : PX0_fewestLines v (nI p) (nI o) post :=
  c_anc C W hp (c_anc C W ho fun q eq => by rw [eq]; exact ⟨_, c_near_l C W hp ho k K.np 0 (by omega)⟩)
