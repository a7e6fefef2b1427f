theorem dl_lt (s c : Nat) : dl s c < 9 := by
  unfold dl dl0
  repeat' split
  all_goals decide
/-- the text of the class -/
def TX (tx : Mem) (n : Nat) (c : Nat → Nat) : Prop := tx 1 0 = nI n ∧ n ≤ 60 ∧ ∀ i, i < n → tx 0 i = nI (c i) ∧ c i < 200
/-- the state behind the first i signs -/
def ds (c : Nat → Nat) : Nat → Nat
  | 0 => 0
  | i + 1 => dl (ds c i) (c i)
theorem ds_lt (c : Nat → Nat) : ∀ i, ds c i < 9
  | 0 => (by decide : 0 < 9)
  | i + 1 => dl_lt _ _
theorem c_firstBad_l {tx : Mem} {n : Nat} {c : Nat → Nat} (T : TX tx n c) {post : Int32 → Prop} (k : ∀ r, r ≤ n → (∀ i, i ≤ r → ds c i ≠ 8) → (r < n → ds c (r + 1) = 8) → post (nI r)) : ∀ d i : Nat, i + d = n → (∀ j, j ≤ i → ds c j ≠ 8) → PX6_firstBad_4 tx post (d + 1) (nI (ds c i)) (nI i) := by
  obtain ⟨t1, t2, t3⟩ := T
  intro d
  induction d with
  | zero =>
    intro i hi hg
    unfold PX6_firstBad_4
    rw [t1]
    exact pc_t (nle' (by omega) (by omega)) (k n (Nat.le_refl _) (fun j hj => hg j (by omega)) (fun h => absurd h (by omega)))
  | succ d ih =>
    intro i hi hg
    have h3 := t3 i (by omega)
    unfold PX6_firstBad_4
    rw [t1, ix_nI (by omega), h3.1]
    refine pc_f (nle (by omega) (by omega)) ⟨in_nI (by omega) (by omega), c_behind h3.2 _ (ds_lt c i) ?_⟩
    show (¬ nI (ds c (i + 1)) = 8 → _) ∧ (nI (ds c (i + 1)) = 8 → _)
    have hl := ds_lt c (i + 1)
    by_cases h : ds c (i + 1) = 8
    · exact pd_t (by rw [h]; rfl) (k i (by omega) hg (fun _ => h))
    · rw [n8I, nI_1 i]
      refine pd_f (nne (by omega) (by omega) h) (ih (i + 1) (by omega) fun j hj => ?_)
      rcases Nat.lt_or_ge i j with g | g
      · rw [show j = i + 1 by omega]; exact h
      · exact hg j g
theorem c_firstBad {tx : Mem} {n : Nat} {c : Nat → Nat} (T : TX tx n c) {post : Int32 → Prop} (k : ∀ r, r ≤ n → (∀ i, i ≤ r → ds c i ≠ 8) → (r < n → ds c (r + 1) = 8) → post (nI r)) : PX6_firstBad tx post := ⟨_, c_firstBad_l T k n 0 (by omega) (fun j hj => by rw [show j = 0 by omega]; exact (by decide : (0 : Nat) ≠ 8))⟩
theorem c_isWhole_l {tx : Mem} {n : Nat} {c : Nat → Nat} (T : TX tx n c) {post : Int32 → Prop} (k1 : (ds c n = 1 ∨ ds c n = 6) → post 1) (k0 : ¬ (ds c n = 1 ∨ ds c n = 6) → post 0) : ∀ d i : Nat, i + d = n → PX6_isWhole_4 tx post (d + 1) (nI (ds c i)) (nI i) := by
  obtain ⟨t1, t2, t3⟩ := T
  intro d
  induction d with
  | zero =>
    intro i hi
    have hl := ds_lt c i
    unfold PX6_isWhole_4
    rw [t1, n1I, n6I]
    refine pc_t (nle' (by omega) (by omega)) ?_
    rw [show n = i by omega] at k1 k0
    by_cases h1 : ds c i = 1
    · exact pc_t (by rw [h1]) (k1 (Or.inl h1))
    · refine pc_f (nne (by omega) (by omega) h1) ?_
      by_cases h2 : ds c i = 6
      · exact pd_t (by rw [h2]) (k1 (Or.inr h2))
      · exact pd_f (nne (by omega) (by omega) h2) (k0 (fun h => h.elim h1 h2))
  | succ d ih =>
    intro i hi
    have h3 := t3 i (by omega)
    have e := ih (i + 1) (by omega)
    unfold PX6_isWhole_4
    rw [t1, ix_nI (by omega), h3.1]
    refine pc_f (nle (by omega) (by omega)) ⟨in_nI (by omega) (by omega), c_behind h3.2 _ (ds_lt c i) ?_⟩
    rw [nI_1 i]; exact e
theorem c_isWhole {tx : Mem} {n : Nat} {c : Nat → Nat} (T : TX tx n c) {post : Int32 → Prop} (k1 : (ds c n = 1 ∨ ds c n = 6) → post 1) (k0 : ¬ (ds c n = 1 ∨ ds c n = 6) → post 0) : PX6_isWhole tx post := ⟨_, c_isWhole_l T k1 k0 n 0 (by omega)⟩
