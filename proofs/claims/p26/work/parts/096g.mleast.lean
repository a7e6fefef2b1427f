/-! the other one's least crossings: all orders, one behind the other -/
theorem m_sub1 : ∀ n, n ≤ 6 → 0 < n → nI n - 1 = nI (n - 1) ∧ nI n - 2 = nI (n - 1) - 1 := by decide +kernel
theorem m_neg (t : Nat) : nI t + (-1) = nI t - 1 := by
  cases t with
  | zero => decide
  | succ t => rw [pk_m1, nI_pred]
theorem m_m1 : (nI 0 - 1 : Int32) = -1 := by decide
/-- s rises on the first n -/
def RI (s : Nat → Nat) (n : Nat) : Prop := ∀ a b, a < n → b < n → (s a < s b ↔ a < b)
theorem ri_le {s : Nat → Nat} {n a b : Nat} (h : RI s n) (ha : a < n) (hb : b < n) : s a ≤ s b ↔ a ≤ b := by
  have := h b a hb ha
  omega
/-- rows 0, 6 to 8, 10, 11 may change -/
def FRL (w w2 : Mem) : Prop := ∀ j, j ≠ 0 → j ≠ 6 → j ≠ 7 → j ≠ 8 → j ≠ 11 → w2 j = w j
theorem FRL.rf (w : Mem) : FRL w w := fun _ _ _ _ _ _ => rfl
theorem FRL.tr {a b c : Mem} (h : FRL a b) (g : FRL b c) : FRL a c := fun j x y z t u => (g j x y z t u).trans (h j x y z t u)
theorem FR.tol {a b : Mem} (h : FR a b) : FRL a b := fun j _ x y z _ => h j x y z
theorem FR0.tol {a b : Mem} (h : FR0 a b) : FRL a b := fun j x _ _ _ _ => h j x
def acI : Option (Nat × List Nat) → Int32
  | none => -1
  | some q => nI q.1
def acM (w : Mem) (s : Nat → Nat) (n : Nat) : Option (Nat × List Nat) → Prop
  | none => True
  | some q => q.1 ≤ 72 ∧ ∀ k, k < n → w 11 k = nI (OL s q.2 k)
theorem nxL_none {n : Nat} {l : List Nat} (h : nxL n l = none) : lf (lq l) (n - 1) = 0 := by
  unfold nxL at h
  by_cases g : lf (lq l) (n - 1) = 0
  · exact g
  · rw [if_neg g] at h; cases h
theorem nxL_some {n : Nat} {l l2 : List Nat} (h : nxL n l = some l2) : lf (lq l) (n - 1) ≠ 0 ∧ ∀ k, k < n → nxq n (lq l) k = lq l2 k := by
  unfold nxL at h
  by_cases g : lf (lq l) (n - 1) = 0
  · rw [if_pos g] at h; cases h
  · rw [if_neg g] at h
    have e := Option.some.inj h
    exact ⟨g, fun k hk => by rw [← e, lq_map _ hk]⟩
theorem isO_cg {K : Kr} {r : Nat} {o o2 : Nat → Nat} (h : isO K r o) (e : ∀ k, k < K.sz r → o k = o2 k) : isO K r o2 := by
  refine ⟨fun k hk => by rw [← e k hk]; exact h.1 k hk, fun i j hi hj x => ?_, fun p hp x => ?_⟩
  · rw [← e i hi, ← e j hj] at x; exact h.2.1 i j hi hj x
  · obtain ⟨k, hk, y⟩ := h.2.2 p hp x
    exact ⟨k, hk, by rw [← e k hk]; exact y⟩
