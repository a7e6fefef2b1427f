/-- the row of numbers copied from another one, by a loop over 91 -/
theorem m_undo_l {hs : Int64} {w0 : Mem} {n : Nat} (hn : n < 6) (h2 : w0 2 0 = nI n) {post : Int32 → Mem → Prop} (k : ∀ w, (∀ j, j ≠ 0 → w j = w0 j) → (∀ q, q < 91 → w 0 q = w0 1 (91 * n + q)) → post (nI n) w) : ∀ (d i : Nat) (w : Mem), i + d = 91 → (∀ j, j ≠ 0 → w j = w0 j) → (∀ q, q < i → w 0 q = w0 1 (91 * n + q)) → PX8_undo_30 hs post (d + 1) w (nI i) := by
  intro d
  induction d with
  | zero =>
    intro i w hi hf h1
    have i91 : i = 91 := by omega
    subst i91
    unfold PX8_undo_30
    rw [hf 2 (by decide), h2]
    exact pc_t (by decide) (k w hf h1)
  | succ d ih =>
    intro i w hi hf h1
    unfold PX8_undo_30
    rw [hf 2 (by decide), h2, n91I, pk_mul, nI_add, ix_nI (show 91 * n + i < 2 ^ 31 by omega), ix_nI (show i < 2 ^ 31 by omega), nI_1 i, hf 1 (by decide)]
    refine pc_f (nle (by omega) (by omega)) ⟨in_nI (by omega) (by omega), in91 (by omega), fun w6 e6 => ih (i + 1) w6 (by omega) (fun j a => by rw [e6, mset_o _ _ _ a]; exact hf j a) fun q hq => ?_⟩
    rw [e6, mset_a]
    by_cases e : q = i
    · subst e; rw [upd_a]
    · rw [upd_o _ _ e]; exact h1 q (by omega)
theorem m_goBack_l {hs : Int64} {w0 : Mem} {s : Nat} (hs2 : s < 2) {post : Int32 → Mem → Prop} (k : ∀ w, (∀ j, j ≠ 0 → w j = w0 j) → (∀ q, q < 91 → w 0 q = w0 3 (91 * s + q)) → post (w0 3 (91 * s)) w) : ∀ (d i : Nat) (w : Mem), i + d = 91 → (∀ j, j ≠ 0 → w j = w0 j) → (∀ q, q < i → w 0 q = w0 3 (91 * s + q)) → PX8_goBack_41 hs post (d + 1) w (nI s) (nI i) := by
  intro d
  induction d with
  | zero =>
    intro i w hi hf h1
    have i91 : i = 91 := by omega
    subst i91
    unfold PX8_goBack_41
    rw [ix0, h1 0 (by omega)]
    exact pc_t (by decide) ⟨in91 (n := 0) (by decide), k w hf h1⟩
  | succ d ih =>
    intro i w hi hf h1
    unfold PX8_goBack_41
    rw [n91I, pk_mul, nI_add, ix_nI (show 91 * s + i < 2 ^ 31 by omega), ix_nI (show i < 2 ^ 31 by omega), nI_1 i, hf 3 (by decide)]
    refine pc_f (nle (by omega) (by omega)) ⟨in_nI (by omega) (by omega), in91 (by omega), fun w6 e6 => ih (i + 1) w6 (by omega) (fun j a => by rw [e6, mset_o _ _ _ a]; exact hf j a) fun q hq => ?_⟩
    rw [e6, mset_a]
    by_cases e : q = i
    · subst e; rw [upd_a]
    · rw [upd_o _ _ e]; exact h1 q (by omega)
theorem m_keep_l {hs : Int64} {w0 : Mem} {s : Nat} (hs2 : s < 2) {post : Int32 → Mem → Prop} (k : ∀ w, (∀ j, j ≠ 3 → j ≠ 4 → w j = w0 j) → w 4 = upd (w0 4) s 1 → (∀ q, w 3 q = if 91 * s ≤ q ∧ q < 91 * s + 91 then w0 0 (q - 91 * s) else w0 3 q) → post (w0 0 0) w) : ∀ (d i : Nat) (w : Mem), i + d = 91 → (∀ j, j ≠ 3 → w j = w0 j) → (∀ q, w 3 q = if 91 * s ≤ q ∧ q < 91 * s + i then w0 0 (q - 91 * s) else w0 3 q) → PX8_keep_22 hs post (d + 1) w (nI s) (nI i) := by
  intro d
  induction d with
  | zero =>
    intro i w hi hf h1
    have i91 : i = 91 := by omega
    subst i91
    unfold PX8_keep_22
    rw [ix_nI (show s < 2 ^ 31 by omega)]
    refine pc_t (by decide) ⟨in_nI (by omega) (by omega), fun w7 e7 => ⟨in91 (n := 0) (by decide), ?_⟩⟩
    have z : w7 0 (ix 0) = w0 0 0 := by rw [ix0, e7, mset_o _ _ _ (by decide), hf 0 (by decide)]
    rw [z]
    exact k w7 (fun j a b => by rw [e7, mset_o _ _ _ b]; exact hf j a) (by rw [e7, mset_a, hf 4 (by decide)]) (fun q => by rw [e7, mset_o _ _ _ (by decide)]; exact h1 q)
  | succ d ih =>
    intro i w hi hf h1
    unfold PX8_keep_22
    rw [n91I, pk_mul, nI_add, ix_nI (show 91 * s + i < 2 ^ 31 by omega), ix_nI (show i < 2 ^ 31 by omega), nI_1 i, hf 0 (by decide)]
    refine pc_f (nle (by omega) (by omega)) ⟨in91 (by omega), in_nI (by omega) (by omega), fun w6 e6 => ih (i + 1) w6 (by omega) (fun j a => by rw [e6, mset_o _ _ _ a]; exact hf j a) fun q => ?_⟩
    rw [e6, mset_a]
    by_cases e : q = 91 * s + i
    · subst e
      rw [upd_a, if_pos (by omega), show 91 * s + i - 91 * s = i by omega]
    · rw [upd_o _ _ e, h1 q]
      by_cases g : 91 * s ≤ q ∧ q < 91 * s + i
      · rw [if_pos g, if_pos (by omega)]
      · rw [if_neg g, if_neg (by omega)]
