theorem MS_cg {f g : Nat → Int32} {K : Kr} (W : WF K) (M : MS f K) (h : ∀ i, i < 91 → g i = f i) : MS g K := by
  have hn := W.np20
  have hc := W.nc10
  refine ⟨⟨by rw [h 0 (by omega)]; exact M.1.1, by rw [h 1 (by omega)]; exact M.1.2.1, by rw [h 2 (by omega)]; exact M.1.2.2⟩, fun p hp => ?_, fun c hcc => ?_, fun r hr => ?_, fun r q hr hq => ?_⟩
  · rw [h _ (by omega), h _ (by omega)]; exact M.2.1 p hp
  · rw [h _ (by omega), h _ (by omega)]; exact M.2.2.1 c hcc
  · rw [h _ (by omega)]; exact M.2.2.2.1 r hr
  · have := W.sz6 hr
    rw [h _ (by omega)]; exact M.2.2.2.2 r q hr hq
/-- the saved states of the other one -/
def SV (w : Mem) (n : Nat) (S : Nat → Kr) : Prop := n ≤ 6 ∧ w 2 0 = nI n ∧ ∀ i, i < n → MS (fun k => w 1 (91 * i + k)) (S i) ∧ WF (S i)
theorem m_save_cp {hs : Int64} {w0 : Mem} {n : Nat} (hn : n < 6) (h2 : w0 2 0 = nI n) {post : Mem → Prop} (k : ∀ w, (∀ j, j ≠ 1 → j ≠ 2 → w j = w0 j) → w 2 0 = nI (n + 1) → (∀ i, w 1 i = if 91 * n ≤ i ∧ i < 91 * n + 91 then w0 0 (i - 91 * n) else w0 1 i) → post w) : ∀ (d i : Nat) (w : Mem), i + d = 91 → (∀ j, j ≠ 1 → w j = w0 j) → (∀ q, w 1 q = if 91 * n ≤ q ∧ q < 91 * n + i then w0 0 (q - 91 * n) else w0 1 q) → PX8_save_51 hs post (d + 1) w (nI i) := by
  intro d
  induction d with
  | zero =>
    intro i w hi hf h1
    have i91 : i = 91 := by omega
    subst i91
    unfold PX8_save_51
    refine pc_t (by decide) fun w3 e3 => k w3 (fun j a b => by rw [e3, mset_o _ _ _ b]; exact hf j a) ?_ (fun q => by rw [e3, mset_o _ _ _ (by decide)]; exact h1 q)
    rw [e3, mset_a, upd_a, hf 2 (by decide), h2, nI_1]
  | succ d ih =>
    intro i w hi hf h1
    unfold PX8_save_51
    rw [hf 2 (by decide), h2, n91I, pk_mul, nI_add, ix_nI (show 91 * n + i < 2 ^ 31 by omega), ix_nI (show i < 2 ^ 31 by omega), hf 0 (by decide), nI_1 i]
    refine pc_f (nle (by omega) (by omega)) ⟨in91 (by omega), in_nI (by omega) (by omega), fun w6 e6 => ih (i + 1) w6 (by omega) (fun j a => by rw [e6, mset_o _ _ _ a]; exact hf j a) fun q => ?_⟩
    rw [e6, mset_a]
    by_cases e : q = 91 * n + i
    · subst e
      rw [upd_a, if_pos (by omega), show 91 * n + i - 91 * n = i by omega]
    · rw [upd_o _ _ e, h1 q]
      by_cases g : 91 * n ≤ q ∧ q < 91 * n + i
      · rw [if_pos g, if_pos (by omega)]
      · rw [if_neg g, if_neg (by omega)]
theorem m_save_sh {hs : Int64} {w0 : Mem} (h2 : w0 2 0 = nI 6) {post : Mem → Prop} (k : ∀ w, (∀ j, j ≠ 1 → j ≠ 2 → w j = w0 j) → w 2 0 = nI 6 → (∀ i, w 1 i = if 455 ≤ i ∧ i < 546 then w0 0 (i - 455) else if i < 455 then w0 1 (i + 91) else w0 1 i) → post w) : ∀ (d i : Nat) (w : Mem), i + d = 455 → (∀ j, j ≠ 1 → w j = w0 j) → (∀ q, w 1 q = if q < i then w0 1 (q + 91) else w0 1 q) → PX8_save_11 hs post (d + 1) w (nI i) := by
  intro d
  induction d with
  | zero =>
    intro i w hi hf h1
    have i91 : i = 455 := by omega
    subst i91
    unfold PX8_save_11
    refine pc_t (by decide) fun w9 e9 => ?_
    have z2 : w9 2 0 = nI 5 := by rw [e9, mset_a, upd_a, hf 2 (by decide), h2]; rfl
    refine ⟨_, m_save_cp (w0 := w9) (n := 5) (by decide) z2 (fun w g1 g2 g3 => k w (fun j a b => ?_) g2 fun i => ?_) 91 0 w9 (by omega) (fun _ _ => rfl) (fun q => by rw [if_neg (by omega)])⟩
    · rw [g1 j a b, e9, mset_o _ _ _ b]; exact hf j a
    · rw [g3 i]
      have z0 : w9 0 = w0 0 := by rw [e9, mset_o _ _ _ (by decide)]; exact hf 0 (by decide)
      have z1 : w9 1 = w 1 ∨ True := Or.inr trivial
      rw [z0]
      have zz : ∀ q, w9 1 q = if q < 455 then w0 1 (q + 91) else w0 1 q := fun q => by
        rw [e9, mset_o _ _ _ (by decide)]; exact h1 q
      rw [zz i]
  | succ d ih =>
    intro i w hi hf h1
    unfold PX8_save_11
    have n455 : (455 : Int32) = nI 455 := rfl
    rw [n455, n91I, nI_add, ix_nI (show i + 91 < 2 ^ 31 by omega), ix_nI (show i < 2 ^ 31 by omega), nI_1 i]
    refine pc_f (nle (by omega) (by omega)) ⟨in_nI (by omega) (by omega), in_nI (by omega) (by omega), fun w13 e13 => ih (i + 1) w13 (by omega) (fun j a => by rw [e13, mset_o _ _ _ a]; exact hf j a) fun q => ?_⟩
    rw [e13, mset_a]
    by_cases e : q = i
    · subst e
      rw [upd_a, if_pos (by omega), h1, if_neg (by omega)]
    · rw [upd_o _ _ e, h1 q]
      by_cases g : q < i
      · rw [if_pos g, if_pos (by omega)]
      · rw [if_neg g, if_neg (by omega)]
/-- all but the saved states stays -/
def FRS (w w2 : Mem) : Prop := ∀ j, j ≠ 1 → j ≠ 2 → w2 j = w j
theorem m_save {w : Mem} {hs : Int64} {n : Nat} {S : Nat → Kr} {K : Kr} (V : SV w n S) (M : MS (w 0) K) (W : WF K) {post : Mem → Prop} (k : ∀ w2, FRS w w2 → SV w2 (if n < 6 then n + 1 else 6) (psh n S K) → post w2) : PX8_save w hs post := by
  obtain ⟨hn, h2, hV⟩ := V
  unfold PX8_save
  rw [h2, n6I]
  by_cases h : n < 6
  · refine pd_f (nne (by omega) (by omega) (by omega)) ⟨_, m_save_cp h h2 (fun w2 f g2 g1 => k w2 f ?_) 91 0 w (by omega) (fun _ _ => rfl) (fun q => by rw [if_neg (by omega)])⟩
    rw [if_pos h]
    refine ⟨by omega, g2, fun i hi => ?_⟩
    unfold psh
    rw [if_pos h]
    rcases Nat.lt_succ_iff_lt_or_eq.mp hi with g | rfl
    · rw [fup_o _ _ (by omega)]
      refine ⟨MS_cg (hV i g).2 (hV i g).1 fun q hq => ?_, (hV i g).2⟩
      show w2 1 (91 * i + q) = _
      rw [g1, if_neg (by omega)]
    · rw [fup_a]
      refine ⟨MS_cg W M fun q hq => ?_, W⟩
      show w2 1 (91 * i + q) = _
      rw [g1, if_pos (by omega), show 91 * i + q - 91 * i = q by omega]
  · have hn6 : n = 6 := by omega
    subst hn6
    refine pd_t rfl ⟨_, m_save_sh h2 (fun w2 f g2 g1 => k w2 f ?_) 455 0 w (by omega) (fun _ _ => rfl) (fun q => by rw [if_neg (by omega)])⟩
    rw [if_neg h]
    refine ⟨by omega, g2, fun i hi => ?_⟩
    unfold psh
    rw [if_neg h]
    by_cases g : i = 5
    · subst g
      rw [fup_a]
      refine ⟨MS_cg W M fun q hq => ?_, W⟩
      show w2 1 (91 * 5 + q) = _
      rw [g1, if_pos (by omega), show 91 * 5 + q - 455 = q by omega]
    · rw [fup_o _ _ g]
      have v := hV (i + 1) (by omega)
      refine ⟨MS_cg v.2 v.1 fun q hq => ?_, v.2⟩
      show w2 1 (91 * i + q) = w 1 (91 * (i + 1) + q)
      rw [g1, if_neg (by omega), if_pos (by omega), show 91 * i + q + 91 = 91 * (i + 1) + q by omega]
