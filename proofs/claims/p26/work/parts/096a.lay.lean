/-! a row laid anew, person by person -/
def LIv (v0 v : Mem) (r : Nat) (o : Nat → Nat) (i : Nat) : Prop := (∀ j, j ≠ 5 → j ≠ 1 → v j = v0 j) ∧ (∀ q, v 5 q = if 6 * r ≤ q ∧ q < 6 * r + i then nI (o (q - 6 * r)) else v0 5 q) ∧ (∀ k, k < i → v 1 (o k) = nI k) ∧ ∀ p, (∀ k, k < i → o k ≠ p) → v 1 p = v0 1 p
theorem LIv_0 (v : Mem) (r : Nat) (o : Nat → Nat) : LIv v v r o 0 := ⟨fun _ _ _ => rfl, fun q => by rw [if_neg (by omega)], fun k h => absurd h (by omega), fun _ _ => rfl⟩
theorem LIv_s {v0 v : Mem} {r : Nat} {o : Nat → Nat} {i n : Nat} (h : LIv v0 v r o i) (hi : i < n) (inj : ∀ a b, a < n → b < n → o a = o b → a = b) : LIv v0 (mset (mset v 5 (6 * r + i) (nI (o i))) 1 (o i) (nI i)) r o (i + 1) := by
  obtain ⟨h1, h2, h3, h4⟩ := h
  refine ⟨fun j a b => ?_, fun q => ?_, fun k hk => ?_, fun p hp => ?_⟩
  · rw [mset_o _ _ _ b, mset_o _ _ _ a]; exact h1 j a b
  · rw [mset_o _ _ _ (by decide), mset_a]
    by_cases e : q = 6 * r + i
    · subst e; rw [upd_a, if_pos (by omega), show 6 * r + i - 6 * r = i by omega]
    · rw [upd_o _ _ e, h2 q]
      by_cases g : 6 * r ≤ q ∧ q < 6 * r + i
      · rw [if_pos g, if_pos (by omega)]
      · rw [if_neg g, if_neg (by omega)]
  · rw [mset_a]
    by_cases e : k = i
    · subst e; rw [upd_a]
    · rw [upd_o _ _ (fun q => e (inj k i (by omega) hi q)), mset_o _ _ _ (by decide)]; exact h3 k (by omega)
  · rw [mset_a, upd_o _ _ (fun q => hp i (by omega) q.symm), mset_o _ _ _ (by decide)]; exact h4 p fun k hk => hp k (by omega)
theorem CS_laid {v0 v : Mem} {K : Kr} (C : CS v0 K) (W : WF K) {r : Nat} (hr : r < 4) {o : Nat → Nat} (hO : isO K r o) (h : LIv v0 v r o (K.sz r)) : CS v (K.setO r o) := by
  obtain ⟨h1, h2, h3, h4⟩ := h
  have h6 := W.sz6 hr
  refine ⟨⟨?_, ?_, ?_⟩, fun p hp => ?_, fun c hc => ?_, fun r' hr' => ?_, fun r' i hr' hi => ?_⟩
  · rw [h1 7 (by decide) (by decide)]; exact C.1.1
  · rw [h1 8 (by decide) (by decide)]; exact C.1.2.1
  · rw [h1 9 (by decide) (by decide)]; exact C.1.2.2
  · rw [h1 0 (by decide) (by decide), h1 2 (by decide) (by decide)]
    have c4 := C.2.1 p hp
    refine ⟨c4.1, ?_, c4.2.2⟩
    by_cases e : K.row p = r
    · obtain ⟨k, hk, rfl⟩ := hO.2.2 p hp e
      rw [setO_plo W hO hr hk]; exact h3 k hk
    · rw [setO_pl e, h4 p fun k hk q => e (by rw [← q]; exact (hO.1 k hk).2)]; exact c4.2.1
  · rw [h1 3 (by decide) (by decide), h1 4 (by decide) (by decide)]; exact C.2.2.1 c hc
  · rw [h1 6 (by decide) (by decide)]; exact C.2.2.2.1 r' hr'
  · have hi' : i < K.sz r' := hi
    have h6' := W.sz6 hr'
    rw [h2]
    show _ = nI (fup K.od r o r' i)
    by_cases e : r' = r
    · subst e; rw [fup_a, if_pos (by omega), show 6 * r' + i - 6 * r' = i by omega]
    · rw [fup_o _ _ e, if_neg (by omega)]; exact C.2.2.2.2 r' i hr' hi'
theorem MS_laid {f g : Nat → Int32} {K : Kr} (M : MS f K) (W : WF K) {r : Nat} (hr : r < 4) {o : Nat → Nat} (h1 : ∀ i, (i < 67 + 6 * r ∨ 67 + 6 * r + 6 ≤ i) → g i = f i) (h2 : ∀ k, k < K.sz r → g (67 + 6 * r + k) = nI (o k)) : MS g (K.setO r o) := by
  have hn := W.np20
  have hc := W.nc10
  refine ⟨⟨by rw [h1 0 (by omega)]; exact M.1.1, by rw [h1 1 (by omega)]; exact M.1.2.1, by rw [h1 2 (by omega)]; exact M.1.2.2⟩, fun p hp => ?_, fun c hcc => ?_, fun r' hr' => by rw [h1 _ (by omega)]; exact M.2.2.2.1 r' hr', fun r' i hr' hi => ?_⟩
  · have hp2 : p < K.np := hp
    rw [h1 _ (by omega), h1 _ (by omega)]; exact M.2.1 p hp
  · have hc2 : c < K.nc := hcc
    rw [h1 _ (by omega), h1 _ (by omega)]; exact M.2.2.1 c hcc
  · have hi' : i < K.sz r' := hi
    have h6' := W.sz6 hr'
    show _ = nI (fup K.od r o r' i)
    by_cases e : r' = r
    · subst e; rw [fup_a]; exact h2 i hi'
    · rw [fup_o _ _ e, h1 _ (by omega)]; exact M.2.2.2.2 r' i hr' hi'
theorem LIv_7 {v0 v : Mem} {K : Kr} (C : CS v0 K) {r : Nat} (hr : r < 4) {o : Nat → Nat} {i : Nat} (h : LIv v0 v r o i) : v 7 0 = nI K.np ∧ v 6 r = nI (K.sz r) := by
  rw [h.1 7 (by decide) (by decide), h.1 6 (by decide) (by decide)]; exact ⟨C.1.1, C.2.2.2.1 r hr⟩
theorem c_layBest_l {x v0 : Mem} {K : Kr} (C : CS v0 K) (W : WF K) {r : Nat} (hr : r < 4) {o : Nat → Nat} (hO : isO K r o) (h10 : x 10 0 = nI (K.sz r)) (h1 : ∀ k, k < K.sz r → x 1 k = nI (o k)) {post : Mem → Prop} (k : ∀ v2, CS v2 (K.setO r o) → post v2) : ∀ (d i : Nat) (v : Mem), i + d = K.sz r → LIv v0 v r o i → PX3_layBest_2 x post (d + 1) v (nI r) (nI i) := by
  have h6 := W.sz6 hr
  intro d
  induction d with
  | zero =>
    intro i v hi hl
    unfold PX3_layBest_2
    rw [h10]
    refine pc_t (nle' (by omega) (by omega)) (k v (CS_laid C W hr hO ?_))
    rw [show K.sz r = i by omega]; exact hl
  | succ d ih =>
    intro i v hi hl
    obtain ⟨l7, l6⟩ := LIv_7 C hr hl
    unfold PX3_layBest_2
    rw [h10, ix_nI (by omega), h1 i (by omega), nI_1]
    exact pc_f (nle (by omega) (by omega)) ⟨in_nI (by omega) (by omega), c_lay l7 l6 hr (by omega) h6 (hO.1 i (by omega)).1 W.np20 (ih (i + 1) _ (by omega) (LIv_s hl (n := K.sz r) (by omega) hO.2.1))⟩
theorem c_layBest {x v : Mem} {K : Kr} (C : CS v K) (W : WF K) {r : Nat} (hr : r < 4) {o : Nat → Nat} (hO : isO K r o) (h10 : x 10 0 = nI (K.sz r)) (h1 : ∀ k, k < K.sz r → x 1 k = nI (o k)) {post : Mem → Prop} (k : ∀ v2, CS v2 (K.setO r o) → post v2) : PX3_layBest x v (nI r) post :=
  ⟨_, c_layBest_l C W hr hO h10 h1 k (K.sz r) 0 v (by omega) (LIv_0 _ _ _)⟩
theorem c_layAll_l {op v0 : Mem} {K : Kr} (C : CS v0 K) (W : WF K) {r : Nat} (hr : r < 4) {o : Nat → Nat} (hO : isO K r o) (h1 : ∀ k, k < K.sz r → op 1 k = nI (o k)) {x4 : Int32} {post : Int32 → Mem → Mem → Prop} (k : ∀ v2, CS v2 (K.setO r o) → post x4 op v2) : ∀ (d i : Nat) (v : Mem), i + d = K.sz r → LIv v0 v r o i → PX1_lay_114 post (d + 1) op v (nI r) (nI (K.sz r)) x4 (nI i) := by
  have h6 := W.sz6 hr
  intro d
  induction d with
  | zero =>
    intro i v hi hl
    unfold PX1_lay_114
    refine pc_t (nle' (by omega) (by omega)) (k v (CS_laid C W hr hO ?_))
    rw [show K.sz r = i by omega]; exact hl
  | succ d ih =>
    intro i v hi hl
    obtain ⟨l7, l6⟩ := LIv_7 C hr hl
    unfold PX1_lay_114
    rw [ix_nI (by omega), h1 i (by omega), nI_1]
    exact pc_f (nle (by omega) (by omega)) ⟨in_nI (by omega) (by omega), c_lay l7 l6 hr (by omega) h6 (hO.1 i (by omega)).1 W.np20 (ih (i + 1) _ (by omega) (LIv_s hl (n := K.sz r) (by omega) hO.2.1))⟩
