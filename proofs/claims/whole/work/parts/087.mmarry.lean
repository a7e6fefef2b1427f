theorem m_marry21 {w : Mem} {hs : Int64} {K : Kr} (M : MS (w 0) K) (W : WF K) {a b : Nat} (hab : a < b) (hb : b < K.np) {post : Int32 → Mem → Prop} (k0 : 0 < K.rs a b → ∀ w2, FR0 w w2 → MS (w2 0) K.ref → post (nI (K.rs a b)) w2) (k1 : K.rs a b = 0 → ∀ w2, FR0 w w2 → MS (w2 0) (K.addC a b) → post (nI (K.nc + 10)) w2) : PX8_marryNow_21 hs post w (nI a) (nI b) := by
  have hn := W.np20
  have hc := W.nc10
  have hle := rs_le K a b
  refine m_reason M W hab (by omega) hb ?_
  rw [ix1, ix2, M.1.2.1]
  by_cases h : K.rs a b = 0
  · obtain ⟨h1, h2, h3, h4, h5⟩ := rs_facts h
    refine pc_t (by rw [h]; decide) ?_
    rw [n43I, n2I, pk_mul, nI_add, ix_nI (show 43 + 2 * K.nc < 2 ^ 31 by omega)]
    refine ⟨in91 (n := 1) (by decide), in91 (by omega), fun w8 e8 => ?_⟩
    have z8 : w8 0 = upd (w 0) (43 + 2 * K.nc) (nI a) := by rw [e8, mset_a]
    have y8 : w8 0 1 = nI K.nc := by rw [z8, upd_o _ _ (by omega)]; exact M.1.2.1
    rw [y8, pk_mul, nI_add, nI_1, ix_nI (show 43 + 2 * K.nc + 1 < 2 ^ 31 by omega)]
    refine ⟨in91 (n := 1) (by decide), in91 (by omega), fun w11 e11 => ?_⟩
    have z11 : w11 0 = upd (upd (w 0) (43 + 2 * K.nc) (nI a)) (43 + 2 * K.nc + 1) (nI b) := by rw [e11, mset_a, z8]
    have y11 : w11 0 1 = nI K.nc := by rw [z11, upd_o _ _ (by omega), upd_o _ _ (by omega)]; exact M.1.2.1
    rw [y11, nI_1]
    refine ⟨in91 (n := 1) (by decide), in91 (n := 1) (by decide), fun w14 e14 => ?_⟩
    have z14 : w14 0 = upd (upd (upd (w 0) (43 + 2 * K.nc) (nI a)) (43 + 2 * K.nc + 1) (nI b)) 1 (nI (K.nc + 1)) := by rw [e14, mset_a, z11]
    have y14 : w14 0 1 = nI (K.nc + 1) := by rw [z14, upd_a]
    rw [y14, n9I, nI_add]
    refine ⟨in91 (n := 1) (by decide), k1 h w14 (fun j hj => by rw [e14, mset_o _ _ _ hj, e11, mset_o _ _ _ hj, e8, mset_o _ _ _ hj]) ?_⟩
    rw [z14]
    have g : ∀ i x, i ≠ 1 → i ≠ 43 + 2 * K.nc + 1 → i ≠ 43 + 2 * K.nc → w 0 i = x → upd (upd (upd (w 0) (43 + 2 * K.nc) (nI a)) (43 + 2 * K.nc + 1) (nI b)) 1 (nI (K.nc + 1)) i = x := fun i x a b c f => by
      rw [upd_o _ _ a, upd_o _ _ b, upd_o _ _ c]; exact f
    refine ⟨⟨g 0 _ (by omega) (by omega) (by omega) M.1.1, ?_, g 2 _ (by omega) (by omega) (by omega) M.1.2.2⟩, fun p hp => ?_, fun c hcc => ?_, fun r hr => ?_, fun r q hr hq => ?_⟩
    · rw [upd_a]; rfl
    · have hp2 : p < K.np := hp
      have m := M.2.1 p hp
      exact ⟨g _ _ (by omega) (by omega) (by omega) m.1, g _ _ (by omega) (by omega) (by omega) m.2⟩
    · show _ = nI (fup K.lo K.nc a c) ∧ _ = nI (fup K.hi K.nc b c)
      rcases Nat.lt_succ_iff_lt_or_eq.mp (show c < K.nc + 1 from hcc) with q | rfl
      · rw [fup_o _ _ (by omega), fup_o _ _ (by omega)]
        have m := M.2.2.1 c q
        exact ⟨g _ _ (by omega) (by omega) (by omega) m.1, g _ _ (by omega) (by omega) (by omega) m.2⟩
      · rw [fup_a, fup_a]
        constructor
        · rw [upd_o _ _ (by omega), upd_o _ _ (by omega), upd_a]
        · rw [show 44 + 2 * K.nc = 43 + 2 * K.nc + 1 by omega, upd_o _ _ (by omega), upd_a]
    · exact g _ _ (by omega) (by omega) (by omega) (M.2.2.2.1 r hr)
    · have h6 := W.sz6 hr
      have hq2 : q < K.sz r := hq
      exact g _ _ (by omega) (by omega) (by omega) (M.2.2.2.2 r q hr hq)
  · refine pc_f (nI_nle (by omega) (by omega)) ⟨in91 (n := 2) (by decide), in91 (n := 2) (by decide), fun w18 e18 => k0 (by omega) w18 (fun j hj => by rw [e18, mset_o _ _ _ hj]) ?_⟩
    rw [e18, mset_a]; exact MS_ref M
theorem m_marryNow {w : Mem} {hs : Int64} {K : Kr} (M : MS (w 0) K) (W : WF K) {a b : Nat} (hab : a ≠ b) (ha : a < K.np) (hb : b < K.np) {post : Int32 → Mem → Prop} (k0 : 0 < K.rs a b → ∀ w2, FR0 w w2 → MS (w2 0) K.ref → post (nI (K.rs a b)) w2) (k1 : K.rs a b = 0 → ∀ w2, FR0 w w2 → MS (w2 0) (K.addC (min a b) (max a b)) → post (nI (K.nc + 10)) w2) : PX8_marryNow w hs (nI a) (nI b) post := by
  have hn := W.np20
  unfold PX8_marryNow PX8_marryNow_10
  rcases Nat.lt_or_ge a b with h | h
  · rw [Nat.min_eq_left (show a ≤ b by omega), Nat.max_eq_right (show a ≤ b by omega)] at k1
    exact pc_f (nle h (by omega)) (pc_f (nle h (by omega)) (m_marry21 M W h hb k0 k1))
  · rw [Nat.min_eq_right h, Nat.max_eq_left h] at k1
    rw [rs_comm] at k0 k1
    exact pc_t (nle' h (by omega)) (pc_t (nle' h (by omega)) (m_marry21 M W (by omega) ha k0 k1))
