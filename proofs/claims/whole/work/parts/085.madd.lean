/-- all of the memory of the other one, but its row of numbers, the drawn lines -/
def FR0 (w w2 : Mem) : Prop := ∀ j, j ≠ 0 → w2 j = w j
theorem MS_ref {f : Nat → Int32} {K : Kr} (M : MS f K) : MS (upd f 2 (f 2 + 1)) K.ref := by
  obtain ⟨⟨m1, m2, m3⟩, m4, m5, m6, m7⟩ := M
  refine ⟨⟨?_, ?_, ?_⟩, fun p hp => ?_, fun c hc => ?_, fun r hr => ?_, fun r k hr hk => ?_⟩
  · rw [upd_o _ _ (by decide)]; exact m1
  · rw [upd_o _ _ (by decide)]; exact m2
  · rw [upd_a, m3]; rfl
  · rw [upd_o _ _ (by omega), upd_o _ _ (by omega)]; exact m4 p hp
  · rw [upd_o _ _ (by omega), upd_o _ _ (by omega)]; exact m5 c hc
  · rw [upd_o _ _ (by omega)]; exact m6 r hr
  · rw [upd_o _ _ (by omega)]; exact m7 r k hr hk
theorem ix2 : ix 2 = 2 := rfl
theorem m_personNow {w : Mem} {hs : Int64} {K : Kr} (M : MS (w 0) K) (W : WF K) {r : Nat} (hr : r < 4) {o : Option Nat} {post : Int32 → Mem → Prop} (k0 : (6 ≤ K.sz r ∨ 20 ≤ K.np) → ∀ w2, FR0 w w2 → MS (w2 0) K.ref → post (-1) w2) (k1 : K.sz r < 6 → K.np < 20 → ∀ w2, FR0 w w2 → MS (w2 0) (K.addP r o) → post (nI K.np) w2) : PX8_personNow w hs (nI r) (pI o) post := by
  have hn := W.np20
  have hc10 := W.nc10
  have h6 := W.sz6 hr
  have rf : (6 ≤ K.sz r ∨ 20 ≤ K.np) → PX8_personNow_25 hs post w := fun h => by
    unfold PX8_personNow_25
    rw [ix2]
    refine ⟨in91 (n := 2) (by decide), in91 (n := 2) (by decide), fun w5 e5 => k0 h w5 (fun j hj => by rw [e5, mset_o _ _ _ hj]) ?_⟩
    rw [e5, mset_a]; exact MS_ref M
  unfold PX8_personNow
  rw [n63I, nI_add, ix_nI (show 63 + r < 2 ^ 31 by omega), ix0, M.2.2.2.1 r hr, M.1.1, n6I, n20I]
  refine ⟨in91 (by omega), ?_⟩
  by_cases hs6 : K.sz r = 6
  · exact pc_t (by rw [hs6]) (rf (Or.inl (by omega)))
  · refine pc_f (nne (by omega) (by omega) hs6) ⟨in91 (n := 0) (by decide), ?_⟩
    by_cases hp : K.np = 20
    · exact pd_t (by rw [hp]) (rf (Or.inr (by omega)))
    · refine pd_f (nne (by omega) (by omega) hp) ⟨in91 (n := 0) (by decide), fun q9 e9 => ?_⟩
      subst e9
      rw [n3I, n2I, pk_mul, nI_add, nI_1, ix_nI (show 3 + 2 * K.np < 2 ^ 31 by omega), ix_nI (show 3 + 2 * K.np + 1 < 2 ^ 31 by omega)]
      refine ⟨in91 (by omega), fun w11 e11 => ⟨in91 (by omega), fun w13 e13 => ?_⟩⟩
      have s13 : w13 0 = upd (upd (w 0) (3 + 2 * K.np) (nI r)) (3 + 2 * K.np + 1) (pI o) := by rw [e13, mset_a, e11, mset_a]
      have z13 : w13 0 (63 + r) = nI (K.sz r) := by rw [s13, upd_o _ _ (by omega), upd_o _ _ (by omega)]; exact M.2.2.2.1 r hr
      rw [z13, n67I, pk_mul, nI_add, nI_add, ix_nI (show 67 + 6 * r + K.sz r < 2 ^ 31 by omega)]
      refine ⟨in91 (by omega), in91 (by omega), fun w16 e16 => ?_⟩
      have s16 : w16 0 = upd (w13 0) (67 + 6 * r + K.sz r) (nI K.np) := by rw [e16, mset_a]
      have z16 : w16 0 (63 + r) = nI (K.sz r) := by rw [s16, upd_o _ _ (by omega)]; exact z13
      rw [z16, nI_1]
      refine ⟨in91 (by omega), in91 (by omega), fun w19 e19 => ?_⟩
      have s19 : w19 0 = upd (w16 0) (63 + r) (nI (K.sz r + 1)) := by rw [e19, mset_a]
      have z19 : w19 0 0 = nI K.np := by rw [s19, upd_o _ _ (by omega), s16, upd_o _ _ (by omega), s13, upd_o _ _ (by omega), upd_o _ _ (by omega)]; exact M.1.1
      rw [z19, nI_1]
      refine ⟨in91 (n := 0) (by decide), in91 (n := 0) (by decide), fun w22 e22 => k1 (by omega) (by omega) w22 (fun j hj => ?_) ?_⟩
      · rw [e22, mset_o _ _ _ hj, e19, mset_o _ _ _ hj, e16, mset_o _ _ _ hj, e13, mset_o _ _ _ hj, e11, mset_o _ _ _ hj]
      · have s22 : w22 0 = upd (upd (upd (upd (upd (w 0) (3 + 2 * K.np) (nI r)) (3 + 2 * K.np + 1) (pI o)) (67 + 6 * r + K.sz r) (nI K.np)) (63 + r) (nI (K.sz r + 1))) 0 (nI (K.np + 1)) := by rw [e22, mset_a, s19, s16, s13]
        rw [s22]
        have g : ∀ i x, i ≠ 0 → i ≠ 63 + r → i ≠ 67 + 6 * r + K.sz r → i ≠ 3 + 2 * K.np + 1 → i ≠ 3 + 2 * K.np → w 0 i = x → upd (upd (upd (upd (upd (w 0) (3 + 2 * K.np) (nI r)) (3 + 2 * K.np + 1) (pI o)) (67 + 6 * r + K.sz r) (nI K.np)) (63 + r) (nI (K.sz r + 1))) 0 (nI (K.np + 1)) i = x := fun i x a b c d e f => by
          rw [upd_o _ _ a, upd_o _ _ b, upd_o _ _ c, upd_o _ _ d, upd_o _ _ e]; exact f
        refine ⟨⟨?_, g 1 _ (by omega) (by omega) (by omega) (by omega) (by omega) M.1.2.1, g 2 _ (by omega) (by omega) (by omega) (by omega) (by omega) M.1.2.2⟩, fun p hp2 => ?_, fun c hc => ?_, fun r' hr' => ?_, fun r' q hr' hq => ?_⟩
        · rw [upd_a]; rfl
        · rcases Nat.lt_succ_iff_lt_or_eq.mp (show p < K.np + 1 from hp2) with h | rfl
          · have m := M.2.1 p h
            constructor
            · refine g _ _ (by omega) (by omega) (by omega) (by omega) (by omega) ?_
              show _ = nI (fup K.row K.np r p); rw [fup_o _ _ (by omega)]; exact m.1
            · refine g _ _ (by omega) (by omega) (by omega) (by omega) (by omega) ?_
              show _ = pI (fup K.par K.np o p); rw [fup_o _ _ (by omega)]; exact m.2
          · constructor
            · rw [upd_o _ _ (by omega), upd_o _ _ (by omega), upd_o _ _ (by omega), upd_o _ _ (by omega), upd_a]
              show _ = nI (fup K.row K.np r K.np); rw [fup_a]
            · rw [show 4 + 2 * K.np = 3 + 2 * K.np + 1 by omega, upd_o _ _ (by omega), upd_o _ _ (by omega), upd_o _ _ (by omega), upd_a]
              show _ = pI (fup K.par K.np o K.np); rw [fup_a]
        · have hc2 : c < K.nc := hc
          have m := M.2.2.1 c hc
          exact ⟨g _ _ (by omega) (by omega) (by omega) (by omega) (by omega) m.1, g _ _ (by omega) (by omega) (by omega) (by omega) (by omega) m.2⟩
        · show _ = nI (fup K.sz r (K.sz r + 1) r')
          by_cases e : r' = r
          · subst e; rw [fup_a, upd_o _ _ (by omega), upd_a]
          · rw [fup_o _ _ e]; exact g _ _ (by omega) (by omega) (by omega) (by omega) (by omega) (M.2.2.2.1 r' hr')
        · have hq' : q < fup K.sz r (K.sz r + 1) r' := hq
          show _ = nI (fup K.od r (fup (K.od r) (K.sz r) K.np) r' q)
          by_cases e : r' = r
          · subst e
            rw [fup_a] at hq' ⊢
            by_cases e2 : q = K.sz r'
            · subst e2; rw [fup_a, upd_o _ _ (by omega), upd_o _ _ (by omega), upd_a]
            · rw [fup_o _ _ e2]
              exact g _ _ (by omega) (by omega) (by omega) (by omega) (by omega) (M.2.2.2.2 r' q hr' (by omega))
          · rw [fup_o _ _ e] at hq' ⊢
            have := W.sz6 hr'
            exact g _ _ (by omega) (by omega) (by omega) (by omega) (by omega) (M.2.2.2.2 r' q hr' hq')
