def fup {α : Type} (f : Nat → α) (i : Nat) (x : α) : Nat → α := fun j => if j = i then x else f j
theorem fup_a {α : Type} (f : Nat → α) (i : Nat) (x : α) : fup f i x i = x := if_pos rfl
theorem fup_o {α : Type} (f : Nat → α) {i j : Nat} (x : α) (h : j ≠ i) : fup f i x j = f j := if_neg h
/-- one more person, behind all of the row -/
def Kr.addP (K : Kr) (r : Nat) (o : Option Nat) : Kr := (K.np + 1, K.nc, K.rf, fup K.row K.np r, fup K.par K.np o, K.lo, K.hi, fup K.sz r (K.sz r + 1), fup K.od r (fup (K.od r) (K.sz r) K.np))
def Kr.ref (K : Kr) : Kr := (K.np, K.nc, K.rf + 1, K.row, K.par, K.lo, K.hi, K.sz, K.od)
theorem ref_wf {K : Kr} (W : WF K) : WF K.ref := W
theorem addP_wf {K : Kr} (W : WF K) {r : Nat} {o : Option Nat} (hr : r < 4) (hs : K.sz r < 6) (hn : K.np < 20) (ho : ∀ c, o = some c → c < K.nc ∧ r = K.row (K.lo c) + 1) : WF (K.addP r o) := by
  have e1 : (K.addP r o).np = K.np + 1 := rfl
  have e2 : (K.addP r o).nc = K.nc := rfl
  have e4 : (K.addP r o).row = fup K.row K.np r := rfl
  have e5 : (K.addP r o).par = fup K.par K.np o := rfl
  have e6 : (K.addP r o).lo = K.lo := rfl
  have e7 : (K.addP r o).hi = K.hi := rfl
  have e8 : (K.addP r o).sz = fup K.sz r (K.sz r + 1) := rfl
  have e9 : (K.addP r o).od = fup K.od r (fup (K.od r) (K.sz r) K.np) := rfl
  have old : ∀ p, p < K.np → fup K.row K.np r p = K.row p := fun p hp => fup_o _ _ (by omega)
  have odo : ∀ r' k, k < K.sz r' → fup K.od r (fup (K.od r) (K.sz r) K.np) r' k = K.od r' k := fun r' k hk => by
    by_cases e : r' = r
    · subst e; rw [fup_a, fup_o _ _ (by omega)]
    · rw [fup_o _ _ e]
  have szo : ∀ r', K.sz r' ≤ fup K.sz r (K.sz r + 1) r' := fun r' => by
    by_cases e : r' = r
    · subst e; rw [fup_a]; omega
    · rw [fup_o _ _ e]; exact Nat.le_refl _
  have cas : ∀ r' k, k < fup K.sz r (K.sz r + 1) r' → k < K.sz r' ∨ r' = r ∧ k = K.sz r := fun r' k h => by
    by_cases e : r' = r
    · subst e; rw [fup_a] at h; omega
    · rw [fup_o _ _ e] at h; exact Or.inl h
  have new : fup K.od r (fup (K.od r) (K.sz r) K.np) r (K.sz r) = K.np := by rw [fup_a, fup_a]
  unfold WF
  rw [e1, e2, e4, e5, e6, e7, e8, e9]
  refine ⟨⟨by omega, W.nc10, fun r' h => ?_⟩, fun p hp => ?_, fun r' k h hk => ?_, fun r' h i j hi hj he => ?_, fun p c hp hc => ?_, fun c hc => ?_, W.2.2.2.2.2.2⟩
  · have := W.sz6 h
    by_cases e : r' = r
    · subst e; rw [fup_a]; omega
    · rw [fup_o _ _ e]; exact this
  · rcases Nat.lt_succ_iff_lt_or_eq.mp hp with h | rfl
    · obtain ⟨h1, k, h2, h3⟩ := W.2.1 p h
      rw [old p h]
      exact ⟨h1, k, Nat.lt_of_lt_of_le h2 (szo _), by rw [odo _ _ h2]; exact h3⟩
    · rw [fup_a]
      exact ⟨hr, K.sz r, by rw [fup_a]; omega, new⟩
  · rcases cas r' k hk with h1 | ⟨rfl, rfl⟩
    · rw [odo _ _ h1]
      have h2 := W.od_lt h h1
      rw [old _ h2]
      exact ⟨by omega, W.od_row h h1⟩
    · rw [new, fup_a]; exact ⟨by omega, rfl⟩
  · rcases cas r' i hi with h1 | ⟨rfl, rfl⟩
    · rcases cas r' j hj with h2 | ⟨rfl, rfl⟩
      · rw [odo _ _ h1, odo _ _ h2] at he
        exact W.2.2.2.1 r' h i j h1 h2 he
      · rw [odo _ _ h1, new] at he
        have := W.od_lt h h1; omega
    · rcases cas r' j hj with h2 | ⟨-, rfl⟩
      · rw [odo _ _ h2, new] at he
        have := W.od_lt h h2; omega
      · rfl
  · rcases Nat.lt_succ_iff_lt_or_eq.mp hp with h | rfl
    · rw [fup_o _ _ (by omega)] at hc
      have h1 := W.par_c h hc
      have h2 := W.lo_np h1
      rw [old p h, old _ h2]
      exact ⟨h1, W.par_row h hc, W.par_hi h hc⟩
    · rw [fup_a] at hc
      obtain ⟨h1, h2⟩ := ho c hc
      rw [fup_a, old _ (W.lo_np h1)]
      exact ⟨h1, h2, W.hi_np h1⟩
  · have h1 := W.lo_np hc
    have h2 := W.hi_np hc
    rw [old _ h1, old _ h2]
    exact ⟨W.lo_hi hc, by omega, W.row_eq hc, W.row3 hc⟩
theorem addP_pl {K : Kr} (W : WF K) {r : Nat} {o : Option Nat} (hr : r < 4) (hs : K.sz r < 6) (W2 : WF (K.addP r o)) : (∀ p, p < K.np → (K.addP r o).pl p = K.pl p) ∧ (K.addP r o).pl K.np = K.sz r := by
  have e8 : (K.addP r o).sz = fup K.sz r (K.sz r + 1) := rfl
  have e9 : (K.addP r o).od = fup K.od r (fup (K.od r) (K.sz r) K.np) := rfl
  constructor
  · intro p hp
    obtain ⟨h1, h2⟩ := W.pl_sz hp
    have h3 := W.row4 hp
    have h4 : K.pl p < (K.addP r o).sz (K.row p) := by
      rw [e8]
      by_cases e : K.row p = r
      · rw [e, fup_a]; rw [e] at h1; omega
      · rw [fup_o _ _ e]; exact h1
    have h5 := W2.pl_od h3 h4
    have h6 : (K.addP r o).od (K.row p) (K.pl p) = p := by
      rw [e9]
      by_cases e : K.row p = r
      · rw [e] at h1 h2 ⊢; rw [fup_a, fup_o _ _ (by omega)]; exact h2
      · rw [fup_o _ _ e]; exact h2
    rw [h6] at h5; exact h5
  · have h4 : K.sz r < (K.addP r o).sz r := by rw [e8, fup_a]; omega
    have h5 := W2.pl_od hr h4
    rw [e9, fup_a, fup_a] at h5
    exact h5
theorem CS_ref {v : Mem} {K : Kr} (C : CS v K) : CS (mset v 9 0 (v 9 0 + 1)) K.ref := by
  obtain ⟨⟨c1, c2, c3⟩, c4, c5, c6, c7⟩ := C
  refine ⟨⟨?_, ?_, ?_⟩, fun p hp => ?_, fun c hc => ?_, fun r hr => ?_, fun r k hr hk => ?_⟩
  · rw [mset_o _ _ _ (by decide)]; exact c1
  · rw [mset_o _ _ _ (by decide)]; exact c2
  · rw [mset_a, upd_a, c3]; rfl
  · rw [mset_o _ _ _ (by decide), mset_o _ _ _ (by decide), mset_o _ _ _ (by decide)]; exact c4 p hp
  · rw [mset_o _ _ _ (by decide), mset_o _ _ _ (by decide)]; exact c5 c hc
  · rw [mset_o _ _ _ (by decide)]; exact c6 r hr
  · rw [mset_o _ _ _ (by decide)]; exact c7 r k hr hk
theorem c_addPerson {v : Mem} {K : Kr} (C : CS v K) (W : WF K) {r : Nat} (hr : r < 4) {o : Option Nat} (ho : ∀ c, o = some c → c < K.nc ∧ r = K.row (K.lo c) + 1) {post : Int32 → Mem → Prop} (k0 : (6 ≤ K.sz r ∨ 20 ≤ K.np) → ∀ v2, CS v2 K.ref → post (-1) v2) (k1 : K.sz r < 6 → K.np < 20 → ∀ v2, CS v2 (K.addP r o) → post (nI K.np) v2) : PX5_addPerson v (nI r) (pI o) post := by
  have hn := W.np20
  have h6 := W.sz6 hr
  refine c_sizeOf C hr (pc_f (nI_lt0 (by omega)) ?_)
  rw [n4I, n6I, n20I, C.1.1]
  refine pc_f (nle (by omega) (by omega)) ?_
  have rf : (6 ≤ K.sz r ∨ 20 ≤ K.np) → PX5_addPerson_30 post v := fun h v4 e4 => k0 h v4 (by rw [e4]; exact CS_ref C)
  by_cases hs : K.sz r < 6
  · refine pc_f (nle hs (by omega)) ?_
    by_cases hp : K.np < 20
    · refine pc_t (nI_lt hp (by omega)) fun q8 e8 v9 e9 => ?_
      subst e8
      refine ⟨in_nI hr (by omega), in_nI hr (by omega), ?_⟩
      rw [ix_nI (show r < 2 ^ 31 by omega), ix_nI (show K.np < 2 ^ 31 by omega)]
      intro v12 e12
      refine ⟨in_nI (by omega) (by omega), fun v14 e14 => ⟨in_nI (by omega) (by omega), fun v16 e16 => ?_⟩⟩
      have s7 : v16 7 0 = nI (K.np + 1) := by rw [e16, mset_o _ _ _ (by decide), e14, mset_o _ _ _ (by decide), e12, mset_o _ _ _ (by decide), e9, mset_a, upd_a, nI_1]
      have s6 : v16 6 = upd (v 6) r (nI (K.sz r + 1)) := by rw [e16, mset_o _ _ _ (by decide), e14, mset_o _ _ _ (by decide), e12, mset_a, e9, mset_o _ _ _ (by decide), C.2.2.2.1 r hr, nI_1]
      unfold PX5_lay PX5_isPerson PX5_sizeOf
      rw [s7, s6]
      refine pc_f (nI_lt0 (by omega)) (pc_f (nle (by omega) (by omega)) (pc_f i10 (pc_f (nI_lt0 (by omega)) (pc_f (nI_lt0 (by omega)) ?_))))
      rw [n4I]
      refine pc_f (nle (by omega) (by omega)) ⟨in_nI hr (by omega), ?_⟩
      rw [ix_nI (show r < 2 ^ 31 by omega), upd_a, n6I, pk_mul, nI_add, ix_nI (show r * 6 + K.sz r < 2 ^ 31 by omega), ix_nI (show K.np < 2 ^ 31 by omega)]
      refine pc_f (nle (by omega) (by omega)) ⟨in_nI (by omega) (by omega), fun w9 g9 => ⟨in_nI (by omega) (by omega), fun w11 g11 => k1 hs hp w11 ?_⟩⟩
      have W2 := addP_wf W (o := o) hr hs hp ho
      obtain ⟨pl1, pl2⟩ := addP_pl W (o := o) hr hs W2
      have row : ∀ j, j ≠ 5 → j ≠ 1 → w11 j = v16 j := fun j a b => by rw [g11, mset_o _ _ _ b, g9, mset_o _ _ _ a]
      have r1 : w11 1 = upd (v 1) K.np (nI (K.sz r)) := by rw [g11, mset_a, g9, mset_o _ _ _ (by decide), e16, mset_o _ _ _ (by decide), e14, mset_o _ _ _ (by decide), e12, mset_o _ _ _ (by decide), e9, mset_o _ _ _ (by decide)]
      have r5 : w11 5 = upd (v 5) (r * 6 + K.sz r) (nI K.np) := by rw [g11, mset_o _ _ _ (by decide), g9, mset_a, e16, mset_o _ _ _ (by decide), e14, mset_o _ _ _ (by decide), e12, mset_o _ _ _ (by decide), e9, mset_o _ _ _ (by decide)]
      have r0 : w11 0 = upd (v 0) K.np (nI r) := by rw [row 0 (by decide) (by decide), e16, mset_o _ _ _ (by decide), e14, mset_a, e12, mset_o _ _ _ (by decide), e9, mset_o _ _ _ (by decide)]
      have r2 : w11 2 = upd (v 2) K.np (pI o) := by rw [row 2 (by decide) (by decide), e16, mset_a, e14, mset_o _ _ _ (by decide), e12, mset_o _ _ _ (by decide), e9, mset_o _ _ _ (by decide)]
      have rr : ∀ j, j = 3 ∨ j = 4 ∨ j = 8 ∨ j = 9 → w11 j = v j := fun j hj => by
        rw [row j (by omega) (by omega), e16, mset_o _ _ _ (by omega), e14, mset_o _ _ _ (by omega), e12, mset_o _ _ _ (by omega), e9, mset_o _ _ _ (by omega)]
      refine ⟨⟨?_, ?_, ?_⟩, fun p hp2 => ?_, fun c hc => ?_, fun r' hr' => ?_, fun r' q hr' hq => ?_⟩
      · rw [row 7 (by decide) (by decide), s7]; rfl
      · rw [rr 8 (by decide)]; exact C.1.2.1
      · rw [rr 9 (by decide)]; exact C.1.2.2
      · rw [r0, r1, r2]
        rcases Nat.lt_succ_iff_lt_or_eq.mp (show p < K.np + 1 from hp2) with h | rfl
        · have hne : p ≠ K.np := by omega
          rw [upd_o _ _ hne, upd_o _ _ hne, upd_o _ _ hne, pl1 p h]
          have c4 := C.2.1 p h
          refine ⟨?_, c4.2.1, ?_⟩
          · show _ = nI (fup K.row K.np r p); rw [fup_o _ _ hne]; exact c4.1
          · show _ = pI (fup K.par K.np o p); rw [fup_o _ _ hne]; exact c4.2.2
        · rw [upd_a, upd_a, upd_a, pl2]
          refine ⟨?_, rfl, ?_⟩
          · show _ = nI (fup K.row K.np r K.np); rw [fup_a]
          · show _ = pI (fup K.par K.np o K.np); rw [fup_a]
      · rw [rr 3 (by decide), rr 4 (by decide)]; exact C.2.2.1 c hc
      · rw [row 6 (by decide) (by decide), s6]
        show _ = nI (fup K.sz r (K.sz r + 1) r')
        by_cases e : r' = r
        · subst e; rw [upd_a, fup_a]
        · rw [upd_o _ _ e, fup_o _ _ e]; exact C.2.2.2.1 r' hr'
      · have hq' : q < fup K.sz r (K.sz r + 1) r' := hq
        rw [r5]
        show _ = nI (fup K.od r (fup (K.od r) (K.sz r) K.np) r' q)
        by_cases e : r' = r
        · subst e
          rw [fup_a] at hq' ⊢
          by_cases e2 : q = K.sz r'
          · subst e2; rw [fup_a, show 6 * r' + K.sz r' = r' * 6 + K.sz r' by omega, upd_a]
          · rw [fup_o _ _ e2, upd_o _ _ (by omega)]; exact C.2.2.2.2 r' q hr' (by omega)
        · rw [fup_o _ _ e] at hq' ⊢
          have := W.sz6 hr'
          rw [upd_o _ _ (by omega)]; exact C.2.2.2.2 r' q hr' hq'
    · exact pc_f (nI_nlt (by omega) (by omega)) (rf (Or.inr (by omega)))
  · exact pc_t (nle' (by omega) (by omega)) (rf (Or.inl (by omega)))
