/-! one call on both -/
def lkO : Option Nat → Nat
  | none => 99
  | some m => m
def Kr.lk (K : Kr) (r k : Nat) : Nat := lkO (K.up (K.od r k))
theorem lk_lt (K : Kr) (r a b : Nat) : K.lk r a < K.lk r b ↔ K.ky (K.od r a) < K.ky (K.od r b) := by
  unfold Kr.lk Kr.ky
  cases ea : K.up (K.od r a) with
  | none =>
    cases eb : K.up (K.od r b) with
    | none => exact ⟨fun h => absurd h (Nat.lt_irrefl _), fun h => absurd h (Nat.lt_irrefl _)⟩
    | some m =>
      have := up11 K eb
      show 99 < m ↔ 1000 < m
      omega
  | some n =>
    have hn := up11 K ea
    cases eb : K.up (K.od r b) with
    | none =>
      show n < 99 ↔ n < 1000
      omega
    | some m => exact Iff.rfl
theorem lk_le (K : Kr) (r a : Nat) : K.lk r a ≤ 99 := by
  unfold Kr.lk
  cases ea : K.up (K.od r a) with
  | none => exact Nat.le_refl _
  | some n =>
    have hn := up11 K ea
    show n ≤ 99
    omega
/-- the next one so far -/
def nxI (K : Kr) (r t i : Nat) (nx ky : Int32) : Prop := ((∀ j, j < i → K.to r j < t) ∧ nx = -1) ∨ ∃ j, j < i ∧ ¬ K.to r j < t ∧ nx = nI j ∧ ky = nI (K.lk r j) ∧ ∀ j2, j2 < i → ¬ K.to r j2 < t → K.ck r j ≤ K.ck r j2
theorem a_by_in {kc v b y o x ap ac aq an ar : Mem} {rr : Nat → Mem} {K : Kr} (P : rP ap K) (C : rC ac K) (Q : rQ aq K) (N : rN an K) (W : WF K) {r t : Nat} (hr : r < 4) (ht : t < K.sz r) {mv dn : Int32} (hd : ∀ i, i < K.sz r → (bt dn i = true ↔ K.to r i < t)) {post : Int32 → Mem → Mem → (Nat → Mem) → Mem → Mem → Mem → Mem → Mem → Mem → Mem → Prop} {K383 : Mem → Mem → (Nat → Mem) → Mem → Mem → Mem → Mem → Mem → Mem → Mem → Mem → Int32 → Int32 → Int32 → Int32 → Prop} (k : ∀ ar2 dn2 mv2, ar2 = mset ar 0 (6 * r + t) (nI (K.bp r t)) → dn2 = dn ||| (1 <<< (nI (K.inv r t) &&& 31)) → mv2 = mv + (if K.inv r t = t then 0 else 1) → K383 v b rr y o x ap ac aq an ar2 (nI r) mv2 dn2 (nI (t + 1))) : ∀ (d i : Nat) (nx ky : Int32), i + d = K.sz r → nxI K r t i nx ky → PL_acts_404 kc post K383 (d + 1) v b rr y o x ap ac aq an ar (nI r) mv dn (nI t) nx ky (nI i) := by
  have h6 := W.sz6 hr
  have hn := W.np20
  intro d
  induction d with
  | zero =>
    intro i nx ky hi h
    have ei : i = K.sz r := by omega
    subst ei
    have hv := to_inv W hr ht
    rcases h with ⟨h, -⟩ | ⟨j, h1, h2, h3, -, h5⟩
    · have := h _ hv.1; omega
    · have hj : j = K.inv r t := by
        have a := h5 _ hv.1 (by omega)
        rcases Nat.lt_or_ge (K.ck r j) (K.ck r (K.inv r t)) with g | g
        · have := to_mono K r h1 g; omega
        · exact ck_ne K (r := r) (by omega) (by omega) (by omega)
      rw [hj] at h3
      unfold PL_acts_404
      rw [e3, ix_nI (show 3 + r < 2 ^ 31 by omega), N.2 r hr, h3, e6, e6, ix_nI (show 6 * r + K.inv r t < 2 ^ 31 by omega), ix_nI (show 6 * r + t < 2 ^ 31 by omega), Q r _ hr hv.1, nI_1]
      refine ⟨in7 (by omega), pc_t (nle' (Nat.le_refl _) (by omega)) fun q hq => ⟨in24 (by omega), in24 (by omega), fun ar2 e2 => ?_⟩⟩
      by_cases g : K.inv r t = t
      · exact pd_t (by rw [g]) fun q2 hq2 => k ar2 q q2 e2 hq (by rw [if_pos g]; exact hq2)
      · exact pd_f (nne (by omega) (by omega) g) fun q2 hq2 => k ar2 q q2 e2 hq (by rw [if_neg g]; exact hq2)
  | succ d ih =>
    intro i nx ky hi h
    have hi2 : i < K.sz r := by omega
    have hp := W.od_lt hr hi2
    have keep : (¬ K.to r i < t → ∃ j, j < i ∧ ¬ K.to r j < t ∧ nx = nI j ∧ K.ck r j ≤ K.ck r i) → ∀ own, PL_acts_480 kc post K383 (PL_acts_404 kc post K383 (d + 1)) v b rr y o x ap ac aq an ar (nI r) mv dn (nI t) nx ky (nI i) own := fun g own => by
      unfold PL_acts_480 PL_acts_481 PL_acts_495
      rw [nI_1]
      refine pc_t rfl (pc_t rfl (ih (i + 1) nx ky (by omega) ?_))
      rcases h with ⟨h, e⟩ | ⟨j, h1, h2, h3, h4, h5⟩
      · by_cases g2 : K.to r i < t
        · refine Or.inl ⟨fun j hj => ?_, e⟩
          rcases Nat.lt_succ_iff_lt_or_eq.mp hj with z | z
          · exact h j z
          · rw [z]; exact g2
        · obtain ⟨j, h1, h2, -⟩ := g g2
          exact absurd (h j h1) h2
      · refine Or.inr ⟨j, by omega, h2, h3, h4, fun j2 hj2 hn2 => ?_⟩
        rcases Nat.lt_succ_iff_lt_or_eq.mp hj2 with z | z
        · exact h5 j2 z hn2
        · subst z
          obtain ⟨j3, g1, g2, g3, g4⟩ := g hn2
          have e : j3 = j := nI_inj (by omega) (by omega) (g3.symm.trans h3)
          rw [← e]; exact g4
    have take : ¬ K.to r i < t → (∀ j, j < i → ¬ K.to r j < t → K.ck r i ≤ K.ck r j) → PL_acts_476 kc post K383 (PL_acts_404 kc post K383 (d + 1)) v b rr y o x ap ac aq an ar (nI r) mv dn (nI t) nx ky (nI i) (nI (K.lk r i)) := fun g g2 => by
      unfold PL_acts_476 PL_acts_481 PL_acts_495
      rw [nI_1]
      refine pc_f i10 (pc_f i10 (ih (i + 1) _ _ (by omega) (Or.inr ⟨i, by omega, g, rfl, rfl, fun j2 hj2 hn2 => ?_⟩)))
      rcases Nat.lt_succ_iff_lt_or_eq.mp hj2 with z | z
      · exact g2 j2 z hn2
      · rw [z]; exact Nat.le_refl _
    have go : PL_acts_452 kc post K383 (PL_acts_404 kc post K383 (d + 1)) v b rr y o x ap ac aq an ar (nI r) mv dn (nI t) nx ky (nI i) (nI (K.lk r i)) := by
      unfold PL_acts_452
      rw [b_shr1 _ (show i < 32 by omega)]
      have hb := hd i hi2
      have l1 := lk_le K r i
      cases e : bt dn i with
      | true =>
        refine ⟨fun _ => keep (fun g => absurd (hb.mp e) g) _, fun g => absurd g (by decide)⟩
      | false =>
        have hnt : ¬ K.to r i < t := fun g => by rw [hb.mpr g] at e; cases e
        refine ⟨fun g => absurd rfl g, fun _ => ?_⟩
        rcases h with ⟨h, e1⟩ | ⟨j, h1, h2, h3, h4, h5⟩
        · rw [e1] at take ⊢
          exact pc_t i_m1_lt0 (take hnt fun j hj hn2 => absurd (h j hj) hn2)
        · have l2 := lk_le K r j
          refine pc_f (by rw [h3]; exact nI_lt0 (by omega)) ?_
          by_cases c : K.lk r j ≤ K.lk r i
          · refine pc_t (by rw [h4]; exact nle' c (by omega)) (keep (fun _ => ⟨j, h1, h2, h3, ?_⟩) _)
            have z := lk_lt K r i j
            unfold Kr.ck; omega
          · refine pc_f (by rw [h4]; exact nle (by omega) (by omega)) (take hnt fun j2 hj2 hn2 => ?_)
            have z := (lk_lt K r i j).mp (by omega)
            have w := h5 j2 hj2 hn2
            unfold Kr.ck at *; omega
    unfold PL_acts_404
    rw [e3, ix_nI (show 3 + r < 2 ^ 31 by omega), N.2 r hr, e6 r i, ix_nI (show 6 * r + i < 2 ^ 31 by omega), Q r i hr hi2, e2s, ix_nI (show 2 * K.od r i + 1 < 2 ^ 31 by omega), (P _ hp).2]
    refine ⟨in7 (by omega), pc_f (nle hi2 (by omega)) ⟨in24 (by omega), in40 (by omega), fun q hq => ?_⟩⟩
    subst hq
    cases ec : K.par (K.od r i) with
    | none =>
      have e1 : K.lk r i = 99 := by unfold Kr.lk; rw [up_none ec]; rfl
      rw [e1] at go
      exact pc_f (by decide) go
    | some c =>
      have hc := W.par_c hp ec
      have h10 := W.nc10
      have e1 : K.lk r i = K.mid c := by unfold Kr.lk; rw [up_some ec]; rfl
      rw [e1] at go
      exact pc_t (nI_pos' (show c < 2 ^ 31 by omega)) (l_middle P C Q W hc go)
theorem mv_inv {K : Kr} (W : WF K) {r : Nat} (hr : r < 4) : sm (fun p => if K.inv r p = p then 0 else 1) (K.sz r) = K.mv r := by
  unfold Kr.mv
  refine sm_congr fun p hp => ?_
  have a := to_inv W hr hp
  have b := inv_to W hr hp
  by_cases g : K.inv r p = p
  · rw [if_pos g]
    rw [g] at a
    rw [if_pos a.2]
  · rw [if_neg g]
    rw [if_neg (fun e => g (by rw [e] at b; exact b))]
abbrev PA : Type := Int32 → Mem → Mem → (Nat → Mem) → Mem → Mem → Mem → Mem → Mem → Mem → Mem → Prop
/-- the class and the law's own chronicle hold the same -/
def LK (K : Kr) (v b : Mem) (rr : Nat → Mem) (ap ac aq an : Mem) : Prop := CS v K ∧ WF K ∧ SVS b rr ∧ rP ap K ∧ rC ac K ∧ rQ aq K ∧ rN an K
theorem a_by {kc v b y o x ap ac aq an ar : Mem} {rr : Nat → Mem} {K : Kr} (H : LK K v b rr ap ac aq an) {r : Nat} (hr : r < 4) {post : PA} (k : ∀ K2 v b rr y o x ap ac aq an, LK K2 v b rr ap ac aq an → K.np = K2.np → post 1 v b rr y o x ap ac aq an) (h0 : ∀ i, i < 24 → ar 0 i = aq 0 i) : ∃ n239, PL_acts_383 kc post n239 v b rr y o x ap ac aq an ar (nI r) 0 0 0 := by
  obtain ⟨S, W, R, P, C, Q, N⟩ := H
  have h6 := W.sz6 hr
  have loop : ∀ (d t : Nat) (ar : Mem) (dn : Int32), t + d = K.sz r → (∀ i, i < K.sz r → (bt dn i = true ↔ K.to r i < t)) → (∀ j, ¬ (6 * r ≤ j ∧ j < 6 * r + K.sz r) → j < 24 → ar 0 j = aq 0 j) → (∀ p, p < t → ar 0 (6 * r + p) = nI (K.bp r p)) → PL_acts_383 kc post (d + 1) v b rr y o x ap ac aq an ar (nI r) (nI (sm (fun p => if K.inv r p = p then 0 else 1) t)) dn (nI t) := by
    intro d
    induction d with
    | zero =>
      intro t ar dn ht hd hf hq
      have et : t = K.sz r := by omega
      subst et
      unfold PL_acts_383
      rw [e3, ix_nI (show 3 + r < 2 ^ 31 by omega), N.2 r hr, mv_inv W hr]
      refine ⟨in7 (by omega), pc_t (nle' (Nat.le_refl _) (by omega)) (l_copy fun aq210 h210 => n_byParents R S W hr fun v2 b2 r2 o2 R2 S2 => pd_t rfl ?_)⟩
      have W2 := setO_wf W (bp_isO W hr)
      refine k (K.setO r (K.bp r)) _ _ _ _ _ _ _ _ _ _ ⟨S2, W2, R2, P, C, fun r' k' hr' hk' => ?_, N⟩ rfl
      have hk2 : k' < K.sz r' := hk'
      have h6' := W.sz6 hr'
      rw [h210 _ (by omega)]
      show _ = nI (fup K.od r (K.bp r) r' k')
      by_cases z : r' = r
      · subst z
        rw [fup_a]; exact hq k' hk2
      · rw [fup_o _ _ z, hf _ (by omega) (by omega)]; exact Q r' k' hr' hk2
    | succ d ih =>
      intro t ar dn ht hd hf hq
      have ht2 : t < K.sz r := by omega
      unfold PL_acts_383
      rw [e3, ix_nI (show 3 + r < 2 ^ 31 by omega), N.2 r hr]
      refine ⟨in7 (by omega), pc_f (nle ht2 (by omega)) ⟨K.sz r + 1, ?_⟩⟩
      refine a_by_in P C Q N W hr ht2 hd (fun ar2 dn2 mv2 e1 e2 e3 => ?_) (K.sz r) 0 (-1) 0 (by omega) (Or.inl ⟨fun j h => absurd h (Nat.not_lt_zero _), rfl⟩)
      have hv := to_inv W hr ht2
      have em : mv2 = nI (sm (fun p => if K.inv r p = p then 0 else 1) (t + 1)) := by
        rw [e3, sm_s]
        by_cases g : K.inv r t = t
        · rw [if_pos g, if_pos g]; exact add0 _
        · rw [if_neg g, if_neg g]; exact nI_1 _
      rw [em]
      have ea : ar2 0 = upd (ar 0) (6 * r + t) (nI (K.bp r t)) := by rw [e1, mset_a]
      refine ih (t + 1) ar2 dn2 (by omega) (fun i hi => ?_) (fun j hj h24 => ?_) (fun p hp => ?_)
      · rw [e2, b_or, Bool.or_eq_true, hd i hi, b_one (show K.inv r t < 32 by omega) (show i < 32 by omega), decide_eq_true_eq]
        constructor
        · rintro (g | g)
          · omega
          · rw [g, hv.2]; omega
        · intro g
          rcases Nat.lt_succ_iff_lt_or_eq.mp g with z | z
          · exact Or.inl z
          · exact Or.inr (by rw [← z, inv_to W hr hi])
      · rw [ea, upd_o _ _ (by omega)]; exact hf j hj h24
      · rw [ea]
        rcases Nat.lt_succ_iff_lt_or_eq.mp hp with z | z
        · rw [upd_o _ _ (by omega)]; exact hq p z
        · rw [z, upd_a]
  exact ⟨_, loop (K.sz r) 0 ar 0 (by omega) (fun i hi => by rw [b_0]; exact ⟨fun h => (by cases h), fun h => absurd h (Nat.not_lt_zero _)⟩) (fun j _ h => h0 j h) fun p h => absurd h (Nat.not_lt_zero _)⟩
