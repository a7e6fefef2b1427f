theorem nI_min {a b : Nat} (ha : a < 2 ^ 31) (hb : b < 2 ^ 31) : (if nI b < nI a then nI b else nI a) = nI (min a b) := by
  by_cases h : b < a
  · rw [if_pos (nI_lt h ha), Nat.min_eq_right (by omega)]
  · rw [if_neg (nI_nlt (by omega) (by omega)), Nat.min_eq_left (by omega)]
theorem nI_max {a b : Nat} (ha : a < 2 ^ 31) (hb : b < 2 ^ 31) : (if nI a < nI b then nI b else nI a) = nI (max a b) := by
  by_cases h : a < b
  · rw [if_pos (nI_lt h hb), Nat.max_eq_right (by omega)]
  · rw [if_neg (nI_nlt (by omega) (by omega)), Nat.max_eq_left (by omega)]
def Kr.ct (K : Kr) (p : Nat) : Nat := sm (fun c => K.has c p) K.nc
/-- why two people are not made a couple; 0: they are -/
noncomputable def Kr.rs (K : Kr) (a b : Nat) : Nat := if K.nc = 10 then 1 else if K.row a ≠ K.row b ∨ K.row a = 3 then 2 else @ite Nat (K.are (min a b) (max a b)) (Classical.propDecidable _) 3 (if K.ct a = 2 ∨ K.ct b = 2 then 4 else 0)
/-- one more couple -/
def Kr.addC (K : Kr) (a b : Nat) : Kr := (K.np, K.nc + 1, K.rf, K.row, K.par, fup K.lo K.nc a, fup K.hi K.nc b, K.sz, K.od)
theorem rs_1 {K : Kr} {a b : Nat} (h : K.nc = 10) : K.rs a b = 1 := if_pos h
theorem rs_2 {K : Kr} {a b : Nat} (h : K.nc ≠ 10) (h2 : K.row a ≠ K.row b ∨ K.row a = 3) : K.rs a b = 2 := by unfold Kr.rs; rw [if_neg h, if_pos h2]
theorem rs_3 {K : Kr} {a b : Nat} (h : K.nc ≠ 10) (h2 : ¬ (K.row a ≠ K.row b ∨ K.row a = 3)) (h3 : K.are (min a b) (max a b)) : K.rs a b = 3 := by unfold Kr.rs; rw [if_neg h, if_neg h2, if_pos h3]
theorem rs_4 {K : Kr} {a b : Nat} (h : K.nc ≠ 10) (h2 : ¬ (K.row a ≠ K.row b ∨ K.row a = 3)) (h3 : ¬ K.are (min a b) (max a b)) (h4 : K.ct a = 2 ∨ K.ct b = 2) : K.rs a b = 4 := by unfold Kr.rs; rw [if_neg h, if_neg h2, if_neg h3, if_pos h4]
theorem rs_0 {K : Kr} {a b : Nat} (h : K.nc ≠ 10) (h2 : ¬ (K.row a ≠ K.row b ∨ K.row a = 3)) (h3 : ¬ K.are (min a b) (max a b)) (h4 : ¬ (K.ct a = 2 ∨ K.ct b = 2)) : K.rs a b = 0 := by unfold Kr.rs; rw [if_neg h, if_neg h2, if_neg h3, if_neg h4]
theorem rs_facts {K : Kr} {a b : Nat} (h : K.rs a b = 0) : K.nc ≠ 10 ∧ K.row a = K.row b ∧ K.row a ≠ 3 ∧ K.ct a ≠ 2 ∧ K.ct b ≠ 2 := by
  by_cases h1 : K.nc = 10
  · rw [rs_1 h1] at h; omega
  by_cases h2 : K.row a ≠ K.row b ∨ K.row a = 3
  · rw [rs_2 h1 h2] at h; omega
  rcases Classical.em (K.are (min a b) (max a b)) with h3 | h3
  · rw [rs_3 h1 h2 h3] at h; omega
  by_cases h4 : K.ct a = 2 ∨ K.ct b = 2
  · rw [rs_4 h1 h2 h3 h4] at h; omega
  exact ⟨h1, by omega, by omega, by omega, by omega⟩
theorem rs_comm (K : Kr) (a b : Nat) : K.rs a b = K.rs b a := by
  unfold Kr.rs
  rw [Nat.min_comm a b, Nat.max_comm a b]
  by_cases h : K.nc = 10
  · rw [if_pos h, if_pos h]
  rw [if_neg h, if_neg h]
  by_cases h2 : K.row a ≠ K.row b ∨ K.row a = 3
  · rw [if_pos h2, if_pos (show K.row b ≠ K.row a ∨ K.row b = 3 by omega)]
  rw [if_neg h2, if_neg (show ¬ (K.row b ≠ K.row a ∨ K.row b = 3) by omega)]
  by_cases h4 : K.ct a = 2 ∨ K.ct b = 2
  · rw [if_pos h4, if_pos (show K.ct b = 2 ∨ K.ct a = 2 by omega)]
  · rw [if_neg h4, if_neg (show ¬ (K.ct b = 2 ∨ K.ct a = 2) by omega)]
theorem rs_le (K : Kr) (a b : Nat) : K.rs a b ≤ 4 := by
  unfold Kr.rs
  split
  · decide
  · split
    · decide
    · split
      · decide
      · split <;> decide
theorem c_reason {v : Mem} {K : Kr} (C : CS v K) (W : WF K) {a b : Nat} (ha : a < K.np) (hb : b < K.np) {post : Int32 → Prop} (k : post (nI (K.rs a b))) : PX5_reasonAgainst v (nI a) (nI b) post := by
  have hn := W.np20
  have hc := W.nc10
  have ra := W.row4 ha
  have rb := W.row4 hb
  unfold PX5_reasonAgainst
  rw [C.1.2.1, n10I, n3I]
  by_cases h1 : K.nc = 10
  · rw [rs_1 h1] at k; exact pc_f (by rw [h1]; decide) k
  · refine pc_t (nI_lt (by omega) (by omega)) (c_rowOf C W ha (c_rowOf C W hb ?_))
    by_cases h2 : K.row a = K.row b
    · refine pd_t (by rw [h2]) (c_rowOf C W ha ?_)
      by_cases h3 : K.row a = 3
      · rw [rs_2 h1 (Or.inr h3)] at k; exact pd_t (by rw [h3]) k
      · have hr : ¬ (K.row a ≠ K.row b ∨ K.row a = 3) := by omega
        refine pd_f (nne (by omega) (by omega) h3) ?_
        rw [nI_min (by omega) (by omega), nI_max (by omega) (by omega)]
        refine c_areCouple C W (by omega) (by omega) (fun h => ?_) (fun h => ?_)
        · rw [rs_3 h1 hr h] at k; exact pc_f i10 k
        · refine pc_t rfl (c_isDouble C W (by omega) ?_)
          by_cases g : K.ct a = 2
          · rw [rs_4 h1 hr h (Or.inl g)] at k
            rw [if_pos (show sm (fun c => K.has c a) K.nc = 2 from g)]; exact pd_f i10 k
          · rw [if_neg (show ¬ sm (fun c => K.has c a) K.nc = 2 from g)]
            refine pd_t rfl (c_isDouble C W (by omega) ?_)
            by_cases g2 : K.ct b = 2
            · rw [rs_4 h1 hr h (Or.inr g2)] at k
              rw [if_pos (show sm (fun c => K.has c b) K.nc = 2 from g2)]; exact pc_f i10 k
            · rw [rs_0 h1 hr h (fun q => q.elim g g2)] at k
              rw [if_neg (show ¬ sm (fun c => K.has c b) K.nc = 2 from g2)]; exact pc_t rfl k
    · rw [rs_2 h1 (Or.inl h2)] at k; exact pd_f (nne (by omega) (by omega) h2) k
theorem addC_wf {K : Kr} (W : WF K) {a b : Nat} (hab : a < b) (hb : b < K.np) (h : K.rs a b = 0) : WF (K.addC a b) := by
  obtain ⟨h1, h2, h3, h4, h5⟩ := rs_facts h
  have hc := W.nc10
  have ra := W.row4 (show a < K.np by omega)
  have e1 : (K.addC a b).np = K.np := rfl
  have e2 : (K.addC a b).nc = K.nc + 1 := rfl
  have e4 : (K.addC a b).row = K.row := rfl
  have e5 : (K.addC a b).par = K.par := rfl
  have e6 : (K.addC a b).lo = fup K.lo K.nc a := rfl
  have e7 : (K.addC a b).hi = fup K.hi K.nc b := rfl
  have e8 : (K.addC a b).sz = K.sz := rfl
  have e9 : (K.addC a b).od = K.od := rfl
  unfold WF
  rw [e1, e2, e4, e5, e6, e7, e8, e9]
  refine ⟨⟨W.np20, by omega, fun r hr => W.sz6 hr⟩, W.2.1, W.2.2.1, W.2.2.2.1, fun p c hp hpc => ?_, fun c hcc => ?_, fun p => ?_⟩
  · have g := W.par_c hp hpc
    rw [fup_o _ _ (by omega), fup_o _ _ (by omega)]
    exact ⟨by omega, W.par_row hp hpc, W.par_hi hp hpc⟩
  · rcases Nat.lt_succ_iff_lt_or_eq.mp hcc with g | rfl
    · rw [fup_o _ _ (by omega), fup_o _ _ (by omega)]
      exact ⟨W.lo_hi g, W.hi_np g, W.row_eq g, W.row3 g⟩
    · rw [fup_a, fup_a]; exact ⟨hab, hb, h2, by omega⟩
  · have t := W.two p
    have g : sm (fun c => (K.addC a b).has c p) K.nc = sm (fun c => K.has c p) K.nc := sm_congr fun c hcc => by
      unfold Kr.has
      rw [e6, e7, fup_o _ _ (by omega), fup_o _ _ (by omega)]
    rw [sm_s, g]
    unfold Kr.has at *
    rw [e6, e7, fup_a, fup_a]
    unfold Kr.ct Kr.has at h4 h5
    by_cases q : a = p ∨ b = p
    · rw [if_pos q]
      rcases q with rfl | rfl <;> omega
    · rw [if_neg q]; omega
theorem addC_pl (K : Kr) (a b : Nat) : (K.addC a b).pl = K.pl := rfl
theorem c_addCouple {v : Mem} {K : Kr} (C : CS v K) (W : WF K) {a b : Nat} (ha : a < K.np) (hb : b < K.np) {post : Int32 → Mem → Prop} (k0 : 0 < K.rs a b → ∀ v2, CS v2 K.ref → post (nI (K.rs a b)) v2) (k1 : K.rs a b = 0 → ∀ v2, CS v2 (K.addC (min a b) (max a b)) → post (nI (K.nc + 10)) v2) : PX5_addCouple v (nI a) (nI b) post := by
  have hn := W.np20
  have hc := W.nc10
  have hle := rs_le K a b
  refine c_reason C W ha hb ?_
  by_cases h : K.rs a b = 0
  · obtain ⟨h1, h2, h3, h4, h5⟩ := rs_facts h
    refine pc_t (by rw [h]; rfl) fun q4 e4 v5 e5 => ?_
    rw [C.1.2.1] at e4 e5
    subst e4
    rw [nI_min (by omega) (by omega), nI_max (by omega) (by omega), ix_nI (show K.nc < 2 ^ 31 by omega), n10I, nI_add]
    refine ⟨in_nI (by omega) (by omega), fun v7 e7 => ⟨in_nI (by omega) (by omega), fun v9 e9 => k1 h v9 ?_⟩⟩
    have r8 : v9 8 0 = nI (K.nc + 1) := by rw [e9, mset_o _ _ _ (by decide), e7, mset_o _ _ _ (by decide), e5, mset_a, upd_a, nI_1]
    have r3 : v9 3 = upd (v 3) K.nc (nI (min a b)) := by rw [e9, mset_o _ _ _ (by decide), e7, mset_a, e5, mset_o _ _ _ (by decide)]
    have r4 : v9 4 = upd (v 4) K.nc (nI (max a b)) := by rw [e9, mset_a, e7, mset_o _ _ _ (by decide), e5, mset_o _ _ _ (by decide)]
    have rr : ∀ j, j ≠ 3 → j ≠ 4 → j ≠ 8 → v9 j = v j := fun j a b c => by rw [e9, mset_o _ _ _ b, e7, mset_o _ _ _ a, e5, mset_o _ _ _ c]
    refine ⟨⟨?_, r8, ?_⟩, fun p hp => ?_, fun c hcc => ?_, fun r hr => ?_, fun r q hr hq => ?_⟩
    · rw [rr 7 (by decide) (by decide) (by decide)]; exact C.1.1
    · rw [rr 9 (by decide) (by decide) (by decide)]; exact C.1.2.2
    · rw [rr 0 (by decide) (by decide) (by decide), rr 1 (by decide) (by decide) (by decide), rr 2 (by decide) (by decide) (by decide)]; exact C.2.1 p hp
    · rw [r3, r4]
      show _ = nI (fup K.lo K.nc (min a b) c) ∧ _ = nI (fup K.hi K.nc (max a b) c)
      rcases Nat.lt_succ_iff_lt_or_eq.mp (show c < K.nc + 1 from hcc) with g | rfl
      · rw [upd_o _ _ (by omega), upd_o _ _ (by omega), fup_o _ _ (by omega), fup_o _ _ (by omega)]; exact C.2.2.1 c g
      · rw [upd_a, upd_a, fup_a, fup_a]; exact ⟨rfl, rfl⟩
    · rw [rr 6 (by decide) (by decide) (by decide)]; exact C.2.2.2.1 r hr
    · rw [rr 5 (by decide) (by decide) (by decide)]; exact C.2.2.2.2 r q hr hq
  · refine pc_f (nI_ne0 (by omega) (by omega)) fun v10 e10 => k0 (by omega) v10 ?_
    rw [e10]; exact CS_ref C
theorem c_addChild {v : Mem} {K : Kr} (C : CS v K) (W : WF K) {c : Nat} (hc : c < K.nc) {post : Int32 → Mem → Prop} (k0 : (6 ≤ K.sz (K.row (K.lo c) + 1) ∨ 20 ≤ K.np) → ∀ v2, CS v2 K.ref → post (-1) v2) (k1 : K.sz (K.row (K.lo c) + 1) < 6 → K.np < 20 → ∀ v2, CS v2 (K.addP (K.row (K.lo c) + 1) (some c)) → post (nI K.np) v2) : PX5_addChild v (nI c) post := by
  have h3 := W.row3 hc
  refine c_lesserOf C W hc (c_rowOf C W (W.lo_np hc) ?_)
  rw [nI_1]
  exact c_addPerson C W (o := some c) (by omega) (fun d h => by cases h; exact ⟨hc, rfl⟩) k0 k1
