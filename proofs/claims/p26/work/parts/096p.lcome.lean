/-! the law's people and couples come -/
theorem rN_ref {an an2 : Mem} {K : Kr} (N : rN an K) (h : an2 = mset an 0 2 (an 0 2 + 1)) : rN an2 K.ref := by
  have e : an2 0 = upd (an 0) 2 (an 0 2 + 1) := by rw [h, mset_a]
  refine ⟨⟨?_, ?_, ?_⟩, fun r hr => ?_⟩
  · rw [e, upd_o _ _ (by decide)]; exact N.1.1
  · rw [e, upd_o _ _ (by decide)]; exact N.1.2.1
  · rw [e, upd_a, N.1.2.2]; rfl
  · rw [e, upd_o _ _ (by omega)]; exact N.2 r hr
theorem ixL2 : ix 2 = 2 := rfl
theorem ixL1 : ix 1 = 1 := rfl
theorem l_comes {ap aq an : Mem} {K : Kr} (P : rP ap K) (Q : rQ aq K) (N : rN an K) (W : WF K) {r : Nat} (hr : r < 4) {o : Option Nat} {post : Int32 → Mem → Mem → Mem → Prop} (k0 : (6 ≤ K.sz r ∨ 20 ≤ K.np) → ∀ an2, rN an2 K.ref → post (-1) ap aq an2) (k1 : K.sz r < 6 → K.np < 20 → ∀ ap2 aq2 an2, rP ap2 (K.addP r o) → rQ aq2 (K.addP r o) → rN an2 (K.addP r o) → post (nI K.np) ap2 aq2 an2) : PL_comes ap aq an (nI r) (pI o) post := by
  have h6 := W.sz6 hr
  have hn := W.np20
  have no : (6 ≤ K.sz r ∨ 20 ≤ K.np) → PL_comes_18 post ap aq an := fun h => ⟨in7 (n := 2) (by decide), in7 (n := 2) (by decide), fun an5 e => k0 h an5 (rN_ref N e)⟩
  unfold PL_comes
  rw [e3, ix_nI (show 3 + r < 2 ^ 31 by omega), N.2 r hr, ix0, N.1.1, e2s, e2, ix_nI (show 2 * K.np < 2 ^ 31 by omega), ix_nI (show 2 * K.np + 1 < 2 ^ 31 by omega), e6, ix_nI (show 6 * r + K.sz r < 2 ^ 31 by omega)]
  refine ⟨in7 (by omega), ?_⟩
  by_cases g : K.sz r = 6
  · exact pc_t (by rw [g]; rfl) (no (Or.inl (by omega)))
  · refine pc_f (nne (b := 6) (by omega) (by decide) g) ⟨in7 (n := 0) (by decide), ?_⟩
    by_cases g2 : K.np = 20
    · exact pd_t (by rw [g2]; rfl) (no (Or.inr (by omega)))
    · refine pd_f (nne (b := 20) (by omega) (by decide) g2) ⟨in7 (n := 0) (by decide), in40 (by omega), fun ap1 e1 => ⟨in7 (n := 0) (by decide), in40 (by omega), fun ap2 f2 => ⟨in7 (by omega), in7 (n := 0) (by decide), in24 (by omega), fun aq2 f3 => ⟨in7 (by omega), in7 (by omega), fun an1 e4 => ⟨in7 (n := 0) (by decide), in7 (n := 0) (by decide), fun an2 e5 => ⟨in7 (n := 0) (by decide), ?_⟩⟩⟩⟩⟩⟩
      have ea : ap2 0 = upd (upd (ap 0) (2 * K.np) (nI r)) (2 * K.np + 1) (pI o) := by rw [f2, mset_a, e1, mset_a]
      have eq : aq2 0 = upd (aq 0) (6 * r + K.sz r) (nI K.np) := by rw [f3, mset_a]
      have en1 : an1 0 = upd (an 0) (3 + r) (nI (K.sz r + 1)) := by rw [e4, mset_a, nI_1]
      have en0 : an1 0 0 = nI K.np := by rw [en1, upd_o _ _ (by omega)]; exact N.1.1
      have en : an2 0 = upd (upd (an 0) (3 + r) (nI (K.sz r + 1))) 0 (nI (K.np + 1)) := by rw [e5, mset_a, en0, nI_1, en1]
      rw [show an2 0 0 = nI (K.np + 1) by rw [en, upd_a], nI_pred]
      refine k1 (by omega) (by omega) ap2 aq2 an2 (fun p hp => ?_) (fun r' k' hr' hk' => ?_) ⟨⟨?_, ?_, ?_⟩, fun r' hr' => ?_⟩
      · have hp' : p < K.np + 1 := hp
        show ap2 0 (2 * p) = nI (fup K.row K.np r p) ∧ ap2 0 (2 * p + 1) = pI (fup K.par K.np o p)
        rw [ea]
        rcases Nat.lt_succ_iff_lt_or_eq.mp hp' with y | y
        · rw [upd_o _ _ (by omega), upd_o _ _ (by omega), upd_o _ _ (by omega), upd_o _ _ (by omega), fup_o _ _ (by omega), fup_o _ _ (by omega)]
          exact P p y
        · rw [y, upd_o _ _ (by omega), upd_a, upd_a, fup_a, fup_a]
          exact ⟨rfl, rfl⟩
      · have hk2 : k' < fup K.sz r (K.sz r + 1) r' := hk'
        show aq2 0 (6 * r' + k') = nI (fup K.od r (fup (K.od r) (K.sz r) K.np) r' k')
        rw [eq]
        by_cases y : r' = r
        · subst y
          rw [fup_a] at hk2
          rw [fup_a]
          rcases Nat.lt_succ_iff_lt_or_eq.mp hk2 with z | z
          · rw [upd_o _ _ (by omega), fup_o _ _ (by omega)]; exact Q _ k' hr' z
          · rw [z, upd_a, fup_a]
        · rw [fup_o _ _ y] at hk2
          have h6' := W.sz6 hr'
          rw [fup_o _ _ y, upd_o _ _ (by omega)]
          exact Q r' k' hr' hk2
      · rw [en, upd_a]; rfl
      · rw [en, upd_o _ _ (by omega), upd_o _ _ (by omega)]; exact N.1.2.1
      · rw [en, upd_o _ _ (by omega), upd_o _ _ (by omega)]; exact N.1.2.2
      · show an2 0 (3 + r') = nI (fup K.sz r (K.sz r + 1) r')
        rw [en, upd_o _ _ (by omega)]
        by_cases y : r' = r
        · rw [y, upd_a, fup_a]
        · rw [upd_o _ _ (by omega), fup_o _ _ y]; exact N.2 r' hr'
theorem l_mar_end {ap ac an : Mem} {K : Kr} (P : rP ap K) (C : rC ac K) (N : rN an K) (W : WF K) {a b : Nat} (hab : a < b) (hb : b < K.np) {post : Int32 → Mem → Mem → Prop} (k0 : 0 < K.rs a b → ∀ an2, rN an2 K.ref → post (nI (K.rs a b)) ac an2) (k1 : K.rs a b = 0 → ∀ ac2 an2, rC ac2 (K.addC a b) → rN an2 (K.addC a b) → post (nI (K.nc + 10)) ac2 an2) {z : Nat} (hz : z = K.rs a b) : PL_marries_156 ap post ac an (nI a) (nI b) (nI z) := by
  have hc := W.nc10
  have hrs := rs_le K a b
  unfold PL_marries_156
  by_cases g : z = 0
  · have g0 : K.rs a b = 0 := by omega
    have hf := (rs_facts g0).1
    subst g
    refine pc_t (nle' (a := 0) (b := 0) (by decide) (by decide)) ?_
    rw [ixL1, N.1.2.1, e2s, e2, ix_nI (show 2 * K.nc < 2 ^ 31 by omega), ix_nI (show 2 * K.nc + 1 < 2 ^ 31 by omega), nI_1]
    refine ⟨in7 (n := 1) (by decide), in20 (by omega), fun ac1 e1 => ⟨in7 (n := 1) (by decide), in20 (by omega), fun ac2 f2 => ⟨in7 (n := 1) (by decide), in7 (n := 1) (by decide), fun an2 f3 => ⟨in7 (n := 1) (by decide), ?_⟩⟩⟩⟩
    have ea : ac2 0 = upd (upd (ac 0) (2 * K.nc) (nI a)) (2 * K.nc + 1) (nI b) := by rw [f2, mset_a, e1, mset_a]
    have en : an2 0 = upd (an 0) 1 (nI (K.nc + 1)) := by rw [f3, mset_a]
    rw [show an2 0 1 + 9 = nI (K.nc + 10) by rw [en, upd_a, n9I, nI_add]]
    refine k1 g0 ac2 an2 (fun c hc' => ?_) ⟨⟨?_, ?_, ?_⟩, fun r hr => ?_⟩
    · have hc2 : c < K.nc + 1 := hc'
      show ac2 0 (2 * c) = nI (fup K.lo K.nc a c) ∧ ac2 0 (2 * c + 1) = nI (fup K.hi K.nc b c)
      rw [ea]
      rcases Nat.lt_succ_iff_lt_or_eq.mp hc2 with y | y
      · rw [upd_o _ _ (by omega), upd_o _ _ (by omega), upd_o _ _ (by omega), upd_o _ _ (by omega), fup_o _ _ (by omega), fup_o _ _ (by omega)]
        exact C c y
      · rw [y, upd_o _ _ (by omega), upd_a, upd_a, fup_a, fup_a]
        exact ⟨rfl, rfl⟩
    · rw [en, upd_o _ _ (by decide)]; exact N.1.1
    · rw [en, upd_a]; rfl
    · rw [en, upd_o _ _ (by decide)]; exact N.1.2.2
    · rw [en, upd_o _ _ (by omega)]; exact N.2 r hr
  · refine pc_f (nle (a := z) (b := 0) (by omega) (by omega)) ⟨in7 (n := 2) (by decide), in7 (n := 2) (by decide), fun an2 e => ?_⟩
    rw [hz]
    exact k0 (by omega) an2 (rN_ref N e)
theorem l_mar_l {ap ac an : Mem} {K : Kr} (P : rP ap K) (C : rC ac K) (N : rN an K) (W : WF K) {a b : Nat} (hab : a < b) (hb : b < K.np) {post : Int32 → Mem → Mem → Prop} (k0 : 0 < K.rs a b → ∀ an2, rN an2 K.ref → post (nI (K.rs a b)) ac an2) (k1 : K.rs a b = 0 → ∀ ac2 an2, rC ac2 (K.addC a b) → rN an2 (K.addC a b) → post (nI (K.nc + 10)) ac2 an2) : ∀ (d i s : Nat), i + d = K.nc → s ≤ 1 → (s = 1 ↔ ∃ c, c < i ∧ K.lo c = a ∧ K.hi c = b) → PL_marries_29 ap post (d + 1) ac an (nI a) (nI b) (nI s) (nI i) := by
  have hc := W.nc10
  have hn := W.np20
  have ha : a < K.np := by omega
  have fin : ∀ z, z = K.rs a b → PL_marries_156 ap post ac an (nI a) (nI b) (nI z) := fun z hz => l_mar_end P C N W hab hb k0 k1 hz
  intro d
  induction d with
  | zero =>
    intro i s hi hs hS
    have hi2 : i = K.nc := by omega
    subst hi2
    have are : s = 1 ↔ K.are (min a b) (max a b) := by
      rw [Nat.min_eq_left (by omega), Nat.max_eq_right (by omega)]; exact hS
    have ra := W.row4 ha
    have rb := W.row4 hb
    unfold PL_marries_29
    rw [ixL1, N.1.2.1, e2, e2, ix_nI (show 2 * a < 2 ^ 31 by omega), ix_nI (show 2 * b < 2 ^ 31 by omega), (P a ha).1, (P b hb).1]
    refine ⟨in7 (n := 1) (by decide), pc_t (nle' (Nat.le_refl _) (by omega)) ⟨in7 (n := 1) (by decide), ?_⟩⟩
    by_cases g1 : K.nc = 10
    · exact pd_t (by rw [g1]; rfl) (fin 1 (rs_1 g1).symm)
    · refine pd_f (nne (b := 10) (by omega) (by decide) g1) ⟨in40 (by omega), in40 (by omega), ?_⟩
      by_cases g2 : K.row a = K.row b
      · rw [g2]
        refine pd_t rfl ⟨in40 (by omega), ?_⟩
        by_cases g3 : K.row b = 3
        · exact pd_t (by rw [g3]; rfl) (fin 2 (rs_2 g1 (Or.inr (by omega))).symm)
        · refine pd_f (nne (b := 3) (by omega) (by decide) g3) ?_
          have h2 : ¬ (K.row a ≠ K.row b ∨ K.row a = 3) := by omega
          by_cases g4 : s = 1
          · exact pc_f (nne (b := 0) (by omega) (by decide) (by omega)) (fin 3 (rs_3 g1 h2 (are.mp g4)).symm)
          · have g0 : s = 0 := by omega
            have h3 : ¬ K.are (min a b) (max a b) := fun y => g4 (are.mpr y)
            subst g0
            refine pc_t rfl (l_couples C N W (by omega) ?_)
            have t1 : K.ct a ≤ 2 := W.two a
            have t2 : K.ct b ≤ 2 := W.two b
            by_cases g5 : K.ct a = 2
            · rw [g5]
              exact pc_t (by decide) (fin 4 (rs_4 g1 h2 h3 (Or.inl g5)).symm)
            · refine pc_f (fun y => ?_) (l_couples C N W (by omega) ?_)
              · rw [n1I, nI_ltI (by omega) (by omega)] at y; omega
              · by_cases g6 : K.ct b = 2
                · rw [g6]
                  exact pc_f (by decide) (fin 4 (rs_4 g1 h2 h3 (Or.inr g6)).symm)
                · exact pc_t (nle' (b := 1) (by omega) (by decide)) (fin 0 (rs_0 g1 h2 h3 (fun y => y.elim g5 g6)).symm)
      · exact pd_f (nne (by omega) (by omega) g2) (fin 2 (rs_2 g1 (Or.inl g2)).symm)
  | succ d ih =>
    intro i s hi hs hS
    have hi2 : i < K.nc := by omega
    have l1 := W.lo_np hi2
    have l2 := W.hi_np hi2
    unfold PL_marries_29
    rw [ixL1, N.1.2.1, e2s i, e2 i, ix_nI (show 2 * i < 2 ^ 31 by omega), ix_nI (show 2 * i + 1 < 2 ^ 31 by omega), (C i hi2).1, (C i hi2).2, nI_1]
    refine ⟨in7 (n := 1) (by decide), pc_f (nle hi2 (by omega)) ?_⟩
    have stay : (s = 1 ∨ ¬ (K.lo i = a ∧ K.hi i = b)) → (s = 1 ↔ ∃ c, c < i + 1 ∧ K.lo c = a ∧ K.hi c = b) := fun h => by
      constructor
      · intro y
        obtain ⟨c, h1, h2⟩ := hS.mp y
        exact ⟨c, by omega, h2⟩
      · rintro ⟨c, h1, h2⟩
        rcases Nat.lt_succ_iff_lt_or_eq.mp h1 with y | y
        · exact hS.mpr ⟨c, y, h2⟩
        · subst y
          exact h.resolve_right (fun z => z h2)
    by_cases g4 : s = 1
    · subst g4
      exact pd_f i10 (ih (i + 1) 1 (by omega) (by omega) (stay (Or.inl rfl)))
    · have g0 : s = 0 := by omega
      subst g0
      refine pd_t rfl ⟨in20 (by omega), ?_⟩
      by_cases g5 : K.lo i = a
      · rw [g5]
        refine pd_t rfl ⟨in20 (by omega), ?_⟩
        by_cases g6 : K.hi i = b
        · rw [g6]
          refine pd_t rfl (ih (i + 1) 1 (by omega) (by omega) ⟨fun _ => ⟨i, by omega, g5, g6⟩, fun _ => rfl⟩)
        · exact pd_f (nne (by omega) (by omega) g6) (ih (i + 1) 0 (by omega) (by omega) (stay (Or.inr fun y => g6 y.2)))
      · exact pd_f (nne (by omega) (by omega) g5) (ih (i + 1) 0 (by omega) (by omega) (stay (Or.inr fun y => g5 y.1)))
theorem l_marries {ap ac an : Mem} {K : Kr} (P : rP ap K) (C : rC ac K) (N : rN an K) (W : WF K) {a b : Nat} (hab : a ≠ b) (ha : a < K.np) (hb : b < K.np) {post : Int32 → Mem → Mem → Prop} (k0 : 0 < K.rs a b → ∀ an2, rN an2 K.ref → post (nI (K.rs a b)) ac an2) (k1 : K.rs a b = 0 → ∀ ac2 an2, rC ac2 (K.addC (min a b) (max a b)) → rN an2 (K.addC (min a b) (max a b)) → post (nI (K.nc + 10)) ac2 an2) : PL_marries ap ac an (nI a) (nI b) post := by
  have hn := W.np20
  have no : ∀ s : Nat, s = 1 → s ≤ 1 := fun s h => by omega
  unfold PL_marries PL_marries_12
  by_cases g : b ≤ a
  · have hba : b < a := by omega
    refine pc_t (nle' g (by omega)) fun q hq => ⟨K.nc + 1, ?_⟩
    rw [hq, nI_add, pk_sub (by omega), show a + b - b = a by omega]
    rw [rs_comm] at k0 k1
    rw [Nat.min_eq_right (by omega), Nat.max_eq_left (by omega)] at k1
    exact l_mar_l P C N W hba ha k0 k1 K.nc 0 0 (by omega) (by omega) ⟨fun h => by omega, fun ⟨c, h, _⟩ => by omega⟩
  · have hab2 : a < b := by omega
    refine pc_f (nle (by omega) (by omega)) fun q hq => ⟨K.nc + 1, ?_⟩
    rw [hq, nI_add, pk_sub (by omega), show a + b - a = b by omega]
    rw [Nat.min_eq_left (by omega), Nat.max_eq_right (by omega)] at k1
    exact l_mar_l P C N W hab2 hb k0 k1 K.nc 0 0 (by omega) (by omega) ⟨fun h => by omega, fun ⟨c, h, _⟩ => by omega⟩
