/-! the law looks at all people -/
def Kr.lnp (K : Kr) (p : Nat) : Nat := if K.par p = none then 0 else 1
def Kr.dbf (K : Kr) (p : Nat) : Nat := if sm (fun c => K.has c p) K.nc = 2 then 1 else 0
theorem l_pe_319 {kc v b ap ac aq an : Mem} {K : Kr} (C : rC ac K) (N : rN an K) (W : WF K) {k : Nat} (hk : k < K.np) {post : Int32 → Mem → Prop} {K31 : Mem → Int32 → Int32 → Int32 → Int32 → Int32 → Prop} {y : Mem} {x5 : Int32} {t6 t7 z : Nat} (kk : K31 y x5 (nI (t6 + z)) (nI (t7 + K.dbf k)) 1 (nI (k + 1))) : PL_arePeople_319 kc v b ap ac aq an post K31 y x5 (nI t7) 1 (nI k) (nI z) (nI t6) := by
  have hn := W.np20
  intro q38 h38
  rw [nI_add] at h38
  subst h38
  refine l_couples C N W (by omega) ?_
  have h2 : K.ct k ≤ 2 := W.two k
  rw [nI_1]
  by_cases g : K.ct k = 2
  · have e : K.dbf k = 1 := if_pos g
    rw [e] at kk
    rw [g]
    exact pc_f (by decide) fun q hq => by rw [hq, nI_1]; exact kk
  · have e : K.dbf k = 0 := if_neg g
    rw [e, Nat.add_zero] at kk
    exact pc_t (nle' (b := 1) (by omega) (by decide)) fun q hq => by rw [hq, add0]; exact kk
theorem l_pe_270 {kc v b ap ac aq an : Mem} {K : Kr} (P : rP ap K) (C : rC ac K) (Q : rQ aq K) (N : rN an K) (W : WF K) {k : Nat} (hk : k < K.np) {post : Int32 → Mem → Prop} {K31 : Mem → Int32 → Int32 → Int32 → Int32 → Int32 → Prop} {y : Mem} {t5 t6 t7 : Nat} (kk : K31 y (nI (t5 + K.lnp k)) (nI (t6 + K.bnt k)) (nI (t7 + K.dbf k)) 1 (nI (k + 1))) : PL_arePeople_270 kc v b ap ac aq an post K31 y (nI t5) (nI t6) (nI t7) (nI k) (pI (K.par k)) 1 := by
  have hn := W.np20
  unfold PL_arePeople_270
  cases e : K.par k with
  | none =>
    have e1 : K.lnp k = 0 := if_pos e
    have e2 : K.bnt k = 0 := by unfold Kr.bnt; rw [up_none e]
    rw [e1, e2] at kk
    refine pc_t i_m1_lt0 ?_
    intro q hq
    have hq2 : q = nI t5 := by rw [hq]; exact add0 t5
    subst hq2
    refine pc_t i_m1_lt0 ?_
    exact l_pe_319 (z := 0) C N W hk kk
  | some c =>
    have hc := W.par_c hk e
    have h10 := W.nc10
    have e1 : K.lnp k = 1 := if_neg (by rw [e]; intro y; cases y)
    rw [e1] at kk
    refine pc_f (nI_lt0 (show c < 2 ^ 31 by omega)) ?_
    intro q hq
    have hq2 : q = nI (t5 + 1) := by rw [hq]; exact nI_1 t5
    subst hq2
    have m1 := WF.mid11 K c
    have m2 := WF.pl6 K k
    refine pc_f (nI_lt0 (show c < 2 ^ 31 by omega)) (l_middle P C Q W hc (l_place P Q W hk ?_))
    rw [e2]
    by_cases g : K.mid c = 2 * K.pl k
    · have e3 : K.bnt k = 0 := by unfold Kr.bnt; rw [up_some e]; exact if_pos g
      rw [e3] at kk
      rw [g]
      exact pc_t rfl (l_pe_319 (z := 0) C N W hk kk)
    · have e3 : K.bnt k = 1 := by unfold Kr.bnt; rw [up_some e]; exact if_neg g
      rw [e3] at kk
      exact pc_f (nne (by omega) (by omega) g) (l_pe_319 (z := 1) C N W hk kk)
theorem l_pe_in {kc v b ap ac aq an : Mem} {K : Kr} (S : CS v K) (P : rP ap K) (C : rC ac K) (Q : rQ aq K) (N : rN an K) (W : WF K) {k : Nat} (hk : k < K.np) {post : Int32 → Mem → Prop} {K31 : Mem → Int32 → Int32 → Int32 → Int32 → Int32 → Prop} {y : Mem} {t5 t6 t7 : Nat} (kk : K31 y (nI (t5 + K.lnp k)) (nI (t6 + K.bnt k)) (nI (t7 + K.dbf k)) 1 (nI (k + 1))) : ∀ d i : Nat, i + d = K.np → PL_arePeople_64 kc v b ap ac aq an post K31 (d + 1) y (nI t5) (nI t6) (nI t7) (nI k) (nI (sm (fun o => if bt (K.anc o) k then 1 else 0) i)) (nI (sm (fun i => if K.isPar k i = true then 1 else 0) i)) (pI (K.par k)) (nI i) := by
  have hn := W.np20
  have h10 := W.nc10
  intro d
  induction d with
  | zero =>
    intro i hi
    have ei : i = K.np := by omega
    subst ei
    unfold PL_arePeople_64
    rw [ix0, N.1.1, e2, ix_nI (show 2 * k < 2 ^ 31 by omega), (P k hk).1]
    refine ⟨in7 (n := 0) (by decide), pc_t (nle' (Nat.le_refl _) (by omega)) ?_⟩
    refine n_per S W hk 0 (by decide) ⟨in40 (by omega), pd_t rfl ?_⟩
    refine n_per S W hk 1 (by decide) (l_place P Q W hk (pd_t rfl ?_))
    refine n_per S W hk 2 (by decide) (pd_t rfl ?_)
    refine n_per S W hk 3 (by decide) (l_couples C N W (by omega) (pd_t rfl ?_))
    refine n_per S W hk 4 (by decide) (pd_t (by rw [chW_p W k]; rfl) ?_)
    refine n_per S W hk 5 (by decide) (pd_t rfl ?_)
    exact n_per S W hk 6 (by decide) (l_anc P C N W hk (l_ones (fun i h1 h2 => anc_hi W hk h1 h2) (pd_t rfl (l_pe_270 P C Q N W hk kk))))
  | succ d ih =>
    intro i hi
    have hi2 : i < K.np := by omega
    have e := ih (i + 1) (by omega)
    rw [sm_s, sm_s] at e
    unfold PL_arePeople_64
    rw [ix0, N.1.1, e2s, ix_nI (show 2 * i + 1 < 2 ^ 31 by omega), (P i hi2).2, nI_1 i]
    refine ⟨in7 (n := 0) (by decide), pc_f (nle hi2 (by omega)) (l_anc P C N W hi2 fun q77 h77 => ⟨in40 (by omega), ?_⟩)⟩
    rw [b_shr1 _ (show k < 32 by omega), nI_add] at h77
    subst h77
    cases ec : K.par i with
    | none =>
      have hz : K.isPar k i ≠ true := fun h => by
        obtain ⟨c, hc, -⟩ := isPar_iff.mp h
        rw [ec] at hc; cases hc
      rw [if_neg hz, Nat.add_zero] at e
      exact pc_t i_m1_lt0 fun q hq => by rw [hq, add0]; exact e
    | some c =>
      have hc := W.par_c hi2 ec
      have l1 := W.lo_np hc
      have l2 := W.hi_np hc
      have hpc : pI (some c) = nI c := rfl
      rw [hpc, e2s, e2, ix_nI (show 2 * c < 2 ^ 31 by omega), ix_nI (show 2 * c + 1 < 2 ^ 31 by omega), (C c hc).1, (C c hc).2]
      refine pc_f (nI_lt0 (show c < 2 ^ 31 by omega)) ⟨in40 (by omega), in20 (by omega), ?_⟩
      by_cases g1 : K.lo c = k
      · have hz : K.isPar k i = true := isPar_iff.mpr ⟨c, ec, Or.inl g1⟩
        rw [if_pos hz] at e
        exact pc_t (by rw [g1]) fun q hq => by rw [hq, nI_1]; exact e
      · refine pc_f (nne (by omega) (by omega) g1) ⟨in40 (by omega), in20 (by omega), ?_⟩
        by_cases g2 : K.hi c = k
        · have hz : K.isPar k i = true := isPar_iff.mpr ⟨c, ec, Or.inr g2⟩
          rw [if_pos hz] at e
          exact pd_t (by rw [g2]) fun q hq => by rw [hq, nI_1]; exact e
        · have hz : K.isPar k i ≠ true := fun h => by
            obtain ⟨c', hc', h2⟩ := isPar_iff.mp h
            rw [ec] at hc'; cases hc'
            exact h2.elim g1 g2
          rw [if_neg hz, Nat.add_zero] at e
          exact pd_f (nne (by omega) (by omega) g2) fun q hq => by rw [hq, add0]; exact e
theorem l_pe_350 {kc v b ap ac aq an y : Mem} {K : Kr} {n : Nat} (S : CS v K) (W : WF K) (hb : b 2 0 = nI n) {post : Int32 → Mem → Prop} (k : ∀ y, post 1 y) : PL_arePeople_350 kc v b ap ac aq an post y (nI K.lines) (nI K.bent) (nI K.dbl) 1 := by
  have hl := bent_le W
  have f := share_f W
  unfold PL_arePeople_350
  refine pc_f i10 (n_cnt S W hb 2 (by decide) fun y1 => pd_t rfl (n_cnt S W hb 4 (by decide) fun y2 => pd_t rfl (n_cnt S W hb 5 (by decide) fun y3 => pd_t rfl (c_share S W ?_))))
  have fin : ∀ z, z = K.share → PL_arePeople_408 kc v b ap ac aq an post y3 z K.share := fun z hz => by
    rw [hz]
    exact pd_t f.2.1 (k y3)
  by_cases g : K.lines = 0
  · refine pd_t (by rw [g]; rfl) (fin _ ?_)
    unfold Kr.share shr
    rw [if_pos g]
  · refine pd_f (nI_ne0 (by omega) (by omega)) ⟨nzD_v (f.1.resolve_left g), fin _ ?_⟩
    unfold Kr.share shr
    rw [if_neg g]
theorem l_people {kc v b y ap ac aq an : Mem} {K : Kr} (S : CS v K) (W : WF K) (hb : ∃ n, b 2 0 = nI n) (P : rP ap K) (C : rC ac K) (Q : rQ aq K) (N : rN an K) {post : Int32 → Mem → Prop} (k : ∀ y, post 1 y) : PL_arePeople kc v b y ap ac aq an post := by
  obtain ⟨n, hb⟩ := hb
  have hn := W.np20
  refine n_cnt S W hb 0 (by decide) fun y3 => ⟨in7 (n := 0) (by decide), pd_t N.1.1.symm ⟨K.np + 1, ?_⟩⟩
  have loop : ∀ d i : Nat, i + d = K.np → PL_arePeople_31 kc v b ap ac aq an post (d + 1) y3 (nI (sm K.lnp i)) (nI (sm K.bnt i)) (nI (sm K.dbf i)) 1 (nI i) := by
    intro d
    induction d with
    | zero =>
      intro i hi
      have ei : i = K.np := by omega
      subst ei
      unfold PL_arePeople_31
      rw [ix0, N.1.1]
      exact ⟨in7 (n := 0) (by decide), pc_t (nle' (Nat.le_refl _) (by omega)) (l_pe_350 S W hb k)⟩
    | succ d ih =>
      intro i hi
      have hi2 : i < K.np := by omega
      have e := ih (i + 1) (by omega)
      rw [sm_s, sm_s, sm_s] at e
      unfold PL_arePeople_31
      rw [ix0, N.1.1, e2s, ix_nI (show 2 * i + 1 < 2 ^ 31 by omega), (P i hi2).2]
      refine ⟨in7 (n := 0) (by decide), pc_f (nle hi2 (by omega)) (pc_f i10 ⟨in40 (by omega), fun q28 h28 => ⟨K.np + 1, ?_⟩⟩)⟩
      subst h28
      exact l_pe_in S P C Q N W hi2 e K.np 0 (by omega)
  exact loop K.np 0 (by omega)
