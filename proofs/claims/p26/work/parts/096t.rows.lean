/-! the law looks at all couples and rows -/
theorem l_ro_247 {kc v b ap ac aq an : Mem} {K : Kr} {c : Nat} {post : Int32 → Mem → Prop} {K54 : Mem → Int32 → Int32 → Int32 → Prop} {y : Mem} {t : Nat} (kk : K54 y (nI (t + (if pcn (K.com c) 20 = 0 then 0 else 1))) 1 (nI (c + 1))) : PL_areRows_247 kc v b ap ac aq an post K54 y (nI t) (nI c) (nI (pcn (K.com c) 20)) 1 := by
  have h := pcn_le (K.com c) 20
  unfold PL_areRows_247
  by_cases g : pcn (K.com c) 20 = 0
  · rw [if_pos g, Nat.add_zero] at kk
    rw [g, nI_1]
    exact pc_t (nle' (a := 0) (b := 0) (by decide) (by decide)) fun q hq => by rw [hq, add0]; exact kk
  · rw [if_neg g] at kk
    rw [nI_1]
    exact pc_f (nle (b := 0) (by omega) (by omega)) fun q hq => by rw [hq, nI_1]; exact kk
theorem l_ro_74 {kc v b ap ac aq an : Mem} {K : Kr} (S : CS v K) (P : rP ap K) (C : rC ac K) (Q : rQ aq K) (N : rN an K) (W : WF K) {c : Nat} (hc : c < K.nc) {post : Int32 → Mem → Prop} {K54 : Mem → Int32 → Int32 → Int32 → Prop} {y : Mem} {t : Nat} (kk : K54 y (nI (t + (if pcn (K.com c) 20 = 0 then 0 else 1))) 1 (nI (c + 1))) : ∀ d i : Nat, i + d = K.np → PL_areRows_74 kc v b ap ac aq an post K54 (d + 1) y (nI t) (nI c) (nI (sm (fun p => if K.par p = some c then 1 else 0) i)) (nI i) := by
  have hn := W.np20
  have h10 := W.nc10
  have l1 := W.lo_np hc
  have l2 := W.hi_np hc
  intro d
  induction d with
  | zero =>
    intro i hi
    have ei : i = K.np := by omega
    subst ei
    unfold PL_areRows_74
    rw [ix0, N.1.1, e2s c, e2 c, ix_nI (show 2 * c < 2 ^ 31 by omega), ix_nI (show 2 * c + 1 < 2 ^ 31 by omega), (C c hc).1, (C c hc).2, e2, ix_nI (show 2 * K.lo c < 2 ^ 31 by omega), (P _ l1).1]
    refine ⟨in7 (n := 0) (by decide), pc_t (nle' (Nat.le_refl _) (by omega)) ⟨in20 (by omega), l_anc P C N W l1 ⟨in20 (by omega), l_anc P C N W l2 ?_⟩⟩⟩
    refine l_ones (fun i h1 h2 => com_hi W hc h1 h2) ?_
    refine n_cpl S W hc 0 (by decide) ⟨in20 (by omega), pd_t rfl ?_⟩
    refine n_cpl S W hc 1 (by decide) ⟨in20 (by omega), pd_t rfl ?_⟩
    refine n_cpl S W hc 2 (by decide) ⟨in20 (by omega), in40 (by omega), pd_t rfl ?_⟩
    refine n_cpl S W hc 3 (by decide) (l_middle P C Q W hc (pd_t rfl ?_))
    refine n_cpl S W hc 4 (by decide) (pd_t rfl ?_)
    exact n_cpl S W hc 5 (by decide) (pd_t rfl (l_ro_247 kk))
  | succ d ih =>
    intro i hi
    have hi2 : i < K.np := by omega
    have e := ih (i + 1) (by omega)
    rw [sm_s] at e
    unfold PL_areRows_74
    rw [ix0, N.1.1, e2s i, ix_nI (show 2 * i + 1 < 2 ^ 31 by omega), (P i hi2).2, nI_1 i]
    refine ⟨in7 (n := 0) (by decide), pc_f (nle hi2 (by omega)) ⟨in40 (by omega), ?_⟩⟩
    have hq := pI_ne_c (o := K.par i) (c := c) (by omega) (fun d hd => by have := W.par_c hi2 hd; omega)
    by_cases g : K.par i = some c
    · rw [if_pos g] at e
      exact pd_t (hq.mpr g) fun q h => by rw [h, nI_1]; exact e
    · rw [if_neg g, Nat.add_zero] at e
      exact pd_f (fun y => g (hq.mp y)) fun q h => by rw [h, add0]; exact e
theorem l_ro_334 {kc v b ap ac aq an : Mem} {K : Kr} (S : CS v K) (Q : rQ aq K) (N : rN an K) (W : WF K) {r : Nat} (hr : r < 4) {post : Int32 → Mem → Prop} {K273 : Mem → Int32 → Int32 → Int32 → Prop} {y : Mem} {x5 : Int32} (kk : K273 y x5 1 (nI (r + 1))) : ∀ d q : Nat, q + d = 7 → PL_areRows_334 kc v b ap ac aq an post K273 (d + 1) y x5 1 (nI r) (nI q) := by
  have h6 := W.sz6 hr
  intro d
  induction d with
  | zero =>
    intro q hq
    unfold PL_areRows_334
    rw [nI_1]
    exact pc_t (nle' (a := 7) (by omega) (by omega)) kk
  | succ d ih =>
    intro q hq
    have e := ih (q + 1) (by omega)
    unfold PL_areRows_334 PL_areRows_380
    rw [e3, ix_nI (show 3 + r < 2 ^ 31 by omega), N.2 r hr, e6, ix_nI (show 6 * r + q < 2 ^ 31 by omega), nI_1 q]
    refine pc_f (nle (a := 7) (by omega) (by decide)) (pc_f i10 (n_at S W hr (by omega) ⟨in7 (by omega), ?_⟩))
    by_cases g : q < K.sz r
    · rw [Q r q hr g]
      refine pc_f (nle g (by omega)) ⟨in24 (by omega), ?_⟩
      rw [show K.atv r q = nI (K.od r q) from if_pos g]
      exact pd_t rfl e
    · refine pc_t (nle' (by omega) (by omega)) ?_
      rw [show K.atv r q = -1 from if_neg g]
      exact pd_t rfl e
theorem l_rows {kc v b y ap ac aq an : Mem} {K : Kr} (S : CS v K) (W : WF K) (hb : ∃ n, b 2 0 = nI n) (P : rP ap K) (C : rC ac K) (Q : rQ aq K) (N : rN an K) {post : Int32 → Mem → Prop} (k : ∀ y, post 1 y) : PL_areRows kc v b y ap ac aq an post := by
  obtain ⟨n, hb⟩ := hb
  have hn := W.np20
  have h10 := W.nc10
  refine n_cnt S W hb 1 (by decide) fun y3 => ⟨in7 (n := 1) (by decide), pd_t N.1.2.1.symm ?_⟩
  refine n_cnt S W hb 7 (by decide) fun y87 => ⟨in7 (n := 2) (by decide), pd_t N.1.2.2.symm ?_⟩
  refine n_cnt S W hb 3 (by decide) fun y93 => l_all P C Q N W (pd_t rfl ⟨K.nc + 1, ?_⟩)
  have rows : ∀ (d r : Nat) (y : Mem), r + d = 4 → PL_areRows_273 kc v b ap ac aq an post (d + 1) y (nI K.kin) 1 (nI r) := by
    intro d
    induction d with
    | zero =>
      intro r y hr
      unfold PL_areRows_273
      exact pc_t (nle' (a := 4) (by omega) (by omega)) (pc_f i10 (n_cnt S W hb 6 (by decide) fun y12 => pd_t rfl (k y12)))
    | succ d ih =>
      intro r y hr
      have hr4 : r < 4 := by omega
      unfold PL_areRows_273
      refine pc_f (nle (a := 4) (by omega) (by decide)) (pc_f i10 (n_crs S W hr4 0 (by decide) fun y26 => l_crosses P C Q N W hr4 (pd_t rfl (n_crs S W hr4 1 (by decide) fun y33 => l_crosses P C Q N W hr4 (pd_t rfl ⟨8, ?_⟩)))))
      exact l_ro_334 S Q N W hr4 (ih (r + 1) y33 (by omega)) 7 0 (by omega)
  have cps : ∀ d c : Nat, c + d = K.nc → PL_areRows_54 kc v b ap ac aq an post (d + 1) y93 (nI (sm (fun c => if pcn (K.com c) 20 = 0 then 0 else 1) c)) 1 (nI c) := by
    intro d
    induction d with
    | zero =>
      intro c hc
      have ec : c = K.nc := by omega
      subst ec
      unfold PL_areRows_54
      rw [ixL1, N.1.2.1]
      exact ⟨in7 (n := 1) (by decide), pc_t (nle' (Nat.le_refl _) (by omega)) ⟨5, rows 4 0 y93 (by omega)⟩⟩
    | succ d ih =>
      intro c hc
      have hc2 : c < K.nc := by omega
      have e := ih (c + 1) (by omega)
      rw [sm_s] at e
      unfold PL_areRows_54
      rw [ixL1, N.1.2.1]
      exact ⟨in7 (n := 1) (by decide), pc_f (nle hc2 (by omega)) (pc_f i10 ⟨K.np + 1, l_ro_74 S P C Q N W hc2 e K.np 0 (by omega)⟩)⟩
  exact cps K.nc 0 (by omega)
