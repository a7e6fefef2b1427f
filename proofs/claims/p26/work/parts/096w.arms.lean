/-! the arms of one call -/
theorem a_person {kc v b y o x ap ac aq an : Mem} {rr : Nat → Mem} {K : Kr} (H : LK K v b rr ap ac aq an) {r : Nat} (hr : r < 4) {post : PA} (k : ∀ K2 v b rr y o x ap ac aq an, LK K2 v b rr ap ac aq an → K.np ≤ K2.np → 1 ≤ K2.np → post 1 v b rr y o x ap ac aq an) : PX7_person_nt kc v b rr (nI r) (fun r6 v8 b9 r10 => PL_comes ap aq an (nI r) (-1) (fun r11 ap13 aq14 an15 => ((¬ r6 = r11) → post 0 v8 b9 r10 y o x ap13 ac aq14 an15) ∧ ((r6 = r11) → post 1 v8 b9 r10 y o x ap13 ac aq14 an15))) := by
  obtain ⟨S, W, R, P, C, Q, N⟩ := H
  refine n_person R S W hr (fun g v2 b2 r2 R2 S2 => ?_) (fun g g2 v2 b2 r2 R2 S2 => ?_)
  · show PL_comes ap aq an (nI r) (pI none) _
    refine l_comes P Q N W hr (fun _ an2 N2 => pd_t rfl (k K.ref _ _ _ _ _ _ _ _ _ _ ⟨S2, ref_wf W, R2, P, C, Q, N2⟩ (Nat.le_refl _) ?_)) (fun h1 h2 => by omega)
    show 1 ≤ K.np
    rcases g with g | g
    · have := W.od_lt hr (show 0 < K.sz r by omega); omega
    · omega
  · show PL_comes ap aq an (nI r) (pI none) _
    exact l_comes P Q N W hr (fun h => by omega) (fun _ _ ap2 aq2 an2 P2 Q2 N2 => pd_t rfl (k (K.addP r none) _ _ _ _ _ _ _ _ _ _ ⟨S2, addN_wf W hr ⟨g, g2⟩, R2, P2, C, Q2, N2⟩ (Nat.le_succ _) (Nat.succ_le_succ (Nat.zero_le _))))
theorem a_marry {kc v b y o x ap ac aq an : Mem} {rr : Nat → Mem} {K : Kr} (H : LK K v b rr ap ac aq an) (h2 : 2 ≤ K.np) {x6 : Int32} {post : PA} (k : ∀ K2 v b rr y o x ap ac aq an, LK K2 v b rr ap ac aq an → K.np ≤ K2.np → 1 ≤ K2.np → post 1 v b rr y o x ap ac aq an) : vp_in 0 7 ∧ PL_low x6 (an 0 (ix 0)) (fun r31 => vp_in 0 7 ∧ PL_low (x6 >>> (5 &&& 31)) ((an 0 (ix 0)) - 1) (fun r34 => vp_in 0 7 ∧ (¬ (an 0 (ix 0)) = 0) ∧ ∀ q38 : Int32, q38 = ((r31 + 1) + r34) - ((r31 + 1) + r34) / (an 0 (ix 0)) * (an 0 (ix 0)) → PX7_marry_nt kc v b rr r31 q38 (fun r39 v41 b42 r43 => PL_marries ap ac an r31 q38 (fun r44 ac46 an47 => ((¬ r39 = r44) → post 0 v41 b42 r43 y o x ap ac46 aq an47) ∧ ((r39 = r44) → post 1 v41 b42 r43 y o x ap ac46 aq an47))))) := by
  obtain ⟨S, W, R, P, C, Q, N⟩ := H
  have hn := W.np20
  rw [ix0, N.1.1]
  refine ⟨in7 (n := 0) (by decide), l_low (by omega) (by omega) fun a ha => ⟨in7 (n := 0) (by decide), ?_⟩⟩
  have e1 : nI K.np - 1 = nI (K.np - 1) := by
    obtain ⟨n, hn2⟩ : ∃ n, K.np = n + 1 := ⟨K.np - 1, by omega⟩
    rw [hn2, nI_pred]; rfl
  rw [e1]
  refine l_low (by omega) (by omega) fun t ht => ⟨in7 (n := 0) (by decide), nI_ne0 (by omega) (by omega), fun q38 h38 => ?_⟩
  rw [nI_1, nI_add, pk_rem (by omega) (by omega) (by omega)] at h38
  obtain ⟨c, hc⟩ : ∃ c, c = (a + 1 + t) % K.np := ⟨_, rfl⟩
  rw [← hc] at h38
  have hc1 : c < K.np := by rw [hc]; exact Nat.mod_lt _ (by omega)
  have hac : a ≠ c := by
    rcases Nat.lt_or_ge (a + 1 + t) K.np with g | g
    · rw [Nat.mod_eq_of_lt g] at hc; omega
    · rw [Nat.mod_eq_sub_mod g, Nat.mod_eq_of_lt (by omega)] at hc; omega
  subst h38
  refine n_marry R S W ha hc1 hac (fun g v2 b2 r2 R2 S2 => ?_) (fun g v2 b2 r2 R2 S2 => ?_)
  · exact l_marries P C N W hac ha hc1 (fun _ an2 N2 => pd_t rfl (k K.ref _ _ _ _ _ _ _ _ _ _ ⟨S2, ref_wf W, R2, P, C, Q, N2⟩ (Nat.le_refl _) (show 1 ≤ K.np by omega))) (fun g2 => by omega)
  · exact l_marries P C N W hac ha hc1 (fun g2 => by omega) (fun _ ac2 an2 C2 N2 => pd_t rfl (k (K.addC (min a c) (max a c)) _ _ _ _ _ _ _ _ _ _ ⟨S2, addC_wf' W hac ha hc1 g, R2, P, C2, Q, N2⟩ (Nat.le_refl _) (show 1 ≤ K.np by omega)))
theorem a_child {kc v b y o x ap ac aq an ar : Mem} {rr : Nat → Mem} {K : Kr} (H : LK K v b rr ap ac aq an) (h1 : 1 ≤ K.np) {x6 : Int32} {post : PA} (k : ∀ K2 v b rr y o x ap ac aq an, LK K2 v b rr ap ac aq an → K.np ≤ K2.np → 1 ≤ K2.np → post 1 v b rr y o x ap ac aq an) : vp_in 1 7 ∧ ((¬ (an 0 (ix 1)) = 0) → vp_in 1 7 ∧ PL_low x6 (an 0 (ix 1)) (fun r113 => PL_acts_197 kc post v b rr y o x ap ac aq an ar r113)) ∧ (((an 0 (ix 1)) = 0) → PL_acts_197 kc post v b rr y o x ap ac aq an ar 0) := by
  have H2 := H
  obtain ⟨S, W, R, P, C, Q, N⟩ := H
  have hn := W.np20
  have h10 := W.nc10
  unfold PL_acts_197
  rw [ixL1, N.1.2.1]
  refine ⟨in7 (n := 1) (by decide), ?_⟩
  by_cases g : K.nc = 0
  · rw [g]
    exact pd_t rfl ⟨in7 (n := 1) (by decide), pc_t rfl (k K _ _ _ _ _ _ _ _ _ _ H2 (Nat.le_refl _) h1)⟩
  · refine pd_f (nI_ne0 (by omega) (by omega)) ⟨in7 (n := 1) (by decide), l_low (by omega) (by omega) fun c hc => ⟨in7 (n := 1) (by decide), pc_f (nI_ne0 (by omega) (by omega)) ?_⟩⟩
    have l1 := W.lo_np hc
    have r3 := W.row3 hc
    have body : ∀ (r117 : Int32) (v119 b120 : Mem) (r121 : Nat → Mem), PL_comes ap aq an (nI (K.row (K.lo c) + 1)) (pI (some c)) (fun r124 ap126 aq127 an128 => ((¬ r117 = r124) → post 0 v119 b120 r121 y o x ap126 ac aq127 an128) ∧ ((r117 = r124) → post 1 v119 b120 r121 y o x ap126 ac aq127 an128)) → vp_in (2 * nI c) 20 ∧ vp_in (2 * (ac 0 (ix (2 * nI c)))) 40 ∧ PL_comes ap aq an ((ap 0 (ix (2 * (ac 0 (ix (2 * nI c)))))) + 1) (nI c) (fun r124 ap126 aq127 an128 => ((¬ r117 = r124) → post 0 v119 b120 r121 y o x ap126 ac aq127 an128) ∧ ((r117 = r124) → post 1 v119 b120 r121 y o x ap126 ac aq127 an128)) := fun r117 v119 b120 r121 h => by
      rw [e2, ix_nI (show 2 * c < 2 ^ 31 by omega), (C c hc).1, e2, ix_nI (show 2 * K.lo c < 2 ^ 31 by omega), (P _ l1).1, nI_1]
      exact ⟨in20 (by omega), in40 (by omega), h⟩
    refine n_child R S W hc (fun g v2 b2 r2 R2 S2 => body _ _ _ _ ?_) (fun g g2 v2 b2 r2 R2 S2 => body _ _ _ _ ?_)
    · exact l_comes P Q N W (show K.row (K.lo c) + 1 < 4 by omega) (fun _ an2 N2 => pd_t rfl (k K.ref _ _ _ _ _ _ _ _ _ _ ⟨S2, ref_wf W, R2, P, C, Q, N2⟩ (Nat.le_refl _) h1)) (fun h1 h2 => by omega)
    · exact l_comes P Q N W (show K.row (K.lo c) + 1 < 4 by omega) (fun h => by omega) (fun _ _ ap2 aq2 an2 P2 Q2 N2 => pd_t rfl (k (K.addP (K.row (K.lo c) + 1) (some c)) _ _ _ _ _ _ _ _ _ _ ⟨S2, addCh_wf W hc ⟨g, g2⟩, R2, P2, C, Q2, N2⟩ (Nat.le_succ _) (Nat.succ_le_succ (Nat.zero_le _))))
theorem a_swap {kc v b y o x ap ac aq an : Mem} {rr : Nat → Mem} {K : Kr} (H : LK K v b rr ap ac aq an) (h1 : 1 ≤ K.np) {r : Nat} (hr : r < 4) {x6 : Int32} {post : PA} (k : ∀ K2 v b rr y o x ap ac aq an, LK K2 v b rr ap ac aq an → K.np ≤ K2.np → 1 ≤ K2.np → post 1 v b rr y o x ap ac aq an) : vp_in (3 + nI r) 7 ∧ ((2 ≤ (an 0 (ix (3 + nI r)))) → vp_in (3 + nI r) 7 ∧ PL_low (x6 >>> (2 &&& 31)) ((an 0 (ix (3 + nI r))) - 1) (fun r152 => ∀ q154 : Int32, q154 = (6 * nI r) + r152 → PL_all ap ac aq an (fun r155 => vp_in q154 24 ∧ ∀ q158 : Int32, q158 = aq 0 (ix q154) → vp_in (q154 + 1) 24 ∧ vp_in q154 24 ∧ ∀ aq161 : Mem, aq161 = mset aq 0 (ix q154) (aq 0 (ix (q154 + 1))) → vp_in (q154 + 1) 24 ∧ ∀ aq163 : Mem, aq163 = mset aq161 0 (ix (q154 + 1)) q158 → PX7_swap_nt kc v b rr y (nI r) (q154 - q154 / 6 * 6) (fun r164 v166 b167 r168 y169 => PL_all ap ac aq163 an (fun r170 => ((¬ r164 = ((r170 - r155) + 100)) → post 0 v166 b167 r168 y169 o x ap ac aq163 an) ∧ ((r164 = ((r170 - r155) + 100)) → post 1 v166 b167 r168 y169 o x ap ac aq163 an)))))) ∧ ((¬ 2 ≤ (an 0 (ix (3 + nI r)))) → PX7_at_nt kc v (nI r) 1 (fun r173 => ((¬ r173 = ((-1))) → post 0 v b rr y o x ap ac aq an) ∧ ((r173 = ((-1))) → post 1 v b rr y o x ap ac aq an))) := by
  have H2 := H
  obtain ⟨S, W, R, P, C, Q, N⟩ := H
  have h6 := W.sz6 hr
  rw [e3, ix_nI (show 3 + r < 2 ^ 31 by omega), N.2 r hr]
  refine ⟨in7 (by omega), ?_⟩
  by_cases g : 2 ≤ K.sz r
  · refine pc_t (nle' (a := 2) g (by omega)) ⟨in7 (by omega), ?_⟩
    have e1 : nI (K.sz r) - 1 = nI (K.sz r - 1) := by
      obtain ⟨n, hn2⟩ : ∃ n, K.sz r = n + 1 := ⟨K.sz r - 1, by omega⟩
      rw [hn2, nI_pred]; rfl
    rw [e1]
    refine l_low (by omega) (by omega) fun q hq q154 h154 => l_all P C Q N W ?_
    rw [e6] at h154
    subst h154
    rw [nI_1, ix_nI (show 6 * r + q < 2 ^ 31 by omega), ix_nI (show 6 * r + q + 1 < 2 ^ 31 by omega), rem6 (by omega), show (6 * r + q) % 6 = q by omega]
    have hq2 : q + 1 < K.sz r := by omega
    have a1 := Q r q hr (by omega)
    have a2 := Q r (q + 1) hr hq2
    refine ⟨in24 (by omega), fun q158 h158 => ⟨in24 (by omega), in24 (by omega), fun aq1 f1 => ⟨in24 (by omega), fun aq2 f2 => ?_⟩⟩⟩
    subst h158
    have ea : aq2 0 = upd (upd (aq 0) (6 * r + q) (aq 0 (6 * r + q + 1))) (6 * r + q + 1) (aq 0 (6 * r + q)) := by rw [f2, mset_a, f1, mset_a]
    have O2 := isO_trs (isO_od W hr) (show q < K.sz r by omega) hq2
    have W2 := setO_wf W O2
    have Q2 : rQ aq2 (K.setO r (fun k => K.od r (trs q (q + 1) k))) := by
      refine rQ_set Q W hr (fun j hj => ?_) (fun z hz => ?_)
      · rw [ea, upd_o _ _ (by omega), upd_o _ _ (by omega)]
      · rw [ea]
        by_cases y1 : z = q
        · subst y1
          rw [upd_o _ _ (by omega), upd_a, trs_a]; exact a2
        · by_cases y2 : z = q + 1
          · subst y2
            rw [show 6 * r + (q + 1) = 6 * r + q + 1 from rfl, upd_a, trs_b]; exact a1
          · rw [upd_o _ _ (by omega), upd_o _ _ (by omega), trs_o y1 y2]; exact Q r z hr hz
    refine n_swap R S W hr hq2 fun v2 b2 r2 y2 R2 S2 => l_all (K := K.setO r (fun k => K.od r (trs q (q + 1) k))) P C Q2 N W2 (pd_t rfl (k _ _ _ _ _ _ _ _ _ _ _ ⟨S2, W2, R2, P, C, Q2, N⟩ (Nat.le_refl _) h1))
  · refine pc_f (nle (a := 2) (by omega) (by decide)) ?_
    refine n_at S W hr (q := 1) (by decide) ?_
    rw [show K.atv r 1 = -1 from if_neg (by omega)]
    exact pd_t rfl (k K _ _ _ _ _ _ _ _ _ _ H2 (Nat.le_refl _) h1)
theorem a_untangle {kc v b y o x ap ac aq an : Mem} {rr : Nat → Mem} {K : Kr} (H : LK K v b rr ap ac aq an) (h1 : 1 ≤ K.np) {r : Nat} (hr : r < 4) {post : PA} (k : ∀ K2 v b rr y o x ap ac aq an, LK K2 v b rr ap ac aq an → K.np ≤ K2.np → 1 ≤ K2.np → post 1 v b rr y o x ap ac aq an) : PL_best ap ac aq an (nI r) (fun r240 => PL_lays aq an (nI r) r240 (fun aq243 => PX7_untangle_nt kc v b rr x (nI r) (fun r244 v246 b247 r248 x249 => PL_ofTwo ap ac aq243 an (nI r) (fun r250 => ((¬ r244 = r250) → post 0 v246 b247 r248 y o x249 ap ac aq243 an) ∧ ((r244 = r250) → post 1 v246 b247 r248 y o x249 ap ac aq243 an))))) := by
  obtain ⟨S, W, R, P, C, Q, N⟩ := H
  refine l_best P C Q N W hr fun bb hb hL => l_layb Q N W hr hb hL fun aq2 Q2 => n_untangle R S W hr fun v2 b2 r2 x2 R2 S2 => ?_
  have W2 := setO_wf W (lo2_isO W hr)
  refine l_ofTwo (K := K.setO r (K.lo2 r)) P C Q2 N W2 hr ?_
  rw [lo2_Yo W hr]
  exact pd_t rfl (k _ _ _ _ _ _ _ _ _ _ _ ⟨S2, W2, R2, P, C, Q2, N⟩ (Nat.le_refl _) h1)
theorem l_acts {kc v b y o x ap ac aq an : Mem} {rr : Nat → Mem} {K : Kr} (H : LK K v b rr ap ac aq an) {p6 p7 : Int32} {post : PA} (k : ∀ K2 v b rr y o x ap ac aq an, LK K2 v b rr ap ac aq an → 1 ≤ K2.np → post 1 v b rr y o x ap ac aq an) : PL_acts kc v b rr y o x ap ac aq an p6 p7 post := by
  have W := H.2.1
  have N := H.2.2.2.2.2.2
  have hn := W.np20
  have k' : ∀ K2 v b rr y o x ap ac aq an, LK K2 v b rr ap ac aq an → K.np ≤ K2.np → 1 ≤ K2.np → post 1 v b rr y o x ap ac aq an := fun K2 v b rr y o x ap ac aq an h _ g => k K2 v b rr y o x ap ac aq an h g
  unfold PL_acts
  refine l_low (n := 4) (by decide) (by decide) fun r hr => ⟨in7 (n := 0) (by decide), ?_⟩
  rw [ix0, N.1.1]
  by_cases g : 2 ≤ K.np
  · refine pc_t (nle' (a := 2) g (by omega)) ?_
    unfold PL_acts_22
    have h1 : 1 ≤ K.np := by omega
    have m := a_marry (kc := kc) (y := y) (o := o) (x := x) H g (x6 := p7) k'
    have c := a_child (kc := kc) (y := y) (o := o) (x := x) (ar := deadM) H h1 (x6 := p7) k'
    have s := a_swap (kc := kc) (y := y) (o := o) (x := x) H h1 hr (x6 := p7) k'
    have p := a_person (kc := kc) (y := y) (o := o) (x := x) H hr k'
    exact ⟨fun _ => p, fun _ => ⟨fun _ => p, fun _ => ⟨fun _ => m, fun _ => ⟨fun _ => m, fun _ => ⟨fun _ => m, fun _ => ⟨fun _ => m, fun _ => ⟨fun _ => c, fun _ => ⟨fun _ => c, fun _ => ⟨fun _ => c, fun _ => ⟨fun _ => c, fun _ => ⟨fun _ => s, fun _ => ⟨fun _ => s, fun _ => ⟨fun _ => l_copy fun ar h => a_by H hr (fun K2 v b rr y o x ap ac aq an h e => k K2 v b rr y o x ap ac aq an h (by omega)) h, fun _ => a_untangle H h1 hr k'⟩⟩⟩⟩⟩⟩⟩⟩⟩⟩⟩⟩⟩
  · refine pc_f (nle (a := 2) (by omega) (by decide)) ?_
    unfold PL_acts_22
    exact ⟨fun _ => a_person H hr k', fun h => absurd rfl h⟩
