/-! The looks of the other one. -/
theorem in91 {n : Nat} (h : n < 91) : vp_in (nI n) 91 := in_nI h (by decide)
theorem m_in {a b : Nat} {x : Nat} (hx : x < 2 ^ 31) (ha : a < 2 ^ 31) (hb : b < 2 ^ 31) {post : Int32 → Prop} (k1 : a ≤ x → x ≤ b → post 1) (k0 : ¬ (a ≤ x ∧ x ≤ b) → post 0) : PX8_in (nI x) (nI a) (nI b) post := by
  by_cases h1 : x < a
  · exact pc_t (nI_lt h1 ha) (k0 (by omega))
  · refine pc_f (nI_nlt (by omega) hx) ?_
    by_cases h2 : b < x
    · exact pc_t (nI_lt h2 hx) (k0 (by omega))
    · exact pc_f (nI_nlt (by omega) hb) (k1 (by omega) (by omega))
theorem m_rowOf {w : Mem} {hs : Int64} {K : Kr} (M : MS (w 0) K) (W : WF K) {p : Nat} (hp : p < K.np) {post : Int32 → Prop} (k : post (nI (K.row p))) : PX8_rowOf w hs (nI p) post := by
  have hb := W.np20
  unfold PX8_rowOf
  rw [n3I, n2I, pk_mul, nI_add, ix_nI (by omega), (M.2.1 p hp).1]
  exact ⟨in91 (by omega), k⟩
theorem m_parentsOf {w : Mem} {hs : Int64} {K : Kr} (M : MS (w 0) K) (W : WF K) {p : Nat} (hp : p < K.np) {post : Int32 → Prop} (k : post (pI (K.par p))) : PX8_parentsOf w hs (nI p) post := by
  have hb := W.np20
  unfold PX8_parentsOf
  rw [n3I, n2I, pk_mul, nI_add, nI_1, ix_nI (by omega), show 3 + 2 * p + 1 = 4 + 2 * p by omega, (M.2.1 p hp).2]
  exact ⟨in91 (by omega), k⟩
theorem m_one {w : Mem} {hs : Int64} {K : Kr} (M : MS (w 0) K) (W : WF K) {c : Nat} (hc : c < K.nc) {post : Int32 → Prop} (k : post (nI (K.lo c))) : PX8_one w hs (nI c) post := by
  have hb := W.nc10
  unfold PX8_one
  rw [n43I, n2I, pk_mul, nI_add, ix_nI (by omega), (M.2.2.1 c hc).1]
  exact ⟨in91 (by omega), k⟩
theorem m_other {w : Mem} {hs : Int64} {K : Kr} (M : MS (w 0) K) (W : WF K) {c : Nat} (hc : c < K.nc) {post : Int32 → Prop} (k : post (nI (K.hi c))) : PX8_other w hs (nI c) post := by
  have hb := W.nc10
  unfold PX8_other
  rw [n43I, n2I, pk_mul, nI_add, nI_1, ix_nI (by omega), show 43 + 2 * c + 1 = 44 + 2 * c by omega, (M.2.2.1 c hc).2]
  exact ⟨in91 (by omega), k⟩
theorem m_whoIsG {w : Mem} {hs : Int64} {r q : Nat} (hr : r < 4) (hq : q < 6) {post : Int32 → Prop} (k : post (w 0 (67 + 6 * r + q))) : PX8_whoIs w hs (nI r) (nI q) post := by
  unfold PX8_whoIs
  rw [n67I, n6I, pk_mul, nI_add, nI_add, ix_nI (by omega)]
  exact ⟨in91 (by omega), k⟩
theorem m_whoIs {w : Mem} {hs : Int64} {K : Kr} (M : MS (w 0) K) (W : WF K) {r q : Nat} (hr : r < 4) (hq : q < K.sz r) {post : Int32 → Prop} (k : post (nI (K.od r q))) : PX8_whoIs w hs (nI r) (nI q) post := by
  have hb := W.sz6 hr
  refine m_whoIsG hr (by omega) ?_
  rw [M.2.2.2.2 r q hr hq]; exact k
theorem m_placeOf_l {w : Mem} {hs : Int64} {K : Kr} (M : MS (w 0) K) (W : WF K) {p : Nat} (hp : p < K.np) {post : Int32 → Prop} (k : post (nI (K.pl p))) : ∀ d i : Nat, i + d = K.pl p → PX8_placeOf_8 w hs post (d + 1) (nI p) (nI (K.row p)) (nI i) := by
  have hb := W.np20
  have hr := W.row4 hp
  have h6 := W.sz6 hr
  obtain ⟨h1, h2⟩ := W.pl_sz hp
  intro d
  induction d with
  | zero =>
    intro i hi
    unfold PX8_placeOf_8
    refine m_whoIs M W hr (by omega) ?_
    rw [show i = K.pl p by omega, h2]
    exact pc_t rfl k
  | succ d ih =>
    intro i hi
    unfold PX8_placeOf_8
    refine m_whoIs M W hr (by omega) ?_
    have hi2 : i < K.sz (K.row p) := by omega
    have h3 := W.od_lt hr hi2
    rw [nI_1]
    refine pc_f (nne (by omega) (by omega) (fun e => ?_)) (ih (i + 1) (by omega))
    have h4 := W.pl_od hr hi2
    rw [e] at h4
    omega
theorem m_placeOf {w : Mem} {hs : Int64} {K : Kr} (M : MS (w 0) K) (W : WF K) {p : Nat} (hp : p < K.np) {post : Int32 → Prop} (k : post (nI (K.pl p))) : PX8_placeOf w hs (nI p) post :=
  m_rowOf M W hp ⟨_, m_placeOf_l M W hp k (K.pl p) 0 (by omega)⟩
theorem m_middle {w : Mem} {hs : Int64} {K : Kr} (M : MS (w 0) K) (W : WF K) {c : Nat} (hc : c < K.nc) {post : Int32 → Prop} (k : post (nI (K.mid c))) : PX8_middle w hs (nI c) post := by
  refine m_one M W hc (m_placeOf M W (W.lo_np hc) (m_other M W hc (m_placeOf M W (W.hi_np hc) ?_)))
  rw [nI_add]; exact k
theorem m_couplesOf_l {w : Mem} {hs : Int64} {K : Kr} (M : MS (w 0) K) (W : WF K) {p : Nat} (hp : p < 20) {post : Int32 → Prop} (k : post (nI (sm (fun c => K.has c p) K.nc))) : ∀ d i : Nat, i + d = K.nc → PX8_couplesOf_4 w hs post (d + 1) (nI p) (nI (sm (fun c => K.has c p) i)) (nI i) := by
  have hb := W.nc10
  have l3 := W.np20
  intro d
  induction d with
  | zero =>
    intro i hi
    unfold PX8_couplesOf_4
    rw [n1I, ix_nI (by omega), M.1.2.1, show i = K.nc by omega]
    exact ⟨in91 (by omega), pc_t (nle' (Nat.le_refl _) (by omega)) k⟩
  | succ d ih =>
    intro i hi
    have hc : i < K.nc := by omega
    have l1 := W.lo_np hc
    have l2 := W.hi_np hc
    have e := ih (i + 1) (by omega)
    rw [sm_s] at e
    unfold PX8_couplesOf_4
    rw [n1I, ix_nI (by omega), M.1.2.1]
    refine ⟨in91 (by omega), pc_f (nle (by omega) (by omega)) (m_one M W hc ?_)⟩
    rw [nI_add i 1]
    by_cases h1 : K.lo i = p
    · rw [show K.has i p = 1 from if_pos (Or.inl h1)] at e
      refine pc_t (by rw [h1]) fun q hq => ?_
      rw [hq, nI_add]; exact e
    · refine pc_f (nne (by omega) (by omega) h1) (m_other M W hc ?_)
      by_cases h2 : K.hi i = p
      · rw [show K.has i p = 1 from if_pos (Or.inr h2)] at e
        refine pd_t (by rw [h2]) fun q hq => ?_
        rw [hq, nI_add]; exact e
      · rw [show K.has i p = 0 from if_neg (fun h => h.elim h1 h2)] at e
        refine pd_f (nne (by omega) (by omega) h2) fun q hq => ?_
        rw [hq, n0I, nI_add]; exact e
theorem m_couplesOf {w : Mem} {hs : Int64} {K : Kr} (M : MS (w 0) K) (W : WF K) {p : Nat} (hp : p < 20) {post : Int32 → Prop} (k : post (nI (sm (fun c => K.has c p) K.nc))) : PX8_couplesOf w hs (nI p) post := ⟨_, m_couplesOf_l M W hp k K.nc 0 (by omega)⟩
theorem m_areCouple_l1 {w : Mem} {hs : Int64} {K : Kr} (M : MS (w 0) K) (W : WF K) {x1 x2 : Int32} {post : Int32 → Prop} (k1 : post 1) : ∀ d i : Nat, i + d = K.nc → PX8_areCouple_5 w hs post (d + 1) x1 x2 1 (nI i) := by
  have hn := W.nc10
  intro d
  induction d with
  | zero =>
    intro i hi
    unfold PX8_areCouple_5
    rw [n1I, ix_nI (by omega), M.1.2.1, show i = K.nc by omega]
    exact ⟨in91 (by omega), pc_t (nle' (Nat.le_refl _) (by omega)) ⟨Or.inr rfl, k1⟩⟩
  | succ d ih =>
    intro i hi
    have e := ih (i + 1) (by omega)
    unfold PX8_areCouple_5
    rw [n1I, ix_nI (by omega), M.1.2.1, nI_add]
    exact ⟨in91 (by omega), pc_f (nle (by omega) (by omega)) (pd_f i10 e)⟩
theorem m_areCouple_l {w : Mem} {hs : Int64} {K : Kr} (M : MS (w 0) K) (W : WF K) {a b : Nat} (ha : a < 20) (hb : b < 20) {post : Int32 → Prop} (k1 : K.are a b → post 1) (k0 : ¬ K.are a b → post 0) : ∀ d i : Nat, i + d = K.nc → (∀ c, c < i → ¬ (K.lo c = a ∧ K.hi c = b)) → PX8_areCouple_5 w hs post (d + 1) (nI a) (nI b) 0 (nI i) := by
  have hn := W.nc10
  have l3 := W.np20
  intro d
  induction d with
  | zero =>
    intro i hi hz
    unfold PX8_areCouple_5
    rw [n1I, ix_nI (by omega), M.1.2.1, show i = K.nc by omega]
    exact ⟨in91 (by omega), pc_t (nle' (Nat.le_refl _) (by omega)) ⟨Or.inl rfl, k0 fun ⟨c, h1, h2⟩ => hz c (by omega) h2⟩⟩
  | succ d ih =>
    intro i hi hz
    have hc : i < K.nc := by omega
    have l1 := W.lo_np hc
    have l2 := W.hi_np hc
    have e : ¬ (K.lo i = a ∧ K.hi i = b) → PX8_areCouple_5 w hs post (d + 1) (nI a) (nI b) 0 (nI (i + 1)) := fun hne => by
      refine ih (i + 1) (by omega) fun c h => ?_
      rcases Nat.lt_succ_iff_lt_or_eq.mp h with h | rfl
      · exact hz c h
      · exact hne
    unfold PX8_areCouple_5
    rw [n1I, ix_nI (by omega), M.1.2.1, nI_add]
    refine ⟨in91 (by omega), pc_f (nle (by omega) (by omega)) (pd_t rfl (m_one M W hc ?_))⟩
    by_cases h1 : K.lo i = a
    · refine pd_t (by rw [h1]) (m_other M W hc ?_)
      by_cases h2 : K.hi i = b
      · exact pd_t (by rw [h2]) (m_areCouple_l1 M W (k1 ⟨i, hc, h1, h2⟩) d (i + 1) (by omega))
      · exact pd_f (nne (by omega) (by omega) h2) (e fun h => h2 h.2)
    · exact pd_f (nne (by omega) (by omega) h1) (e fun h => h1 h.1)
theorem m_areCouple {w : Mem} {hs : Int64} {K : Kr} (M : MS (w 0) K) (W : WF K) {a b : Nat} (ha : a < 20) (hb : b < 20) {post : Int32 → Prop} (k1 : K.are a b → post 1) (k0 : ¬ K.are a b → post 0) : PX8_areCouple w hs (nI a) (nI b) post := ⟨_, m_areCouple_l M W ha hb k1 k0 K.nc 0 (by omega) (fun c h => absurd h (by omega))⟩
