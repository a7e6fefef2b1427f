/-! what the looks tell, by what is asked -/
theorem out_ne {x : Int32} {n : Nat} (h : x < 0 ∨ nI n ≤ x) (hn : n < 2 ^ 31) : ∀ j, j < n → ¬ x = nI j := fun j hj e => by
  rw [e] at h
  rcases h with h | h
  · exact nI_lt0 (by omega) h
  · exact nle hj hn h
noncomputable def Kr.kv (K : Kr) (n : Nat) : Nat → Int32
  | 0 => nI K.np
  | 1 => nI K.nc
  | 2 => nI K.lines
  | 3 => nI K.XA
  | 4 => nI K.bent
  | 5 => nI K.dbl
  | 6 => nI K.kin
  | 7 => K.rf
  | _ => nI n
theorem c_cnt_x {kc v b y : Mem} {K : Kr} {n : Nat} (C : CS v K) (W : WF K) (hb : b 2 0 = nI n) {post : Int32 → Mem → Prop} {xp : Nat → Prop} : ∀ i, i < 9 → (∀ y, post (K.kv n i) y) → PX7_count_x kc v b y (nI i) post xp
  | 0, _, k => pc_t rfl (by show post (v 7 0) y; rw [C.1.1]; exact k y)
  | 1, _, k => pc_f (by decide) (pc_t rfl (by show post (v 8 0) y; rw [C.1.2.1]; exact k y))
  | 2, _, k => pc_f (by decide) (pc_f (by decide) (pc_t rfl (c_lines C W (k y))))
  | 3, _, k => pc_f (by decide) (pc_f (by decide) (pc_f (by decide) (pc_t rfl (c_allCrossings C W k))))
  | 4, _, k => pc_f (by decide) (pc_f (by decide) (pc_f (by decide) (pc_f (by decide) (pc_t rfl (c_bentLines C W (k y))))))
  | 5, _, k => pc_f (by decide) (pc_f (by decide) (pc_f (by decide) (pc_f (by decide) (pc_f (by decide) (pc_t rfl (c_doubles C W (k y)))))))
  | 6, _, k => pc_f (by decide) (pc_f (by decide) (pc_f (by decide) (pc_f (by decide) (pc_f (by decide) (pc_f (by decide) (pc_t rfl (c_kin C W (k y))))))))
  | 7, _, k => pc_f (by decide) (pc_f (by decide) (pc_f (by decide) (pc_f (by decide) (pc_f (by decide) (pc_f (by decide) (pc_f (by decide) (pc_t rfl (by show post (v 9 0) y; rw [C.1.2.2]; exact k y))))))))
  | 8, _, k => pc_f (by decide) (pc_f (by decide) (pc_f (by decide) (pc_f (by decide) (pc_f (by decide) (pc_f (by decide) (pc_f (by decide) (pc_f (by decide) (pc_t rfl (by show post (b 2 0) y; rw [hb]; exact k y)))))))))
  | i + 9, h, _ => absurd h (by omega)
theorem c_cnt_bad {kc v b y : Mem} {x : Int32} (h : x < 0 ∨ nI 9 ≤ x) {post : Int32 → Mem → Prop} {xp : Nat → Prop} (k : xp 1) : PX7_count_x kc v b y x post xp := by
  have ne := out_ne h (by decide)
  exact pc_f (ne 0 (by decide)) (pc_f (ne 1 (by decide)) (pc_f (ne 2 (by decide)) (pc_f (ne 3 (by decide)) (pc_f (ne 4 (by decide)) (pc_f (ne 5 (by decide)) (pc_f (ne 6 (by decide)) (pc_f (ne 7 (by decide)) (pc_f (ne 8 (by decide)) k))))))))
theorem m_cnt0 {w : Mem} {hs : Int64} {K : Kr} {n : Nat} (M : MS (w 0) K) (W : WF K) (h2 : w 2 0 = nI n) {post : Int32 → Mem → Prop} : ∀ i, i < 9 → (∀ w2, FR w w2 → post (K.kv n i) w2) → PX8_count0 w hs (nI i) post
  | 0, _, k => pc_t rfl ⟨in91 (n := 0) (by decide), by rw [ix0, M.1.1]; exact k w (FR.rf w)⟩
  | 1, _, k => pc_f (by decide) (pc_t rfl ⟨in91 (n := 1) (by decide), by rw [ix1, M.1.2.1]; exact k w (FR.rf w)⟩)
  | 2, _, k => pc_f (by decide) (pc_f (by decide) (pc_t rfl (m_allLines M W (k w (FR.rf w)))))
  | 3, _, k => pc_f (by decide) (pc_f (by decide) (pc_f (by decide) (pc_t rfl (m_allCrossings M W k))))
  | 4, _, k => pc_f (by decide) (pc_f (by decide) (pc_f (by decide) (pc_f (by decide) (pc_t rfl (m_bent M W k)))))
  | 5, _, k => pc_f (by decide) (pc_f (by decide) (pc_f (by decide) (pc_f (by decide) (pc_f (by decide) (pc_t rfl (m_doubles M W (k w (FR.rf w))))))))
  | 6, _, k => pc_f (by decide) (pc_f (by decide) (pc_f (by decide) (pc_f (by decide) (pc_f (by decide) (pc_f (by decide) (pc_t rfl (m_akin M W (k w (FR.rf w)))))))))
  | 7, _, k => pc_f (by decide) (pc_f (by decide) (pc_f (by decide) (pc_f (by decide) (pc_f (by decide) (pc_f (by decide) (pc_f (by decide) (pc_t rfl ⟨in91 (n := 2) (by decide), by rw [ix2, M.1.2.2]; exact k w (FR.rf w)⟩)))))))
  | 8, _, k => pc_f (by decide) (pc_f (by decide) (pc_f (by decide) (pc_f (by decide) (pc_f (by decide) (pc_f (by decide) (pc_f (by decide) (pc_f (by decide) (by rw [h2]; exact k w (FR.rf w)))))))))
  | i + 9, h, _ => absurd h (by omega)
noncomputable def Kr.pv (K : Kr) (p : Nat) : Nat → Int32
  | 0 => nI (K.row p)
  | 1 => nI (K.pl p)
  | 2 => pI (K.par p)
  | 3 => nI (K.ct p)
  | 4 => nI (K.chW p)
  | 5 => nI (K.desc p)
  | _ => nI (pcn (K.anc p) 20)
theorem c_per_x {kc v : Mem} {K : Kr} (C : CS v K) (W : WF K) {p : Nat} (hp : p < K.np) {post : Int32 → Prop} {xp : Nat → Prop} : ∀ i, i < 7 → post (K.pv p i) → PX7_personOf_x kc v (nI p) (nI i) post xp := fun i hi k => by
  have hn := W.np20
  refine c_isPerson C W hp (pd_f i10 ?_)
  match i, hi, k with
  | 0, _, k => exact pc_t rfl (c_rowOf C W hp k)
  | 1, _, k => exact pc_f (by decide) (pc_t rfl (c_placeOf C W hp k))
  | 2, _, k => exact pc_f (by decide) (pc_f (by decide) (pc_t rfl (c_parentsOf C W hp k)))
  | 3, _, k => exact pc_f (by decide) (pc_f (by decide) (pc_f (by decide) (pc_t rfl (c_couplesWith C W (by omega) k))))
  | 4, _, k => exact pc_f (by decide) (pc_f (by decide) (pc_f (by decide) (pc_f (by decide) (pc_t rfl (c_childrenWith C W (by omega) k)))))
  | 5, _, k => exact pc_f (by decide) (pc_f (by decide) (pc_f (by decide) (pc_f (by decide) (pc_f (by decide) (pc_t rfl (c_descCount C W hp k))))))
  | 6, _, k => exact pc_f (by decide) (pc_f (by decide) (pc_f (by decide) (pc_f (by decide) (pc_f (by decide) (pc_f (by decide) (pc_t rfl (c_ancCount C W hp k)))))))
  | i + 7, h, _ => exact absurd h (by omega)
theorem c_per_bad {kc v : Mem} {K : Kr} (C : CS v K) (W : WF K) {p : Nat} (hp : p < K.np) {x : Int32} (h : x < 0 ∨ nI 7 ≤ x) {post : Int32 → Prop} {xp : Nat → Prop} (k : xp 1) : PX7_personOf_x kc v (nI p) x post xp := by
  have ne := out_ne h (by decide)
  exact c_isPerson C W hp (pd_f i10 (pc_f (ne 0 (by decide)) (pc_f (ne 1 (by decide)) (pc_f (ne 2 (by decide)) (pc_f (ne 3 (by decide)) (pc_f (ne 4 (by decide)) (pc_f (ne 5 (by decide)) (pc_f (ne 6 (by decide)) k))))))))
theorem m_ofPer {w : Mem} {hs : Int64} {K : Kr} (M : MS (w 0) K) (W : WF K) {p : Nat} (hp : p < K.np) {post : Int32 → Prop} : ∀ i, i < 7 → post (K.pv p i) → PX8_ofPerson w hs (nI p) (nI i) post := fun i hi k => by
  have hn := W.np20
  match i, hi, k with
  | 0, _, k => exact pc_t rfl (m_rowOf M W hp k)
  | 1, _, k => exact pc_f (by decide) (pc_t rfl (m_placeOf M W hp k))
  | 2, _, k => exact pc_f (by decide) (pc_f (by decide) (pc_t rfl (m_parentsOf M W hp k)))
  | 3, _, k => exact pc_f (by decide) (pc_f (by decide) (pc_f (by decide) (pc_t rfl (m_couplesOf M W (by omega) k))))
  | 4, _, k => exact pc_f (by decide) (pc_f (by decide) (pc_f (by decide) (pc_f (by decide) (pc_t rfl (m_allChildren M W (by omega) k)))))
  | 5, _, k => exact pc_f (by decide) (pc_f (by decide) (pc_f (by decide) (pc_f (by decide) (pc_f (by decide) (pc_t rfl (m_descending M W hp k))))))
  | 6, _, k => exact pc_f (by decide) (pc_f (by decide) (pc_f (by decide) (pc_f (by decide) (pc_f (by decide) (pc_f (by decide) (m_anc M W hp (m_ones k)))))))
  | i + 7, h, _ => exact absurd h (by omega)
noncomputable def Kr.cv (K : Kr) (c : Nat) : Nat → Int32
  | 0 => nI (K.lo c)
  | 1 => nI (K.hi c)
  | 2 => nI (K.row (K.lo c))
  | 3 => nI (K.mid c)
  | 4 => nI (K.ch c)
  | _ => nI (pcn (K.com c) 20)
theorem c_cpl_x {kc v : Mem} {K : Kr} (C : CS v K) (W : WF K) {c : Nat} (hc : c < K.nc) {post : Int32 → Prop} {xp : Nat → Prop} : ∀ i, i < 6 → post (K.cv c i) → PX7_coupleOf_x kc v (nI c) (nI i) post xp := fun i hi k => by
  have hn := W.nc10
  refine c_isCouple C W hc (pd_f i10 ?_)
  match i, hi, k with
  | 0, _, k => exact pc_t rfl (c_lesserOf C W hc k)
  | 1, _, k => exact pc_f (by decide) (pc_t rfl (c_greaterOf C W hc k))
  | 2, _, k => exact pc_f (by decide) (pc_f (by decide) (pc_t rfl (c_lesserOf C W hc (c_rowOf C W (W.lo_np hc) k))))
  | 3, _, k => exact pc_f (by decide) (pc_f (by decide) (pc_f (by decide) (pc_t rfl (c_middleOf C W hc k))))
  | 4, _, k => exact pc_f (by decide) (pc_f (by decide) (pc_f (by decide) (pc_f (by decide) (pc_t rfl (c_childrenOf C W (by omega) k)))))
  | 5, _, k => exact pc_f (by decide) (pc_f (by decide) (pc_f (by decide) (pc_f (by decide) (pc_f (by decide) (pc_t rfl (c_common C W hc (bitCount_of (fun i h1 h2 => com_hi W hc h1 h2) k)))))))
  | i + 6, h, _ => exact absurd h (by omega)
theorem c_cpl_bad {kc v : Mem} {K : Kr} (C : CS v K) (W : WF K) {p : Nat} (hp : p < K.nc) {x : Int32} (h : x < 0 ∨ nI 6 ≤ x) {post : Int32 → Prop} {xp : Nat → Prop} (k : xp 1) : PX7_coupleOf_x kc v (nI p) x post xp := by
  have ne := out_ne h (by decide)
  exact c_isCouple C W hp (pd_f i10 (pc_f (ne 0 (by decide)) (pc_f (ne 1 (by decide)) (pc_f (ne 2 (by decide)) (pc_f (ne 3 (by decide)) (pc_f (ne 4 (by decide)) (pc_f (ne 5 (by decide)) k)))))))
theorem m_ofCpl {w : Mem} {hs : Int64} {K : Kr} (M : MS (w 0) K) (W : WF K) {c : Nat} (hc : c < K.nc) {post : Int32 → Prop} : ∀ i, i < 6 → post (K.cv c i) → PX8_ofCouple w hs (nI c) (nI i) post := fun i hi k => by
  have hn := W.nc10
  match i, hi, k with
  | 0, _, k => exact pc_t rfl (m_one M W hc k)
  | 1, _, k => exact pc_f (by decide) (pc_t rfl (m_other M W hc k))
  | 2, _, k => exact pc_f (by decide) (pc_f (by decide) (pc_t rfl (m_one M W hc (m_rowOf M W (W.lo_np hc) k))))
  | 3, _, k => exact pc_f (by decide) (pc_f (by decide) (pc_f (by decide) (pc_t rfl (m_middle M W hc k))))
  | 4, _, k => exact pc_f (by decide) (pc_f (by decide) (pc_f (by decide) (pc_f (by decide) (pc_t rfl (m_childrenOf M W (by omega) k)))))
  | 5, _, k => exact pc_f (by decide) (pc_f (by decide) (pc_f (by decide) (pc_f (by decide) (pc_f (by decide) (m_common M W hc k)))))
  | i + 6, h, _ => exact absurd h (by omega)
def Kr.atv (K : Kr) (r q : Nat) : Int32 := if q < K.sz r then nI (K.od r q) else -1
theorem c_at_x {kc v : Mem} {K : Kr} (C : CS v K) (W : WF K) {r q : Nat} (hr : r < 4) (hq : q < 2 ^ 31) {post : Int32 → Prop} {xp : Nat → Prop} (k : post (K.atv r q)) : PX7_at_x kc v (nI r) (nI q) post xp := by
  refine crow_ok hr (pd_f i10 (pc_t (nI_pos' hq) ?_))
  unfold Kr.atv at k
  by_cases g : q < K.sz r
  · rw [if_pos g] at k; exact c_personAt C W hr g k
  · rw [if_neg g] at k
    exact pc_f (nI_lt0 hq) (c_sizeOf C hr (pc_t (nle' (by omega) hq) k))
theorem m_at {w : Mem} {hs : Int64} {K : Kr} (M : MS (w 0) K) (W : WF K) {r q : Nat} (hr : r < 4) (hq : q < 2 ^ 31) {post : Int32 → Prop} (k : post (K.atv r q)) : PX8_personAt w hs (nI r) (nI q) post := by
  have h6 := W.sz6 hr
  unfold Kr.atv at k
  unfold PX8_personAt
  rw [n63I, nI_add, ix_nI (show 63 + r < 2 ^ 31 by omega), M.2.2.2.1 r hr]
  refine ⟨in91 (by omega), ?_⟩
  by_cases g : q < K.sz r
  · rw [if_pos g] at k; exact pc_f (nle g (by omega)) (m_whoIs M W hr g k)
  · rw [if_neg g] at k; exact pc_t (nle' (by omega) hq) k
theorem c_crs_x {kc v y : Mem} {K : Kr} (C : CS v K) (W : WF K) {r : Nat} (hr : r < 4) {post : Int32 → Mem → Prop} {xp : Nat → Prop} : ∀ i, i < 2 → (∀ y, post (nI (K.X r)) y) → PX7_crossings_x kc v y (nI r) (nI i) post xp
  | 0, _, k => crow_ok hr (pd_f i10 (pc_t rfl (c_collect C W hr fun y6 m h2 hl => pd_t rfl (c_crossedPairs W hr h2 hl (k y6)))))
  | 1, _, k => crow_ok hr (pd_f i10 (pc_f (by decide) (pc_t rfl (c_collect C W hr fun y6 m h2 hl => pd_f (by decide) (c_crossedOneByOne W hr h2 hl k)))))
  | i + 2, h, _ => absurd h (by omega)
theorem c_lst_x {kc v x : Mem} {K : Kr} (C : CS v K) (W : WF K) {r : Nat} (hr : r < 4) {post : Int32 → Mem → Prop} {xp : Nat → Prop} : ∀ i, i < 2 → (∀ y, post (nI (K.lst r).1) y) → PX7_least_x kc v x (nI r) (nI i) post xp
  | 0, _, k => crow_ok hr (pd_f i10 (pc_t rfl (c_prepare C W hr fun _ _ _ P O => pd_t rfl (c_leastAll W hr P O fun x2 _ _ => k x2))))
  | 1, _, k => crow_ok hr (pd_f i10 (pc_f (by decide) (pc_t rfl (c_prepare C W hr fun _ _ _ P O => pd_f (by decide) (c_leastLay W hr P O k)))))
  | i + 2, h, _ => absurd h (by omega)
theorem c_nearX {kc v : Mem} {K : Kr} (C : CS v K) (W : WF K) {p o : Nat} (hp : p < K.np) (ho : o < K.np) {post : Int32 → Prop} {xp : Nat → Prop} (k : post (K.nr p o K.np)) : PX7_nearness_x kc v (nI p) (nI o) post xp :=
  c_isPerson C W hp (pc_f i10 (c_isPerson C W ho (pd_f i10 (c_near C W hp ho k))))
