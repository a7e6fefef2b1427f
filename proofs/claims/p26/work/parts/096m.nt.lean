/-! the calls that the law makes, without throws -/
theorem crow_ok {r : Nat} (h : r < 4) {post : Int32 → Prop} (k : post 1) : PX7_isRow (nI r) post := pc_f (nI_lt0 (by omega)) (pc_f (nle (a := 4) h (by decide)) k)
theorem addC_wf' {K : Kr} (W : WF K) {a b : Nat} (hab : a ≠ b) (ha : a < K.np) (hb : b < K.np) (h : K.rs a b = 0) : WF (K.addC (min a b) (max a b)) := by
  rcases Nat.lt_or_ge a b with g | g
  · rw [Nat.min_eq_left (by omega), Nat.max_eq_right (by omega)]; exact addC_wf W g hb h
  · rw [Nat.min_eq_right g, Nat.max_eq_left g]; exact addC_wf W (by omega) ha (by rw [rs_comm]; exact h)
theorem addCh_wf {K : Kr} (W : WF K) {a : Nat} (h : a < K.nc) (g : K.sz (K.row (K.lo a) + 1) < 6 ∧ K.np < 20) : WF (K.addP (K.row (K.lo a) + 1) (some a)) :=
  addP_wf W (by have := W.row3 h; omega) g.1 g.2 (fun c hc => by cases hc; exact ⟨h, rfl⟩)
theorem addN_wf {K : Kr} (W : WF K) {a : Nat} (h : a < 4) (g : K.sz a < 6 ∧ K.np < 20) : WF (K.addP a none) := addP_wf W h g.1 g.2 (fun c hc => by cases hc)
theorem n_cnt {kc v b y : Mem} {K : Kr} {n : Nat} (C : CS v K) (W : WF K) (hb : b 2 0 = nI n) {post : Int32 → Mem → Prop} : ∀ i, i < 9 → (∀ y, post (K.kv n i) y) → PX7_count_nt kc v b y (nI i) post
  | 0, _, k => pc_t rfl (by show post (v 7 0) y; rw [C.1.1]; exact k y)
  | 1, _, k => pc_f (by decide) (pc_t rfl (by show post (v 8 0) y; rw [C.1.2.1]; exact k y))
  | 2, _, k => pc_f (by decide) (pc_f (by decide) (pc_t rfl (c_lines C W (k y))))
  | 3, _, k => pc_f (by decide) (pc_f (by decide) (pc_f (by decide) (pc_t rfl (c_allCrossings C W k))))
  | 4, _, k => pc_f (by decide) (pc_f (by decide) (pc_f (by decide) (pc_f (by decide) (pc_t rfl (c_bentLines C W (k y))))))
  | 5, _, k => pc_f (by decide) (pc_f (by decide) (pc_f (by decide) (pc_f (by decide) (pc_f (by decide) (pc_t rfl (c_doubles C W (k y)))))))
  | 6, _, k => pc_f (by decide) (pc_f (by decide) (pc_f (by decide) (pc_f (by decide) (pc_f (by decide) (pc_f (by decide) (pc_t rfl (c_kin C W (k y))))))))
  | 7, _, k => pc_f (by decide) (pc_f (by decide) (pc_f (by decide) (pc_f (by decide) (pc_f (by decide) (pc_f (by decide) (pc_f (by decide) (pc_t rfl (by show post (v 9 0) y; rw [C.1.2.2]; exact k y))))))))
  | 8, _, k => pc_f (by decide) (pc_f (by decide) (pc_f (by decide) (pc_f (by decide) (pc_f (by decide) (pc_f (by decide) (pc_f (by decide) (pc_f (by decide) (pc_t rfl (by show post (b 2 0) y; rw [hb]; exact k y)))))))))
  | i + 9, h, _ => absurd h (by omega)
theorem n_per {kc v : Mem} {K : Kr} (C : CS v K) (W : WF K) {p : Nat} (hp : p < K.np) {post : Int32 → Prop} : ∀ i, i < 7 → post (K.pv p i) → PX7_personOf_nt kc v (nI p) (nI i) post := fun i hi k => by
  have hn := W.np20
  refine c_isPerson C W hp (pd_f i10 ?_)
  match i, hi, k with
  | 0, _, k => exact pc_t rfl (c_rowOf C W hp k)
  | 1, _, k => exact pc_f (by decide) (pc_t rfl (c_placeOf C W hp k))
  | 2, _, k => exact pc_f (by decide) (pc_f (by decide) (pc_t rfl (c_parentsOf C W hp k)))
  | 3, _, k => exact pc_f (by decide) (pc_f (by decide) (pc_f (by decide) (pc_t rfl (c_couplesWith C W (by omega) k))))
  | 4, _, k => exact pc_f (by decide) (pc_f (by decide) (pc_f (by decide) (pc_f (by decide) (pc_t rfl (c_childrenWith C W (by omega) k)))))
  | 5, _, k => exact pc_f (by decide) (pc_f (by decide) (pc_f (by decide) (pc_f (by decide) (pc_f (by decide) (pc_t rfl (c_descCount C W hp k))))))
  | 6, _, k => exact pc_f (by decide) (pc_f (by decide) (pc_f (by decide) (pc_f (by decide) (pc_f (by decide) (pc_f (by decide) (pc_t rfl (c_ancCount C W hp k)))))))
  | i + 7, h, _ => exact absurd h (by omega)
theorem n_cpl {kc v : Mem} {K : Kr} (C : CS v K) (W : WF K) {c : Nat} (hc : c < K.nc) {post : Int32 → Prop} : ∀ i, i < 6 → post (K.cv c i) → PX7_coupleOf_nt kc v (nI c) (nI i) post := fun i hi k => by
  have hn := W.nc10
  refine c_isCouple C W hc (pd_f i10 ?_)
  match i, hi, k with
  | 0, _, k => exact pc_t rfl (c_lesserOf C W hc k)
  | 1, _, k => exact pc_f (by decide) (pc_t rfl (c_greaterOf C W hc k))
  | 2, _, k => exact pc_f (by decide) (pc_f (by decide) (pc_t rfl (c_lesserOf C W hc (c_rowOf C W (W.lo_np hc) k))))
  | 3, _, k => exact pc_f (by decide) (pc_f (by decide) (pc_f (by decide) (pc_t rfl (c_middleOf C W hc k))))
  | 4, _, k => exact pc_f (by decide) (pc_f (by decide) (pc_f (by decide) (pc_f (by decide) (pc_t rfl (c_childrenOf C W (by omega) k)))))
  | 5, _, k => exact pc_f (by decide) (pc_f (by decide) (pc_f (by decide) (pc_f (by decide) (pc_f (by decide) (pc_t rfl (c_common C W hc (bitCount_of (fun i h1 h2 => com_hi W hc h1 h2) k)))))))
  | i + 6, h, _ => exact absurd h (by omega)
theorem n_at {kc v : Mem} {K : Kr} (C : CS v K) (W : WF K) {r q : Nat} (hr : r < 4) (hq : q < 2 ^ 31) {post : Int32 → Prop} (k : post (K.atv r q)) : PX7_at_nt kc v (nI r) (nI q) post := by
  refine crow_ok hr (pd_f i10 (pc_t (nI_pos' hq) ?_))
  unfold Kr.atv at k
  by_cases g : q < K.sz r
  · rw [if_pos g] at k; exact c_personAt C W hr g k
  · rw [if_neg g] at k
    exact pc_f (nI_lt0 hq) (c_sizeOf C hr (pc_t (nle' (by omega) hq) k))
theorem n_crs {kc v y : Mem} {K : Kr} (C : CS v K) (W : WF K) {r : Nat} (hr : r < 4) {post : Int32 → Mem → Prop} : ∀ i, i < 2 → (∀ y, post (nI (K.X r)) y) → PX7_crossings_nt kc v y (nI r) (nI i) post
  | 0, _, k => crow_ok hr (pd_f i10 (pc_t rfl (c_collect C W hr fun y6 m h2 hl => pd_t rfl (c_crossedPairs W hr h2 hl (k y6)))))
  | 1, _, k => crow_ok hr (pd_f i10 (pc_f (by decide) (pc_t rfl (c_collect C W hr fun y6 m h2 hl => pd_f (by decide) (c_crossedOneByOne W hr h2 hl k)))))
  | i + 2, h, _ => absurd h (by omega)
theorem n_lst {kc v x : Mem} {K : Kr} (C : CS v K) (W : WF K) {r : Nat} (hr : r < 4) {post : Int32 → Mem → Prop} : ∀ i, i < 2 → (∀ y, post (nI (K.lst r).1) y) → PX7_least_nt kc v x (nI r) (nI i) post
  | 0, _, k => crow_ok hr (pd_f i10 (pc_t rfl (c_prepare C W hr fun _ _ _ P O => pd_t rfl (c_leastAll W hr P O fun x2 _ _ => k x2))))
  | 1, _, k => crow_ok hr (pd_f i10 (pc_f (by decide) (pc_t rfl (c_prepare C W hr fun _ _ _ P O => pd_f (by decide) (c_leastLay W hr P O k)))))
  | i + 2, h, _ => absurd h (by omega)
theorem n_near {kc v : Mem} {K : Kr} (C : CS v K) (W : WF K) {p o : Nat} (hp : p < K.np) (ho : o < K.np) {post : Int32 → Prop} (k : post (K.nr p o K.np)) : PX7_nearness_nt kc v (nI p) (nI o) post :=
  c_isPerson C W hp (pc_f i10 (c_isPerson C W ho (pd_f i10 (c_near C W hp ho k))))
/-- saved states, whatever they are -/
def SVS (b : Mem) (r : Nat → Mem) : Prop := ∃ (n : Nat) (S : Nat → Kr), RS b r n S
theorem SVS.n {b : Mem} {r : Nat → Mem} (h : SVS b r) : ∃ n, b 2 0 = nI n := by
  obtain ⟨n, S, o, _, _, _, h2, _⟩ := h
  exact ⟨n, h2⟩
theorem n_push {b : Mem} {r : Nat → Mem} {v : Mem} {K : Kr} (R : SVS b r) (C : CS v K) (W : WF K) {post : Mem → (Nat → Mem) → Prop} (k : ∀ b2 r2, SVS b2 r2 → post b2 r2) : PX4_push b r v post := by
  obtain ⟨n, S, R⟩ := R
  exact c_push R C W fun b2 r2 R2 => k b2 r2 ⟨_, _, R2⟩
theorem n_person {kc v b : Mem} {r : Nat → Mem} {K : Kr} (R : SVS b r) (C : CS v K) (W : WF K) {q : Nat} (hq : q < 4) {post : Int32 → Mem → Mem → (Nat → Mem) → Prop} (k0 : (6 ≤ K.sz q ∨ 20 ≤ K.np) → ∀ v2 b2 r2, SVS b2 r2 → CS v2 K.ref → post (-1) v2 b2 r2) (k1 : K.sz q < 6 → K.np < 20 → ∀ v2 b2 r2, SVS b2 r2 → CS v2 (K.addP q none) → post (nI K.np) v2 b2 r2) : PX7_person_nt kc v b r (nI q) post := by
  refine crow_ok hq (pd_f i10 (n_push R C W fun b5 r6 R6 => ?_))
  show PX5_addPerson v (nI q) (pI none) _
  exact c_addPerson C W hq (fun c hc => by cases hc) (fun g v2 C2 => k0 g v2 b5 r6 R6 C2) (fun g g2 v2 C2 => k1 g g2 v2 b5 r6 R6 C2)
theorem n_child {kc v b : Mem} {r : Nat → Mem} {K : Kr} (R : SVS b r) (C : CS v K) (W : WF K) {c : Nat} (hc : c < K.nc) {post : Int32 → Mem → Mem → (Nat → Mem) → Prop} (k0 : (6 ≤ K.sz (K.row (K.lo c) + 1) ∨ 20 ≤ K.np) → ∀ v2 b2 r2, SVS b2 r2 → CS v2 K.ref → post (-1) v2 b2 r2) (k1 : K.sz (K.row (K.lo c) + 1) < 6 → K.np < 20 → ∀ v2 b2 r2, SVS b2 r2 → CS v2 (K.addP (K.row (K.lo c) + 1) (some c)) → post (nI K.np) v2 b2 r2) : PX7_child_nt kc v b r (nI c) post :=
  c_isCouple C W hc (pd_f i10 (n_push R C W fun b5 r6 R6 => c_addChild C W hc (fun g v2 C2 => k0 g v2 b5 r6 R6 C2) (fun g g2 v2 C2 => k1 g g2 v2 b5 r6 R6 C2)))
theorem n_marry {kc v b : Mem} {r : Nat → Mem} {K : Kr} (R : SVS b r) (C : CS v K) (W : WF K) {p o : Nat} (hp : p < K.np) (ho : o < K.np) (g : p ≠ o) {post : Int32 → Mem → Mem → (Nat → Mem) → Prop} (k0 : 0 < K.rs p o → ∀ v2 b2 r2, SVS b2 r2 → CS v2 K.ref → post (nI (K.rs p o)) v2 b2 r2) (k1 : K.rs p o = 0 → ∀ v2 b2 r2, SVS b2 r2 → CS v2 (K.addC (min p o) (max p o)) → post (nI (K.nc + 10)) v2 b2 r2) : PX7_marry_nt kc v b r (nI p) (nI o) post := by
  have hn := W.np20
  have gI : ¬ nI p = nI o := nne (by omega) (by omega) g
  exact c_isPerson C W hp (pc_f i10 (c_isPerson C W ho (pd_f i10 (pd_f gI (n_push R C W fun b5 r6 R6 => c_addCouple C W hp ho (fun y v2 C2 => k0 y v2 b5 r6 R6 C2) (fun y v2 C2 => k1 y v2 b5 r6 R6 C2))))))
theorem n_swap {kc v b y : Mem} {r : Nat → Mem} {K : Kr} (R : SVS b r) (C : CS v K) (W : WF K) {q p : Nat} (hq : q < 4) (hp : p + 1 < K.sz q) {post : Int32 → Mem → Mem → (Nat → Mem) → Mem → Prop} (k : ∀ v2 b2 r2 y2, SVS b2 r2 → CS v2 (K.setO q (fun k => K.od q (trs p (p + 1) k))) → post ((nI (K.setO q (fun k => K.od q (trs p (p + 1) k))).XA - nI K.XA) + 100) v2 b2 r2 y2) : PX7_swap_nt kc v b r y (nI q) (nI p) post := by
  have h6 := W.sz6 hq
  refine crow_ok hq (pd_f i10 (pc_f (nI_lt0 (by omega)) (c_sizeOf C hq (pc_t (Int32.not_le.mp (szm_gt h6 hp)) (n_push R C W fun b5 r6 R6 => c_allCrossings C W fun y2 => c_exchange C W hq hp fun v2 C2 => ?_)))))
  have W2 := setO_wf W (isO_trs (isO_od W hq) (show p < K.sz q by omega) hp)
  exact c_allCrossings C2 W2 fun y3 => k v2 b5 r6 y3 R6 C2
theorem n_byParents {kc v b op : Mem} {r : Nat → Mem} {K : Kr} (R : SVS b r) (C : CS v K) (W : WF K) {q : Nat} (hq : q < 4) {post : Int32 → Mem → Mem → (Nat → Mem) → Mem → Prop} (k : ∀ v2 b2 r2 o2, SVS b2 r2 → CS v2 (K.setO q (K.bp q)) → post (nI (K.mv q)) v2 b2 r2 o2) : PX7_byParents_nt kc v b r op (nI q) post :=
  crow_ok hq (pd_f i10 (n_push R C W fun b5 r6 R6 => c_byParents C W hq fun o2 v2 C2 => k v2 b5 r6 o2 R6 C2))
theorem n_untangle {kc v b x : Mem} {r : Nat → Mem} {K : Kr} (R : SVS b r) (C : CS v K) (W : WF K) {q : Nat} (hq : q < 4) {post : Int32 → Mem → Mem → (Nat → Mem) → Mem → Prop} (k : ∀ v2 b2 r2 x2, SVS b2 r2 → CS v2 (K.setO q (K.lo2 q)) → post (nI (K.lst q).1) v2 b2 r2 x2) : PX7_untangle_nt kc v b r x (nI q) post :=
  crow_ok hq (pd_f i10 (n_push R C W fun b5 r6 R6 => c_least C W hq fun x2 h10 h1 => c_layBest C W hq (lo2_isO W hq) h10 h1 fun v2 C2 => k v2 b5 r6 x2 R6 C2))
