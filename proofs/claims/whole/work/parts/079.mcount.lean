theorem add0 (n : Nat) : nI n + 0 = nI n := by rw [n0I, nI_add]; rfl
theorem m_childrenOf_l {w : Mem} {hs : Int64} {K : Kr} (M : MS (w 0) K) (W : WF K) {c : Nat} (hc : c < 2 ^ 31) {post : Int32 → Prop} (k : post (nI (K.ch c))) : ∀ d i : Nat, i + d = K.np → PX8_childrenOf_4 w hs post (d + 1) (nI c) (nI (sm (fun p => if K.par p = some c then 1 else 0) i)) (nI i) := by
  have hn := W.np20
  have hm := W.nc10
  intro d
  induction d with
  | zero =>
    intro i hi
    unfold PX8_childrenOf_4
    rw [n0I, ix_nI (by omega), M.1.1, show i = K.np by omega]
    exact ⟨in91 (by omega), pc_t (nle' (Nat.le_refl _) (by omega)) k⟩
  | succ d ih =>
    intro i hi
    have hp : i < K.np := by omega
    have e := ih (i + 1) (by omega)
    rw [sm_s] at e
    unfold PX8_childrenOf_4
    rw [n0I, ix_nI (by omega), M.1.1]
    refine ⟨in91 (by omega), pc_f (nle (by omega) (by omega)) (m_parentsOf M W hp ?_)⟩
    simp only [nI_1]
    by_cases h : K.par i = some c
    · rw [if_pos h] at e
      refine pd_t (pI_some h) fun q eq => ?_
      rw [eq]; exact e
    · rw [if_neg h] at e
      refine pd_f (fun q => h ((pI_ne_c hc (fun d hd => by have := W.par_c hp hd; omega)).mp q)) fun q eq => ?_
      rw [eq, nI_add]; exact e
theorem m_childrenOf {w : Mem} {hs : Int64} {K : Kr} (M : MS (w 0) K) (W : WF K) {c : Nat} (hc : c < 2 ^ 31) {post : Int32 → Prop} (k : post (nI (K.ch c))) : PX8_childrenOf w hs (nI c) post := ⟨_, m_childrenOf_l M W hc k K.np 0 (by omega)⟩
theorem m_allChildren_l {w : Mem} {hs : Int64} {K : Kr} (M : MS (w 0) K) (W : WF K) {p : Nat} (hp : p < 20) {post : Int32 → Prop} (k : post (nI (K.chW p))) : ∀ d i : Nat, i + d = K.nc → PX8_allChildren_4 w hs post (d + 1) (nI p) (nI (sm (fun c => if K.lo c = p ∨ K.hi c = p then K.ch c else 0) i)) (nI i) := by
  have hb := W.nc10
  intro d
  induction d with
  | zero =>
    intro i hi
    unfold PX8_allChildren_4
    rw [n1I, ix_nI (by omega), M.1.2.1, show i = K.nc by omega]
    exact ⟨in91 (by omega), pc_t (nle' (Nat.le_refl _) (by omega)) k⟩
  | succ d ih =>
    intro i hi
    have hc : i < K.nc := by omega
    have l1 := W.lo_np hc
    have l2 := W.hi_np hc
    have l3 := W.np20
    have e := ih (i + 1) (by omega)
    rw [sm_s] at e
    have go : (K.lo i = p ∨ K.hi i = p) → PX8_allChildren_33 w hs post (PX8_allChildren_4 w hs post (d + 1)) (nI p) (nI i) (nI (sm (fun c => if K.lo c = p ∨ K.hi c = p then K.ch c else 0) i)) := fun h => by
      rw [if_pos h] at e
      refine m_childrenOf M W (by omega) fun q hq => ?_
      rw [hq, nI_add, nI_1]; exact e
    unfold PX8_allChildren_4
    rw [n1I, ix_nI (by omega), M.1.2.1]
    refine ⟨in91 (by omega), pc_f (nle (by omega) (by omega)) (m_one M W hc ?_)⟩
    by_cases h1 : K.lo i = p
    · exact pc_t (by rw [h1]) (go (Or.inl h1))
    · refine pc_f (nne (by omega) (by omega) h1) (m_other M W hc ?_)
      by_cases h2 : K.hi i = p
      · exact pd_t (by rw [h2]) (go (Or.inr h2))
      · rw [if_neg (fun h => h.elim h1 h2)] at e
        refine pd_f (nne (by omega) (by omega) h2) fun q eq => ?_
        rw [eq, add0, nI_add]; exact e
theorem m_allChildren {w : Mem} {hs : Int64} {K : Kr} (M : MS (w 0) K) (W : WF K) {p : Nat} (hp : p < 20) {post : Int32 → Prop} (k : post (nI (K.chW p))) : PX8_allChildren w hs (nI p) post := ⟨_, m_allChildren_l M W hp k K.nc 0 (by omega)⟩
theorem m_allLines_l {w : Mem} {hs : Int64} {K : Kr} (M : MS (w 0) K) (W : WF K) {post : Int32 → Prop} (k : post (nI K.lines)) : ∀ d i : Nat, i + d = K.np → PX8_allLines_4 w hs post (d + 1) (nI (sm (fun p => if K.par p = none then 0 else 1) i)) (nI i) := by
  have hn := W.np20
  have hm := W.nc10
  intro d
  induction d with
  | zero =>
    intro i hi
    unfold PX8_allLines_4
    rw [n0I, ix_nI (by omega), M.1.1, show i = K.np by omega]
    exact ⟨in91 (by omega), pc_t (nle' (Nat.le_refl _) (by omega)) k⟩
  | succ d ih =>
    intro i hi
    have hp : i < K.np := by omega
    have e := ih (i + 1) (by omega)
    rw [sm_s] at e
    unfold PX8_allLines_4
    rw [n0I, ix_nI (by omega), M.1.1]
    refine ⟨in91 (by omega), pc_f (nle (by omega) (by omega)) (m_parentsOf M W hp ?_)⟩
    simp only [nI_1]
    cases h : K.par i with
    | none =>
      rw [if_pos h] at e
      refine pc_t rfl fun q eq => ?_
      rw [eq, nI_add]; exact e
    | some c =>
      rw [if_neg (by rw [h]; intro q; cases q)] at e
      refine pc_f (nI_ne_m1 (by have := W.par_c hp h; omega)) fun q eq => ?_
      rw [eq]; exact e
theorem m_allLines {w : Mem} {hs : Int64} {K : Kr} (M : MS (w 0) K) (W : WF K) {post : Int32 → Prop} (k : post (nI K.lines)) : PX8_allLines w hs post := ⟨_, m_allLines_l M W k K.np 0 (by omega)⟩
theorem m_doubles_l {w : Mem} {hs : Int64} {K : Kr} (M : MS (w 0) K) (W : WF K) {post : Int32 → Prop} (k : post (nI K.dbl)) : ∀ d i : Nat, i + d = K.np → PX8_doubles_4 w hs post (d + 1) (nI (sm (fun p => if sm (fun c => K.has c p) K.nc = 2 then 1 else 0) i)) (nI i) := by
  have hn := W.np20
  intro d
  induction d with
  | zero =>
    intro i hi
    unfold PX8_doubles_4
    rw [n0I, ix_nI (by omega), M.1.1, show i = K.np by omega]
    exact ⟨in91 (by omega), pc_t (nle' (Nat.le_refl _) (by omega)) k⟩
  | succ d ih =>
    intro i hi
    have hp : i < K.np := by omega
    have e := ih (i + 1) (by omega)
    rw [sm_s] at e
    have h2 := W.two i
    unfold PX8_doubles_4
    rw [n0I, ix_nI (by omega), M.1.1]
    refine ⟨in91 (by omega), pc_f (nle (by omega) (by omega)) (m_couplesOf M W (by omega) ?_)⟩
    simp only [nI_1]
    by_cases h : sm (fun c => K.has c i) K.nc = 2
    · rw [if_pos h] at e
      refine pd_t (by rw [h]; rfl) fun q eq => ?_
      rw [eq]; exact e
    · rw [if_neg h] at e
      rw [n2I]
      refine pd_f (nne (by omega) (by omega) h) fun q eq => ?_
      rw [eq, nI_add]; exact e
theorem m_doubles {w : Mem} {hs : Int64} {K : Kr} (M : MS (w 0) K) (W : WF K) {post : Int32 → Prop} (k : post (nI K.dbl)) : PX8_doubles w hs post := ⟨_, m_doubles_l M W k K.np 0 (by omega)⟩
def bq (q x : Nat) : Nat := if x = 2 * q then 0 else 1
theorem m_bent_in {w : Mem} {hs : Int64} {m r c0 : Nat} {mm pp : Nat → Nat} (h8 : w 8 0 = nI m) (hm : m ≤ 6) (hA : ∀ j, j < m → w 6 j = nI (mm j) ∧ w 7 j = nI (pp j)) (h11 : ∀ j, j < m → mm j < 11 ∧ pp j < 6) {post : Int32 → Mem → Prop} {K4 : Mem → Int32 → Int32 → Prop} (k : K4 w (nI (c0 + sm (fun j => bq (pp j) (mm j)) m)) (nI (r + 1))) : ∀ d i : Nat, i + d = m → PX8_bent_16 hs post K4 (d + 1) w (nI (c0 + sm (fun j => bq (pp j) (mm j)) i)) (nI r) (nI i) := by
  intro d
  induction d with
  | zero =>
    intro i hi
    unfold PX8_bent_16
    rw [h8, nI_1]
    refine pc_t (nle' (by omega) (by omega)) ?_
    rw [show i = m by omega]; exact k
  | succ d ih =>
    intro i hi
    have e := ih (i + 1) (by omega)
    rw [sm_s] at e
    have b := h11 i (by omega)
    unfold PX8_bent_16
    rw [h8, ix_nI (by omega), (hA i (by omega)).1, (hA i (by omega)).2, n2I, pk_mul]
    refine pc_f (nle (by omega) (by omega)) ⟨in_nI (by omega) (by omega), in_nI (by omega) (by omega), ?_⟩
    rw [nI_1, nI_1]
    by_cases h : mm i = 2 * pp i
    · rw [show bq (pp i) (mm i) = 0 from if_pos h] at e
      refine pc_t (by rw [h]) fun q eq => ?_
      rw [eq, add0]; exact e
    · rw [show bq (pp i) (mm i) = 1 from if_neg h] at e
      refine pc_f (nne (by omega) (by omega) h) fun q eq => ?_
      rw [eq]; exact e
def Kr.bR (K : Kr) (r : Nat) : Nat := sm (fun k => K.bnt (K.od r k)) (K.sz r)
theorem m_bent_out {hs : Int64} {K : Kr} (W : WF K) {w0 : Mem} (M : MS (w0 0) K) {post : Int32 → Mem → Prop} (k : ∀ w, FR w0 w → post (nI (K.bR 1 + K.bR 2 + K.bR 3)) w) : ∀ (d r : Nat) (w : Mem), r + d = 4 → 1 ≤ r → FR w0 w → PX8_bent_4 hs post (d + 1) w (nI (sm (fun i => K.bR (i + 1)) (r - 1))) (nI r) := by
  intro d
  induction d with
  | zero =>
    intro r w hr h1 hf
    unfold PX8_bent_4
    rw [show r = 4 by omega]
    exact pc_t (by decide) (by have := k w hf; rw [show sm (fun i => K.bR (i + 1)) (4 - 1) = K.bR 1 + K.bR 2 + K.bR 3 by rw [show 4 - 1 = 0 + 1 + 1 + 1 from rfl, sm_s, sm_s, sm_s, sm_0, Nat.zero_add]]; exact this)
  | succ d ih =>
    intro r w hr h1 hf
    have h6 := W.sz6 (show r < 4 by omega)
    unfold PX8_bent_4
    rw [n4I]
    refine pc_f (nle (by omega) (by omega)) (m_draw (hf.ms M) W (by omega) fun w1 m h8 hl hf1 => ?_)
    obtain ⟨mm, pp, l1, l2, l3, l4, l5⟩ := hl
    refine ⟨_, m_bent_in (c0 := sm (fun i => K.bR (i + 1)) (r - 1)) h8 (show m ≤ 6 by omega) l1 (fun j hj => by have := l2 j hj; omega) ?_ m 0 (by omega)⟩
    have e := ih (r + 1) w1 (by omega) (by omega) (hf.tr hf1)
    rw [show r + 1 - 1 = (r - 1) + 1 by omega, sm_s, show r - 1 + 1 = r by omega] at e
    rw [l4 bq]
    have e2 : sm (fun q => og bq q (K.up (K.od r q))) (K.sz r) = K.bR r := sm_congr fun q hq => by
      unfold Kr.bnt
      cases K.up (K.od r q) with
      | none => rfl
      | some x => show bq q x = _; rw [W.pl_od (by omega) hq]; rfl
    rw [e2]; exact e
theorem bent_rows {K : Kr} (W : WF K) : K.bR 1 + K.bR 2 + K.bR 3 = K.bent := by
  have h := sm_rows W K.bnt
  have h0 : K.bR 0 = 0 := sm_none fun q hq => by
    unfold Kr.bnt
    have hp := W.od_lt (show (0 : Nat) < 4 by decide) hq
    have hr := W.od_row (show (0 : Nat) < 4 by decide) hq
    cases e : K.par (K.od 0 q) with
    | none => rw [up_none e]
    | some c => have := W.par_row hp e; omega
  unfold Kr.bent
  rw [h, sm_s, sm_s, sm_s, sm_s, sm_0]
  unfold Kr.bR at *
  omega
theorem m_bent {w : Mem} {hs : Int64} {K : Kr} (M : MS (w 0) K) (W : WF K) {post : Int32 → Mem → Prop} (k : ∀ w2, FR w w2 → post (nI K.bent) w2) : PX8_bent w hs post :=
  ⟨_, m_bent_out W M (fun w2 f => by rw [bent_rows W]; exact k w2 f) 3 1 w (by omega) (by omega) (FR.rf w)⟩
