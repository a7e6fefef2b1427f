/-! the other one's least crossings: all orders, one behind the other -/
theorem m_sub1 : ∀ n, n ≤ 6 → 0 < n → nI n - 1 = nI (n - 1) ∧ nI n - 2 = nI (n - 1) - 1 := by decide +kernel
theorem m_neg (t : Nat) : nI t + (-1) = nI t - 1 := by
  cases t with
  | zero => decide
  | succ t => rw [pk_m1, nI_pred]
theorem m_m1 : (nI 0 - 1 : Int32) = -1 := by decide
/-- s rises on the first n -/
def RI (s : Nat → Nat) (n : Nat) : Prop := ∀ a b, a < n → b < n → (s a < s b ↔ a < b)
theorem m_rv {hs : Int64} {K : Kr} (W : WF K) {r : Nat} (hr : r < 4) {s : Nat → Nat} {w0 : Mem} {post : Int32 → Mem → Prop} {q : Nat → Nat} (k : ∀ w2, FR0 w0 w2 → MS (w2 0) (K.setO r (fun k => s (q k))) → isO K r (fun k => s (q k)) → post 1 w2) : ∀ (d : Nat) (p : Nat → Nat) (i j : Nat) (w : Mem), i ≤ 7 → j < K.sz r → j ≤ i + d → FR0 w0 w → MS (w 0) (K.setO r (fun k => s (p k))) → isO K r (fun k => s (p k)) → rv d p i j = q → PX8_layNext_92 hs post (d + 1) w (nI r) (nI i) (nI j) := by
  have h6 := W.sz6 hr
  intro d
  induction d with
  | zero =>
    intro p i j w hi7 hj hij f M O e
    unfold PX8_layNext_92
    have e' : p = q := e
    subst e'
    exact pc_t (nle' (by omega) (by omega)) (k w f M O)
  | succ d ih =>
    intro p i j w hi7 hj hij f M O e
    unfold rv at e
    unfold PX8_layNext_92
    by_cases g : i < j
    · rw [if_pos g] at e
      refine pc_f (nle g (by omega)) (m_exchange M (setO_wf W O) hr (show i < (K.setO r (fun k => s (p k))).sz r from (show i < K.sz r by omega)) hj fun w2 f2 _ M2 => ?_)
      rw [setO_setO, setO_od] at M2
      rw [nI_1, show j = j - 1 + 1 by omega, pk_m1]
      exact ih (fun k => p (trs i j k)) (i + 1) (j - 1) w2 (by omega) (by omega) (by omega) (f.tr f2) M2 (isO_trs O (by omega) hj) e
    · rw [if_neg g] at e
      subst e
      exact pc_t (nle' (by omega) (by omega)) (k w f M O)
theorem ri_le {s : Nat → Nat} {n a b : Nat} (h : RI s n) (ha : a < n) (hb : b < n) : s a ≤ s b ↔ a ≤ b := by
  have := h b a hb ha
  omega
theorem m_rf {hs : Int64} {K : Kr} (W : WF K) {r : Nat} (hr : r < 4) {s p : Nat → Nat} {a : Nat} (hs1 : RI s (K.sz r)) (hp : ∀ k, k < K.sz r → p k < K.sz r) (O : isO K r (fun k => s (p k))) (ha : a + 1 < K.sz r) (hge : ¬ p (a + 1) < p a) {w : Mem} (M : MS (w 0) (K.setO r (fun k => s (p k)))) {q : Nat → Nat} {post : Int32 → Mem → Prop} (k : ∀ w2, FR0 w w2 → MS (w2 0) (K.setO r (fun k => s (q k))) → isO K r (fun k => s (q k)) → post 1 w2) : ∀ (e : Nat), a + 1 + e < K.sz r → rv (K.sz r) (fun k => p (trs a (rf p a (a + 1 + e)) k)) (a + 1) (K.sz r - 1) = q → PX8_layNext_52 hs post (e + 1) w (nI r) (nI (K.sz r)) (nI a) (nI (a + 1 + e)) := by
  have h6 := W.sz6 hr
  have hn := W.np20
  have wh : ∀ b, b < K.sz r → ∀ {post : Int32 → Prop}, post (nI (s (p b))) → PX8_whoIs w hs (nI r) (nI b) post := fun b hb post kk => m_whoIsG hr (by omega) (by rw [MS_ord M hr hb]; exact kk)
  have stop : ∀ b, b < K.sz r → rv (K.sz r) (fun k => p (trs a b k)) (a + 1) (K.sz r - 1) = q → PX8_exchange w hs (nI r) (nI a) (nI b) (fun w13 => ∀ q14 : Int32, q14 = nI a + 1 → ∀ q15 : Int32, q15 = nI (K.sz r) - 1 → ∃ n19, PX8_layNext_92 hs post n19 w13 (nI r) q14 q15) := fun b hb e => by
    refine m_exchange M (setO_wf W O) hr (show a < (K.setO r (fun k => s (p k))).sz r from (show a < K.sz r by omega)) hb fun w2 f2 _ M2 q14 e14 q15 e15 => ?_
    rw [setO_setO, setO_od] at M2
    rw [e14, e15, nI_1, (m_sub1 (K.sz r) h6 (by omega)).1]
    exact ⟨_, m_rv W hr (w0 := w) (q := q) k (K.sz r) (fun k => p (trs a b k)) (a + 1) (K.sz r - 1) w2 (by omega) (by omega) (by omega) f2 M2 (isO_trs O (show a < K.sz r by omega) hb) e⟩
  intro e
  induction e with
  | zero =>
    intro h1 h2
    unfold PX8_layNext_52
    have x : s (p a) < K.np := (O.1 a (by omega)).1
    have y : s (p (a + 1)) < K.np := (O.1 (a + 1) ha).1
    refine wh (a + 1 + 0) h1 (wh a (by omega) (pc_t (nle' (b := s (p (a + 1))) ?_ (by omega)) (stop (a + 1 + 0) h1 ?_)))
    · exact (ri_le hs1 (hp a (by omega)) (hp (a + 1) ha)).mpr (by omega)
    · have : rf p a (a + 1 + 0) = a + 1 + 0 := if_neg hge
      rw [this] at h2; exact h2
  | succ e ih =>
    intro h1 h2
    unfold PX8_layNext_52
    have x : s (p a) < K.np := (O.1 a (by omega)).1
    have y : s (p (a + 1 + (e + 1))) < K.np := (O.1 (a + 1 + (e + 1)) h1).1
    have z := ri_le hs1 (hp a (by omega)) (hp (a + 1 + (e + 1)) h1)
    refine wh (a + 1 + (e + 1)) h1 (wh a (by omega) ?_)
    by_cases g : p (a + 1 + (e + 1)) < p a
    · have : rf p a (a + 1 + (e + 1)) = rf p a (a + 1 + e) := if_pos g
      rw [this] at h2
      refine pc_f (nle (by omega) (by omega)) ?_
      rw [show a + 1 + (e + 1) = a + 1 + e + 1 by omega, pk_m1]
      exact ih (by omega) h2
    · have : rf p a (a + 1 + (e + 1)) = a + 1 + (e + 1) := if_neg g
      rw [this] at h2
      exact pc_t (nle' (z.mpr (by omega)) (by omega)) (stop _ h1 h2)
theorem m_lf {hs : Int64} {K : Kr} (W : WF K) {r : Nat} (hr : r < 4) {s p : Nat → Nat} (hs1 : RI s (K.sz r)) (hp : ∀ k, k < K.sz r → p k < K.sz r) (O : isO K r (fun k => s (p k))) {w : Mem} (M : MS (w 0) (K.setO r (fun k => s (p k)))) {post : Int32 → Mem → Prop} (k0 : lf p (K.sz r - 1) = 0 → post 0 w) (k1 : lf p (K.sz r - 1) ≠ 0 → ∀ w2, FR0 w w2 → MS (w2 0) (K.setO r (fun k => s (nxq (K.sz r) p k))) → isO K r (fun k => s (nxq (K.sz r) p k)) → post 1 w2) : ∀ t, (t = 0 ∨ t < K.sz r) → lf p (K.sz r - 1) = lf p t → PX8_layNext_14 hs post (t + 1) w (nI r) (nI (K.sz r)) (nI t - 1) := by
  have h6 := W.sz6 hr
  have hn := W.np20
  have wh : ∀ b, b < K.sz r → ∀ {post : Int32 → Prop}, post (nI (s (p b))) → PX8_whoIs w hs (nI r) (nI b) post := fun b hb post kk => m_whoIsG hr (by omega) (by rw [MS_ord M hr hb]; exact kk)
  intro t
  induction t with
  | zero =>
    intro h1 h2
    unfold PX8_layNext_14
    rw [m_m1]
    exact pc_t i_m1_lt0 (pc_f (by decide) (k0 h2))
  | succ t ih =>
    intro h1 h2
    have ht : t + 1 < K.sz r := by omega
    unfold PX8_layNext_14
    rw [nI_pred, nI_1]
    have x : s (p t) < K.np := (O.1 t (by omega)).1
    have y : s (p (t + 1)) < K.np := (O.1 (t + 1) ht).1
    have z := ri_le hs1 (hp t (by omega)) (hp (t + 1) ht)
    refine pc_f (nI_lt0 (by omega)) (wh t (by omega) (wh (t + 1) ht ?_))
    by_cases g : p (t + 1) < p t
    · have : lf p (t + 1) = lf p t := if_pos g
      rw [this] at h2
      rw [m_neg]
      exact pc_f (nle (by omega) (by omega)) (ih (by omega) h2)
    · have e1 : lf p (t + 1) = t + 1 := if_neg g
      rw [e1] at h2
      refine pc_t (nle' (z.mpr (by omega)) (by omega)) ?_
      have k1' := k1 (by omega)
      refine pc_t (nI_pos' (by omega)) fun q6 e6 => ?_
      rw [(m_sub1 (K.sz r) h6 (by omega)).1] at e6
      have hq : nxq (K.sz r) p = rv (K.sz r) (fun k => p (trs t (rf p t (t + 1 + (K.sz r - 1 - (t + 1)))) k)) (t + 1) (K.sz r - 1) := by
        unfold nxq
        rw [h2, show t + 1 - 1 = t by omega, show t + 1 + (K.sz r - 1 - (t + 1)) = K.sz r - 1 by omega]
      have := m_rf (hs := hs) W hr hs1 hp O ht g M (q := nxq (K.sz r) p) k1' (K.sz r - 1 - (t + 1)) (by omega) hq.symm
      rw [show t + 1 + (K.sz r - 1 - (t + 1)) = K.sz r - 1 by omega] at this
      rw [e6]
      exact ⟨_, this⟩
theorem m_layNext {hs : Int64} {K : Kr} (W : WF K) {r : Nat} (hr : r < 4) {s p : Nat → Nat} (hs1 : RI s (K.sz r)) (hp : ∀ k, k < K.sz r → p k < K.sz r) (O : isO K r (fun k => s (p k))) {w : Mem} (M : MS (w 0) (K.setO r (fun k => s (p k)))) {post : Int32 → Mem → Prop} (k0 : lf p (K.sz r - 1) = 0 → post 0 w) (k1 : lf p (K.sz r - 1) ≠ 0 → ∀ w2, FR0 w w2 → MS (w2 0) (K.setO r (fun k => s (nxq (K.sz r) p k))) → isO K r (fun k => s (nxq (K.sz r) p k)) → post 1 w2) : PX8_layNext w hs (nI r) post := by
  have h6 := W.sz6 hr
  have e63 : w 0 (63 + r) = nI (K.sz r) := M.2.2.2.1 r hr
  unfold PX8_layNext
  rw [n63I, nI_add, ix_nI (show 63 + r < 2 ^ 31 by omega), e63]
  refine ⟨in91 (by omega), fun q2 e2 q3 e3 => ?_⟩
  subst e2
  rcases Nat.eq_zero_or_pos (K.sz r) with z | z
  · refine ⟨1, ?_⟩
    unfold PX8_layNext_14
    rw [e3, z]
    refine pc_t (by decide) (pc_f (by decide) (k0 ?_))
    rw [z]; rfl
  · rw [(m_sub1 (K.sz r) h6 z).2] at e3
    rw [e3]
    exact ⟨_, m_lf W hr hs1 hp O M k0 k1 (K.sz r - 1) (by omega) rfl⟩
/-- rows 0, 6 to 8, 10, 11 may change -/
def FRL (w w2 : Mem) : Prop := ∀ j, j ≠ 0 → j ≠ 6 → j ≠ 7 → j ≠ 8 → j ≠ 11 → w2 j = w j
theorem FRL.rf (w : Mem) : FRL w w := fun _ _ _ _ _ _ => rfl
theorem FRL.tr {a b c : Mem} (h : FRL a b) (g : FRL b c) : FRL a c := fun j x y z t u => (g j x y z t u).trans (h j x y z t u)
theorem FR.tol {a b : Mem} (h : FR a b) : FRL a b := fun j _ x y z _ => h j x y z
theorem FR0.tol {a b : Mem} (h : FR0 a b) : FRL a b := fun j x _ _ _ _ => h j x
theorem m_crossingsAt {w : Mem} {hs : Int64} {K : Kr} (W : WF K) {r : Nat} (hr : r < 4) {o : Nat → Nat} (O : isO K r o) (M : MS (w 0) (K.setO r o)) {post : Int32 → Mem → Prop} (k : ∀ w2, FR w w2 → post (nI (K.Yo r o)) w2) : PX8_crossingsAt w hs (nI r) post := by
  have W2 := setO_wf W O
  unfold Kr.Yo at k
  refine m_crossingsTo M W2 hr fun w2 f2 => ?_
  rw [n3I]
  by_cases g : r < 3
  · rw [if_pos g] at k
    refine pc_f (nle g (by omega)) ?_
    rw [nI_1]
    refine m_crossingsTo (f2.ms M) W2 (by omega) fun w3 f3 => ?_
    rw [nI_add]; exact k w3 (f2.tr f3)
  · rw [if_neg g] at k
    refine pc_t (nle' (by omega) (by omega)) ?_
    rw [add0]; exact k w2 f2
theorem m_best6 {hs : Int64} {r : Nat} (hr : r < 4) {w0 : Mem} {x2 : Int32} {post : Int32 → Mem → Prop} {K14 : Mem → Int32 → Int32 → Int32 → Prop} (k : ∀ w2, (∀ j, j ≠ 11 → w2 j = w0 j) → (∀ q, q < 6 → w2 11 q = w0 0 (67 + 6 * r + q)) → PX8_leastOf_69 hs post K14 w2 (nI r) x2) : ∀ (d i : Nat) (w : Mem), i + d = 6 → (∀ j, j ≠ 11 → w j = w0 j) → (∀ q, q < i → w 11 q = w0 0 (67 + 6 * r + q)) → PX8_leastOf_42 hs post K14 (d + 1) w (nI r) x2 (nI i) := by
  intro d
  induction d with
  | zero =>
    intro i w hi hf h1
    unfold PX8_leastOf_42
    rw [show i = 6 by omega] at h1 ⊢
    exact pc_t (by decide) (k w hf h1)
  | succ d ih =>
    intro i w hi hf h1
    unfold PX8_leastOf_42
    rw [n6I, ix_nI (by omega), nI_1]
    refine pc_f (nle (by omega) (by omega)) (m_whoIsG hr (by omega) ⟨in_nI (by omega) (by omega), fun w5 e5 => ih (i + 1) w5 (by omega) (fun j a => by rw [e5, mset_o _ _ _ a]; exact hf j a) fun q hq => ?_⟩)
    rw [e5, mset_a]
    by_cases e : q = i
    · subst e; rw [upd_a, hf 0 (by decide)]
    · rw [upd_o _ _ e]; exact h1 q (by omega)
def acI : Option (Nat × List Nat) → Int32
  | none => -1
  | some q => nI q.1
def acM (w : Mem) (s : Nat → Nat) (n : Nat) : Option (Nat × List Nat) → Prop
  | none => True
  | some q => q.1 ≤ 72 ∧ ∀ k, k < n → w 11 k = nI (OL s q.2 k)
theorem nxL_none {n : Nat} {l : List Nat} (h : nxL n l = none) : lf (lq l) (n - 1) = 0 := by
  unfold nxL at h
  by_cases g : lf (lq l) (n - 1) = 0
  · exact g
  · rw [if_neg g] at h; cases h
theorem nxL_some {n : Nat} {l l2 : List Nat} (h : nxL n l = some l2) : lf (lq l) (n - 1) ≠ 0 ∧ ∀ k, k < n → nxq n (lq l) k = lq l2 k := by
  unfold nxL at h
  by_cases g : lf (lq l) (n - 1) = 0
  · rw [if_pos g] at h; cases h
  · rw [if_neg g] at h
    have e := Option.some.inj h
    exact ⟨g, fun k hk => by rw [← e, lq_map _ hk]⟩
theorem isO_cg {K : Kr} {r : Nat} {o o2 : Nat → Nat} (h : isO K r o) (e : ∀ k, k < K.sz r → o k = o2 k) : isO K r o2 := by
  refine ⟨fun k hk => by rw [← e k hk]; exact h.1 k hk, fun i j hi hj x => ?_, fun p hp x => ?_⟩
  · rw [← e i hi, ← e j hj] at x; exact h.2.1 i j hi hj x
  · obtain ⟨k, hk, y⟩ := h.2.2 p hp x
    exact ⟨k, hk, by rw [← e k hk]; exact y⟩
theorem m_chain {hs : Int64} {K : Kr} (W : WF K) {r : Nat} (hr : r < 4) {w0 : Mem} {R : Nat × List Nat} {post : Int32 → Mem → Prop} (k : ∀ w o, FRL w0 w → isO K r o → MS (w 0) (K.setO r o) → (∀ k, k < K.sz r → w 11 k = nI (OL (K.srt r) R.2 k)) → PX8_layBack w hs (nI r) (fun w7 => post (nI R.1) w7)) : ∀ (t : List (List Nat)) (l : List Nat) (a : Option (Nat × List Nat)) (w : Mem), chB (K.sz r) l t = true → (∀ q, q ∈ l :: t → gdB (K.sz r) q = true) → FRL w0 w → MS (w 0) (K.setO r (OL (K.srt r) l)) → acM w (K.srt r) (K.sz r) a → (l :: t).foldl (ac (K.fY r)) a = some R → PX8_leastOf_14 hs post (t.length + 2) w (nI r) (acI a) 1 := by
  have h6 := W.sz6 hr
  have sO := srt_isO W hr
  have sI : RI (K.srt r) (K.sz r) := fun a b ha hb => srt_inc W hr ha hb
  intro t
  induction t with
  | nil =>
    intro l a w hc hg f M hA e
    have gl := hg l List.mem_cons_self
    have O := OL_isO sO gl
    have yl := Yo_le W hr O
    -- the order told, the best noted, then no next one
    have next : ∀ (w2 : Mem) (a2 : Option (Nat × List Nat)), a2 = some R → FRL w0 w2 → MS (w2 0) (K.setO r (OL (K.srt r) l)) → acM w2 (K.srt r) (K.sz r) a2 → PX8_leastOf_69 hs post (PX8_leastOf_14 hs post 1) w2 (nI r) (acI a2) := fun w2 a2 ea f2 M2 A2 => by
      subst ea
      have hn := of_decide_eq_true (show decide (nxL (K.sz r) l = none) = true from hc)
      refine m_layNext W hr (s := K.srt r) (p := lq l) sI (gd_f gl).1 O M2 (fun _ => ?_) (fun h => absurd (nxL_none hn) h)
      unfold PX8_leastOf_14
      exact pc_t rfl (k w2 _ f2 O M2 A2.2)
    unfold PX8_leastOf_14
    refine pc_f i10 (m_crossingsAt W hr O M fun w10 f10 => ?_)
    have M10 := f10.ms M
    have F10 := f.tr f10.tol
    have put : ac (K.fY r) a l = some (K.fY r l, l) → ∃ n, PX8_leastOf_42 hs post (PX8_leastOf_14 hs post 1) n w10 (nI r) (nI (K.Yo r (OL (K.srt r) l))) 0 := fun ea => by
      refine ⟨_, m_best6 hr (w0 := w10) (fun w2 f2 g2 => next w2 (some (K.fY r l, l)) (by rw [← ea]; exact e) (fun j x1 x2 x3 x4 x5 => by rw [f2 j x5]; exact F10 j x1 x2 x3 x4 x5) (by rw [f2 0 (by decide)]; exact M10) ⟨yl, fun q hq => ?_⟩) 6 0 w10 (by omega) (fun _ _ => rfl) (fun q h => absurd h (by omega))⟩
      rw [g2 q (by omega), MS_ord M10 hr hq]
    cases a with
    | none => exact pc_t rfl (put rfl)
    | some q =>
      have hA' : q.1 ≤ 72 := hA.1
      refine pc_f (nI_ne_m1 (show q.1 < 2 ^ 31 by omega)) ?_
      by_cases g : K.Yo r (OL (K.srt r) l) < q.1
      · exact pc_f (nle g (show q.1 < 2 ^ 31 by omega)) (put (if_pos g))
      · have ea : ac (K.fY r) (some q) l = some q := if_neg g
        exact pc_t (nle' (by omega) (by omega)) (next w10 (some q) (by rw [← ea]; exact e) F10 M10 ⟨hA', fun x hx => by rw [f10 11 (by decide) (by decide) (by decide)]; exact hA.2 x hx⟩)
  | cons l2 t ih =>
    intro l a w hc hg f M hA e
    have gl := hg l List.mem_cons_self
    have O := OL_isO sO gl
    have yl := Yo_le W hr O
    have hc' : (decide (nxL (K.sz r) l = some l2) && chB (K.sz r) l2 t) = true := hc
    rw [Bool.and_eq_true, decide_eq_true_eq] at hc'
    have hs2 := nxL_some hc'.1
    have next : ∀ (w2 : Mem) (a2 : Option (Nat × List Nat)), (l2 :: t).foldl (ac (K.fY r)) a2 = some R → FRL w0 w2 → MS (w2 0) (K.setO r (OL (K.srt r) l)) → acM w2 (K.srt r) (K.sz r) a2 → PX8_leastOf_69 hs post (PX8_leastOf_14 hs post (t.length + 2)) w2 (nI r) (acI a2) := fun w2 a2 ea f2 M2 A2 => by
      refine m_layNext W hr (s := K.srt r) (p := lq l) sI (gd_f gl).1 O M2 (fun h => absurd h hs2.1) (fun _ w3 f3 M3 O3 => ?_)
      refine ih l2 a2 w3 hc'.2 (fun q hq => hg q (List.mem_cons_of_mem _ hq)) (f2.tr f3.tol) (MS_oc M3 fun q hq => ?_) ?_ ea
      · show K.srt r (nxq (K.sz r) (lq l) q) = K.srt r (lq l2 q)
        rw [hs2.2 q hq]
      · cases a2 with
        | none => trivial
        | some b => exact ⟨A2.1, fun q hq => by rw [f3 11 (by decide)]; exact A2.2 q hq⟩
    unfold PX8_leastOf_14
    refine pc_f i10 (m_crossingsAt W hr O M fun w10 f10 => ?_)
    have M10 := f10.ms M
    have F10 := f.tr f10.tol
    have put : ac (K.fY r) a l = some (K.fY r l, l) → ∃ n, PX8_leastOf_42 hs post (PX8_leastOf_14 hs post (t.length + 2)) n w10 (nI r) (nI (K.Yo r (OL (K.srt r) l))) 0 := fun ea => by
      refine ⟨_, m_best6 hr (w0 := w10) (fun w2 f2 g2 => next w2 (some (K.fY r l, l)) (by rw [← ea]; exact e) (fun j x1 x2 x3 x4 x5 => by rw [f2 j x5]; exact F10 j x1 x2 x3 x4 x5) (by rw [f2 0 (by decide)]; exact M10) ⟨yl, fun q hq => ?_⟩) 6 0 w10 (by omega) (fun _ _ => rfl) (fun q h => absurd h (by omega))⟩
      rw [g2 q (by omega), MS_ord M10 hr hq]
    cases a with
    | none => exact pc_t rfl (put rfl)
    | some q =>
      have hA' : q.1 ≤ 72 := hA.1
      refine pc_f (nI_ne_m1 (show q.1 < 2 ^ 31 by omega)) ?_
      by_cases g : K.Yo r (OL (K.srt r) l) < q.1
      · exact pc_f (nle g (show q.1 < 2 ^ 31 by omega)) (put (if_pos g))
      · have ea : ac (K.fY r) (some q) l = some q := if_neg g
        exact pc_t (nle' (by omega) (by omega)) (next w10 (some q) (by rw [← ea]; exact e) F10 M10 ⟨hA', fun x hx => by rw [f10 11 (by decide) (by decide) (by decide)]; exact hA.2 x hx⟩)
/-- laid by numbers -/
theorem m_sort_in {hs : Int64} {K : Kr} (W : WF K) {r : Nat} (hr : r < 4) {w0 : Mem} {a : Nat} {post : Mem → Prop} {K2 : Mem → Int32 → Int32 → Prop} (ha : a < K.sz r) (k : ∀ w o, FR0 w0 w → isO K r o → MS (w 0) (K.setO r o) → (∀ i j, i < a + 1 → i < j → j < K.sz r → o i < o j) → K2 w (nI r) (nI (a + 1))) : ∀ (d b : Nat) (w : Mem) (o : Nat → Nat), b + d = K.sz r → a < b → FR0 w0 w → isO K r o → MS (w 0) (K.setO r o) → (∀ i j, i < a → i < j → j < K.sz r → o i < o j) → (∀ j, a < j → j < b → o a < o j) → PX8_layByNumbers_19 hs post K2 (d + 1) w (nI r) (nI a) (nI b) := by
  have h6 := W.sz6 hr
  have hn := W.np20
  intro d
  induction d with
  | zero =>
    intro b w o hb hab f O M h1 h2
    have e63 : w 0 (63 + r) = nI (K.sz r) := M.2.2.2.1 r hr
    unfold PX8_layByNumbers_19
    rw [n63I, nI_add, ix_nI (show 63 + r < 2 ^ 31 by omega), e63, nI_1]
    refine ⟨in91 (by omega), pc_t (nle' (by omega) (by omega)) (k w o f O M fun i j hi hij hj => ?_)⟩
    by_cases e : i = a
    · subst e; exact h2 j hij (by omega)
    · exact h1 i j (by omega) hij hj
  | succ d ih =>
    intro b w o hb hab f O M h1 h2
    have hb2 : b < K.sz r := by omega
    have e63 : w 0 (63 + r) = nI (K.sz r) := M.2.2.2.1 r hr
    have x := (O.1 a ha).1
    have y := (O.1 b hb2).1
    have wh : ∀ q, q < K.sz r → ∀ {post : Int32 → Prop}, post (nI (o q)) → PX8_whoIs w hs (nI r) (nI q) post := fun q hq post kk => m_whoIsG hr (by omega) (by rw [MS_ord M hr hq]; exact kk)
    unfold PX8_layByNumbers_19
    rw [n63I, nI_add, ix_nI (show 63 + r < 2 ^ 31 by omega), e63, nI_1 a, nI_1 b]
    refine ⟨in91 (by omega), pc_f (nle hb2 (by omega)) (wh b hb2 (wh a ha ?_))⟩
    by_cases g : o b < o a
    · refine pc_f (nle g (by omega)) (m_exchange M (setO_wf W O) hr (show a < (K.setO r o).sz r from ha) hb2 fun w2 f2 _ M2 => ?_)
      rw [setO_setO, setO_od] at M2
      refine ih (b + 1) w2 (fun q => o (trs a b q)) (by omega) (by omega) (f.tr f2) (isO_trs O ha hb2) M2 (fun i j hi hij hj => ?_) (fun j hj1 hj2 => ?_)
      · show o (trs a b i) < o (trs a b j)
        rw [trs_o (by omega) (by omega)]
        by_cases e1 : j = a
        · subst e1; rw [trs_a]; exact h1 i b hi (by omega) hb2
        · by_cases e2 : j = b
          · subst e2; rw [trs_b]; exact h1 i a hi (by omega) ha
          · rw [trs_o e1 e2]; exact h1 i j hi hij hj
      · show o (trs a b a) < o (trs a b j)
        rw [trs_a]
        by_cases e2 : j = b
        · subst e2; rw [trs_b]; exact g
        · rw [trs_o (by omega) e2]
          have := h2 j hj1 (by omega)
          omega
    · refine pc_t (nle' (by omega) (by omega)) (ih (b + 1) w o (by omega) (by omega) f O M h1 fun j hj1 hj2 => ?_)
      by_cases e2 : j = b
      · subst e2
        rcases Nat.lt_or_ge (o a) (o j) with q | q
        · exact q
        · have := O.2.1 a j ha hb2 (by omega); omega
      · exact h2 j hj1 (by omega)
theorem m_sort_out {hs : Int64} {K : Kr} (W : WF K) {r : Nat} (hr : r < 4) {w0 : Mem} {post : Mem → Prop} (k : ∀ w o, FR0 w0 w → isO K r o → MS (w 0) (K.setO r o) → (∀ i j, i < j → j < K.sz r → o i < o j) → post w) : ∀ (d a : Nat) (w : Mem) (o : Nat → Nat), a + d = K.sz r → FR0 w0 w → isO K r o → MS (w 0) (K.setO r o) → (∀ i j, i < a → i < j → j < K.sz r → o i < o j) → PX8_layByNumbers_2 hs post (d + 1) w (nI r) (nI a) := by
  have h6 := W.sz6 hr
  intro d
  induction d with
  | zero =>
    intro a w o ha f O M h1
    have e63 : w 0 (63 + r) = nI (K.sz r) := M.2.2.2.1 r hr
    unfold PX8_layByNumbers_2
    rw [n63I, nI_add, ix_nI (show 63 + r < 2 ^ 31 by omega), e63]
    exact ⟨in91 (by omega), pc_t (nle' (by omega) (by omega)) (k w o f O M fun i j hij hj => h1 i j (by omega) hij hj)⟩
  | succ d ih =>
    intro a w o ha f O M h1
    have e63 : w 0 (63 + r) = nI (K.sz r) := M.2.2.2.1 r hr
    unfold PX8_layByNumbers_2
    rw [n63I, nI_add, ix_nI (show 63 + r < 2 ^ 31 by omega), e63]
    refine ⟨in91 (by omega), pc_f (nle (by omega) (by omega)) fun q3 e3 => ?_⟩
    rw [e3, nI_1]
    exact ⟨_, m_sort_in W hr (w0 := w0) (show a < K.sz r by omega) (fun w2 o2 f2 O2 M2 g => ih (a + 1) w2 o2 (by omega) f2 O2 M2 g) (K.sz r - (a + 1)) (a + 1) w o (by omega) (by omega) f O M h1 (fun j h h2 => absurd h (by omega))⟩
theorem m_layByNumbers {w : Mem} {hs : Int64} {K : Kr} (M : MS (w 0) K) (W : WF K) {r : Nat} (hr : r < 4) {post : Mem → Prop} (k : ∀ w2, FR0 w w2 → MS (w2 0) (K.setO r (OL (K.srt r) (List.range (K.sz r)))) → post w2) : PX8_layByNumbers w hs (nI r) post := by
  have h6 := W.sz6 hr
  refine ⟨_, m_sort_out W hr (w0 := w) (fun w2 o f O M2 g => k w2 f (MS_oc M2 fun q hq => ?_)) (K.sz r) 0 w (K.od r) (by omega) (FR0.rf w) (isO_od W hr) (by rw [setO_self]; exact M) (fun i j h => absurd h (by omega))⟩
  unfold OL
  rw [lq_range hq]
  exact incr_un h6 O (srt_isO W hr) g (fun i j hij hj => (srt_inc W hr (by omega) hj).mpr hij) q hq
theorem m_leastOf {w : Mem} {hs : Int64} {K : Kr} (M : MS (w 0) K) (W : WF K) {r : Nat} (hr : r < 4) {post : Int32 → Mem → Prop} (k : ∀ w2, (∀ j, j ≠ 0 → j ≠ 6 → j ≠ 7 → j ≠ 8 → j ≠ 10 → j ≠ 11 → w2 j = w j) → MS (w2 0) K → (∀ q, q < K.sz r → w2 11 q = nI (K.lo2 r q)) → post (nI (K.lst r).1) w2) : PX8_leastOf w hs (nI r) post := by
  have h6 := W.sz6 hr
  obtain ⟨t, e1, e2, e3, e4⟩ := PM_f h6
  have lf := lst_f W hr
  refine m_remember hr fun w2 f2 g2 => m_layByNumbers (by rw [f2 0 (by decide)]; exact M) W hr fun w4 f4 M4 => ⟨_, m_chain W hr (w0 := w4) (R := K.lst r) (fun w5 o f5 O M5 g5 => m_layBack hr fun w7 f7 a7 b7 => ?_) t (List.range (K.sz r)) none w4 e2 (fun q hq => e4 q (by rw [e1]; exact hq)) (FRL.rf _) M4 trivial (by rw [← e1]; exact lf.1)⟩
  have w10 : ∀ q, q < 6 → w5 10 q = w 0 (67 + 6 * r + q) := fun q hq => by
    rw [f5 10 (by decide) (by decide) (by decide) (by decide) (by decide), f4 10 (by decide), g2 q hq]
  refine k w7 (fun j a b c d e f => by rw [f7 j a, f5 j a b c d f, f4 j a, f2 j e]) ?_ (fun q hq => by rw [f7 11 (by decide)]; exact g5 q hq)
  have := MS_laid M5 (setO_wf W O) hr (o := K.od r) (g := w7 0) a7 (fun q hq => by
    have hq' : q < K.sz r := hq
    rw [b7 q (by omega), w10 q (by omega)]
    exact M.2.2.2.2 r q hr hq')
  rw [setO_setO, setO_self] at this
  exact this
theorem m_untangle {w : Mem} {hs : Int64} {K : Kr} (M : MS (w 0) K) (W : WF K) {r : Nat} (hr : r < 4) {post : Int32 → Mem → Prop} (k : ∀ w2, (∀ j, j ≠ 0 → j ≠ 6 → j ≠ 7 → j ≠ 8 → j ≠ 10 → j ≠ 11 → w2 j = w j) → MS (w2 0) (K.setO r (K.lo2 r)) → post (nI (K.lst r).1) w2) : PX8_leastOf w hs (nI r) (fun r7 w9 => ∃ n14, PX8_untangle_30 hs post n14 w9 (nI r) r7 0) := by
  have h6 := W.sz6 hr
  refine m_leastOf M W hr fun w2 f2 M2 g2 => ⟨_, m_layBest_l hr (w0 := w2) (fun w3 f3 a3 b3 => k w3 (fun j a b c d e f => by rw [f3 j a]; exact f2 j a b c d e f) (MS_laid M2 W hr a3 fun q hq => ?_)) 6 0 w2 (by omega) (fun _ _ => rfl) (fun _ _ => rfl) (fun q h => absurd h (by omega))⟩
  rw [b3 q (by omega)]; exact g2 q hq
