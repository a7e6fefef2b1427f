/-! the class's least crossings, by all orders and by laying -/
theorem ex_trs (f : Nat → Int32) (a b k : Nat) : upd (upd f a (f b)) b (f a) k = f (trs a b k) := by
  by_cases e1 : k = b
  · subst e1; rw [upd_a, trs_b]
  · rw [upd_o _ _ e1]
    by_cases e2 : k = a
    · subst e2; rw [upd_a, trs_a]
    · rw [upd_o _ _ e2, trs_o e2 e1]
theorem c_exch {x : Mem} {a b : Nat} (ha : a < 6) (hb : b < 6) {post : Mem → Prop} (k : ∀ x2, (∀ j, j ≠ 0 → x2 j = x j) → (∀ k, x2 0 k = x 0 (trs a b k)) → post x2) : PX3_exchange x (nI a) (nI b) post := by
  unfold PX3_exchange
  rw [ix_nI (show a < 2 ^ 31 by omega), ix_nI (show b < 2 ^ 31 by omega)]
  refine ⟨in_nI ha (by omega), fun q2 e2 => ⟨in_nI hb (by omega), in_nI ha (by omega), fun x5 e5 => ⟨in_nI hb (by omega), fun x7 e7 => k x7 (fun j h => by rw [e7, mset_o _ _ _ h, e5, mset_o _ _ _ h]) fun q => ?_⟩⟩⟩
  rw [e7, mset_a, e5, mset_a, e2]
  exact ex_trs (x 0) a b q
/-- the search's order -/
def OX (x : Mem) (n : Nat) (o : Nat → Nat) : Prop := ∀ k, k < n → x 0 k = nI (o k)
def X0 (x x2 : Mem) : Prop := ∀ j, j ≠ 0 → x2 j = x j
theorem X0.rf (x : Mem) : X0 x x := fun _ _ => rfl
theorem X0.tr {a b c : Mem} (h : X0 a b) (g : X0 b c) : X0 a c := fun j x => (g j x).trans (h j x)
theorem OX_trs {x x2 : Mem} {n a b : Nat} {o : Nat → Nat} (h : OX x n o) (ha : a < n) (hb : b < n) (e : ∀ k, x2 0 k = x 0 (trs a b k)) : OX x2 n (fun k => o (trs a b k)) := fun k hk => by rw [e k]; exact h _ (trs_lt ha hb hk)
theorem c_rv {n : Nat} (h6 : n ≤ 6) {s : Nat → Nat} {x0 : Mem} {post : Int32 → Mem → Prop} {q : Nat → Nat} (k : ∀ x2, X0 x0 x2 → OX x2 n (fun k => s (q k)) → post 1 x2) : ∀ (d : Nat) (p : Nat → Nat) (i j : Nat) (x : Mem), i ≤ 7 → j < n → j ≤ i + d → X0 x0 x → OX x n (fun k => s (p k)) → rv d p i j = q → PX3_goToNextOrder_93 post (d + 1) x (nI i) (nI j) := by
  intro d
  induction d with
  | zero =>
    intro p i j x hi7 hj hij f M e
    unfold PX3_goToNextOrder_93
    have e' : p = q := e
    subst e'
    exact pc_t (nle' (by omega) (by omega)) (k x f M)
  | succ d ih =>
    intro p i j x hi7 hj hij f M e
    unfold rv at e
    unfold PX3_goToNextOrder_93
    by_cases g : i < j
    · rw [if_pos g] at e
      refine pc_f (nle g (by omega)) (c_exch (by omega) (by omega) fun x2 f2 g2 => ?_)
      rw [nI_1, show j = j - 1 + 1 by omega, pk_m1]
      exact ih (fun k => p (trs i j k)) (i + 1) (j - 1) x2 (by omega) (by omega) (by omega) (f.tr f2) (OX_trs M (by omega) hj g2) e
    · rw [if_neg g] at e
      subst e
      exact pc_t (nle' (by omega) (by omega)) (k x f M)
theorem c_rf {n : Nat} (h6 : n ≤ 6) {s p : Nat → Nat} {a : Nat} (hs1 : RI s n) (hs2 : ∀ k, k < n → s k < 20) (hp : ∀ k, k < n → p k < n) (ha : a + 1 < n) (hge : ¬ p (a + 1) < p a) {x : Mem} (h10 : x 10 0 = nI n) (M : OX x n (fun k => s (p k))) {q : Nat → Nat} {post : Int32 → Mem → Prop} (k : ∀ x2, X0 x x2 → OX x2 n (fun k => s (q k)) → post 1 x2) : ∀ (e : Nat), a + 1 + e < n → rv n (fun k => p (trs a (rf p a (a + 1 + e)) k)) (a + 1) (n - 1) = q → PX3_goToNextOrder_47 post (e + 1) x (nI a) (nI (a + 1 + e)) := by
  have stop : ∀ b, b < n → rv n (fun k => p (trs a b k)) (a + 1) (n - 1) = q → PX3_goToNextOrder_75 post x (nI a) (nI b) := fun b hb e => by
    refine c_exch (by omega) (by omega) fun x2 f2 g2 q8 e8 q9 e9 => ?_
    rw [e8, e9, f2 10 (by decide), h10, nI_1, (m_sub1 n h6 (by omega)).1]
    exact ⟨_, c_rv h6 (x0 := x) (q := q) k n (fun k => p (trs a b k)) (a + 1) (n - 1) x2 (by omega) (by omega) (by omega) f2 (OX_trs M (by omega) hb g2) e⟩
  intro e
  induction e with
  | zero =>
    intro h1 h2
    unfold PX3_goToNextOrder_47
    rw [nI_1]
    refine pc_t (nle' (by omega) (by omega)) (stop (a + 1 + 0) h1 ?_)
    have : rf p a (a + 1 + 0) = a + 1 + 0 := if_neg hge
    rw [this] at h2; exact h2
  | succ e ih =>
    intro h1 h2
    unfold PX3_goToNextOrder_47
    have l1 := hs2 _ (hp a (by omega))
    have l2 := hs2 _ (hp (a + 1 + (e + 1)) h1)
    have z := ri_le hs1 (hp a (by omega)) (hp (a + 1 + (e + 1)) h1)
    rw [nI_1, ix_nI (show a < 2 ^ 31 by omega), ix_nI (show a + 1 + (e + 1) < 2 ^ 31 by omega), show x 0 a = nI (s (p a)) from M a (by omega), show x 0 (a + 1 + (e + 1)) = nI (s (p (a + 1 + (e + 1)))) from M _ h1]
    refine pc_f (nle (by omega) (by omega)) ⟨in_nI (by omega) (by omega), in_nI (by omega) (by omega), ?_⟩
    by_cases g : p (a + 1 + (e + 1)) < p a
    · have : rf p a (a + 1 + (e + 1)) = rf p a (a + 1 + e) := if_pos g
      rw [this] at h2
      refine pc_f (nle (by omega) (by omega)) ?_
      rw [show a + 1 + (e + 1) = a + 1 + e + 1 by omega, pk_m1]
      exact ih (by omega) h2
    · have : rf p a (a + 1 + (e + 1)) = a + 1 + (e + 1) := if_neg g
      rw [this] at h2
      exact pc_t (nle' (z.mpr (by omega)) (by omega)) (stop _ h1 h2)
theorem c_lf {n : Nat} (h6 : n ≤ 6) {s p : Nat → Nat} (hs1 : RI s n) (hs2 : ∀ k, k < n → s k < 20) (hp : ∀ k, k < n → p k < n) {x : Mem} (h10 : x 10 0 = nI n) (M : OX x n (fun k => s (p k))) {post : Int32 → Mem → Prop} (k0 : lf p (n - 1) = 0 → post 0 x) (k1 : lf p (n - 1) ≠ 0 → ∀ x2, X0 x x2 → OX x2 n (fun k => s (nxq n p k)) → post 1 x2) : ∀ t, (t = 0 ∨ t < n) → lf p (n - 1) = lf p t → PX3_goToNextOrder_7 post (t + 1) x (nI t - 1) := by
  intro t
  induction t with
  | zero =>
    intro h1 h2
    unfold PX3_goToNextOrder_7
    rw [m_m1]
    exact pc_t i_m1_lt0 (pc_f (by decide) (k0 h2))
  | succ t ih =>
    intro h1 h2
    have ht : t + 1 < n := by omega
    have l1 := hs2 _ (hp t (by omega))
    have l2 := hs2 _ (hp (t + 1) ht)
    have z := ri_le hs1 (hp t (by omega)) (hp (t + 1) ht)
    unfold PX3_goToNextOrder_7
    rw [nI_pred, nI_1, ix_nI (show t < 2 ^ 31 by omega), ix_nI (show t + 1 < 2 ^ 31 by omega), show x 0 t = nI (s (p t)) from M t (by omega), show x 0 (t + 1) = nI (s (p (t + 1))) from M _ ht]
    refine pc_f (nI_lt0 (by omega)) ⟨in_nI (by omega) (by omega), in_nI (by omega) (by omega), ?_⟩
    by_cases g : p (t + 1) < p t
    · have : lf p (t + 1) = lf p t := if_pos g
      rw [this] at h2
      rw [m_neg]
      exact pc_f (nle (by omega) (by omega)) (ih (by omega) h2)
    · have e1 : lf p (t + 1) = t + 1 := if_neg g
      rw [e1] at h2
      refine pc_t (nle' (z.mpr (by omega)) (by omega)) ?_
      have k1' := k1 (by omega)
      refine pc_t (nI_pos' (by omega)) fun q4 e4 => ?_
      rw [h10, (m_sub1 n h6 (by omega)).1] at e4
      have hq : nxq n p = rv n (fun k => p (trs t (rf p t (t + 1 + (n - 1 - (t + 1)))) k)) (t + 1) (n - 1) := by
        unfold nxq
        rw [h2, show t + 1 - 1 = t by omega, show t + 1 + (n - 1 - (t + 1)) = n - 1 by omega]
      have := c_rf h6 hs1 hs2 hp ht g h10 M (q := nxq n p) k1' (n - 1 - (t + 1)) (by omega) hq.symm
      rw [show t + 1 + (n - 1 - (t + 1)) = n - 1 by omega] at this
      rw [e4]
      exact ⟨_, this⟩
theorem c_goTo {n : Nat} (h6 : n ≤ 6) {s p : Nat → Nat} (hs1 : RI s n) (hs2 : ∀ k, k < n → s k < 20) (hp : ∀ k, k < n → p k < n) {x : Mem} (h10 : x 10 0 = nI n) (M : OX x n (fun k => s (p k))) {post : Int32 → Mem → Prop} (k0 : lf p (n - 1) = 0 → post 0 x) (k1 : lf p (n - 1) ≠ 0 → ∀ x2, X0 x x2 → OX x2 n (fun k => s (nxq n p k)) → post 1 x2) : PX3_goToNextOrder x post := by
  intro q1 e1
  rw [h10] at e1
  rcases Nat.eq_zero_or_pos n with z | z
  · refine ⟨1, ?_⟩
    unfold PX3_goToNextOrder_7
    rw [e1, z]
    refine pc_t (by decide) (pc_f (by decide) (k0 ?_))
    rw [z]; rfl
  · rw [(m_sub1 n h6 z).2] at e1
    rw [e1]
    exact ⟨_, c_lf h6 hs1 hs2 hp h10 M k0 k1 (n - 1) (by omega) rfl⟩
def acX : Option (Nat × List Nat) → Nat
  | none => 1000
  | some q => q.1
def acC (x : Mem) (s : Nat → Nat) (n : Nat) : Option (Nat × List Nat) → Prop
  | none => True
  | some q => q.1 ≤ 72 ∧ ∀ k, k < n → x 1 k = nI (OL s q.2 k)
theorem c_chain {K : Kr} (W : WF K) {r m : Nat} (hr : r < 4) {cc : Nat → Nat} {R : Nat × List Nat} {post : Int32 → Mem → Prop} (k : ∀ x, PR x K r m cc → (∀ q, q < K.sz r → x 1 q = nI (OL (K.srt r) R.2 q)) → post (nI R.1) x) : ∀ (t : List (List Nat)) (l : List Nat) (a : Option (Nat × List Nat)) (x : Mem) (i : Nat), i + t.length < 720 → chB (K.sz r) l t = true → (∀ q, q ∈ l :: t → gdB (K.sz r) q = true) → PR x K r m cc → OX x (K.sz r) (OL (K.srt r) l) → x 12 0 = nI (acX a) → acC x (K.srt r) (K.sz r) a → (l :: t).foldl (ac (K.fY r)) a = some R → PX3_leastByAllOrders_11 post (t.length + 2) x 1 (nI i) := by
  have h6 := W.sz6 hr
  have hn := W.np20
  have sO := srt_isO W hr
  have sI : RI (K.srt r) (K.sz r) := fun a b ha hb => srt_inc W hr ha hb
  have s20 : ∀ k, k < K.sz r → K.srt r k < 20 := fun k hk => by have := (sO.1 k hk).1; omega
  have n720 : (720 : Int32) = nI 720 := rfl
  have top : ∀ (t : List (List Nat)) (l : List Nat) (a : Option (Nat × List Nat)) (x : Mem) (i : Nat), i < 720 → gdB (K.sz r) l = true → PR x K r m cc → OX x (K.sz r) (OL (K.srt r) l) → x 12 0 = nI (acX a) → acC x (K.srt r) (K.sz r) a → (∀ (a2 : Option (Nat × List Nat)) (x2 : Mem), a2 = ac (K.fY r) a l → PR x2 K r m cc → OX x2 (K.sz r) (OL (K.srt r) l) → x2 12 0 = nI (acX a2) → acC x2 (K.srt r) (K.sz r) a2 → PX3_leastByAllOrders_59 post (PX3_leastByAllOrders_11 post (t.length + 1)) x2 (nI i)) → PX3_leastByAllOrders_11 post (t.length + 2) x 1 (nI i) := by
    intro t l a x i hi gl P O h12 hA next
    have isO1 := OL_isO sO gl
    have yl := Yo_le W hr isO1
    unfold PX3_leastByAllOrders_11
    rw [n720, P.1]
    refine pc_f (nle hi (by omega)) (pc_f i10 (c_first W hr isO1 (Nat.le_refl _) P O fun x6 f6 => ?_))
    rw [pcs_Y W hr isO1 P]
    have P6 := P.s27 fun j _ _ c d _ => f6 j c d
    have O6 : OX x6 (K.sz r) (OL (K.srt r) l) := fun q hq => by rw [f6 0 (by decide) (by decide)]; exact O q hq
    rw [f6 12 (by decide) (by decide), h12]
    have put : ac (K.fY r) a l = some (K.fY r l, l) → ∀ x11 : Mem, x11 = mset x6 12 0 (nI (K.Yo r (OL (K.srt r) l))) → ∀ x12 : Mem, x12 = mrow x11 1 (va_cpy (x11 0) (x11 1) 0 0 6) → PX3_leastByAllOrders_59 post (PX3_leastByAllOrders_11 post (t.length + 1)) x12 (nI i) := fun ea x11 e11 x12 e12 => by
      have fr : ∀ j, j ≠ 1 → j ≠ 12 → x12 j = x6 j := fun j a b => by rw [e12, mrow_o _ _ a, e11, mset_o _ _ _ b]
      refine next (some (K.fY r l, l)) x12 ea.symm (P6.s27 fun j _ b _ _ e => fr j b e) (fun q hq => by rw [fr 0 (by decide) (by decide)]; exact O6 q hq) ?_ ⟨yl, fun q hq => ?_⟩
      · rw [e12, mrow_o _ _ (by decide), e11, mset_a, upd_a]; rfl
      · rw [e12, mrow_a, cpy_lt _ _ (by omega), e11, mset_o _ _ _ (by decide)]; exact O6 q hq
    cases a with
    | none => exact pc_f (nle (show K.Yo r (OL (K.srt r) l) < 1000 by omega) (by decide)) (put rfl)
    | some q =>
      have hA' : q.1 ≤ 72 := hA.1
      show (nI q.1 ≤ _ → _) ∧ (¬ nI q.1 ≤ _ → _)
      by_cases g : K.Yo r (OL (K.srt r) l) < q.1
      · exact pc_f (nle g (by omega)) (put (if_pos g))
      · have ea : ac (K.fY r) (some q) l = some q := if_neg g
        refine pc_t (nle' (by omega) (by omega)) (next (some q) x6 ea.symm P6 O6 (by rw [f6 12 (by decide) (by decide)]; exact h12) ⟨hA', fun z hz => by rw [f6 1 (by decide) (by decide)]; exact hA.2 z hz⟩)
  intro t
  induction t with
  | nil =>
    intro l a x i hi hc hg P O h12 hA e
    have gl := hg l List.mem_cons_self
    refine top [] l a x i hi gl P O h12 hA fun a2 x2 ea P2 O2 z12 A2 => ?_
    have ea' : a2 = some R := by rw [ea]; exact e
    subst ea'
    have hnn := of_decide_eq_true (show decide (nxL (K.sz r) l = none) = true from hc)
    refine c_goTo h6 (s := K.srt r) (p := lq l) sI s20 (gd_f gl).1 P2.1 O2 (fun _ => ?_) (fun h => absurd (nxL_none hnn) h)
    unfold PX3_leastByAllOrders_11
    rw [n720, nI_1, z12]
    by_cases g : 720 ≤ i + 1
    · exact pc_t (nle' g (by omega)) (k x2 P2 A2.2)
    · exact pc_f (nle (by omega) (by omega)) (pc_t rfl (k x2 P2 A2.2))
  | cons l2 t ih =>
    intro l a x i hi hc hg P O h12 hA e
    have gl := hg l List.mem_cons_self
    have hl : (l2 :: t).length = t.length + 1 := rfl
    have hc' : (decide (nxL (K.sz r) l = some l2) && chB (K.sz r) l2 t) = true := hc
    rw [Bool.and_eq_true, decide_eq_true_eq] at hc'
    have hs2 := nxL_some hc'.1
    refine top (l2 :: t) l a x i (by omega) gl P O h12 hA fun a2 x2 ea P2 O2 z12 A2 => ?_
    refine c_goTo h6 (s := K.srt r) (p := lq l) sI s20 (gd_f gl).1 P2.1 O2 (fun h => absurd h hs2.1) (fun _ x3 f3 O3 => ?_)
    rw [nI_1]
    refine ih l2 a2 x3 (i + 1) (by omega) hc'.2 (fun q hq => hg q (List.mem_cons_of_mem _ hq)) (P2.s27 fun j a _ _ _ _ => f3 j a) (fun q hq => ?_) (by rw [f3 12 (by decide)]; exact z12) ?_ (by rw [ea]; exact e)
    · rw [O3 q hq]
      show nI (K.srt r (nxq (K.sz r) (lq l) q)) = nI (K.srt r (lq l2 q))
      rw [hs2.2 q hq]
    · cases a2 with
      | none => trivial
      | some b => exact ⟨A2.1, fun q hq => by rw [f3 1 (by decide)]; exact A2.2 q hq⟩
theorem c_leastAll {K : Kr} (W : WF K) {r m : Nat} (hr : r < 4) {cc : Nat → Nat} {x : Mem} (P : PR x K r m cc) (O : OX x (K.sz r) (K.srt r)) {post : Int32 → Mem → Prop} (k : ∀ x2, x2 10 0 = nI (K.sz r) → (∀ q, q < K.sz r → x2 1 q = nI (K.lo2 r q)) → post (nI (K.lst r).1) x2) : PX3_leastByAllOrders x post := by
  obtain ⟨t, e1, e2, e3, e4⟩ := PM_f (W.sz6 hr)
  have lf := lst_f W hr
  intro x1 ex
  refine ⟨_, c_chain W hr (R := K.lst r) (fun x2 P2 g => k x2 P2.1 g) t (List.range (K.sz r)) none x1 0 (by omega) e2 (fun q hq => e4 q (by rw [e1]; exact hq)) (P.s27 fun j _ _ _ _ e => by rw [ex, mset_o _ _ _ e]) (fun q hq => ?_) (by rw [ex, mset_a, upd_a]; rfl) trivial (by rw [← e1]; exact lf.1)⟩
  rw [ex, mset_o _ _ _ (by decide), O q hq]
  unfold OL
  rw [lq_range hq]
/-- laying on: what it finds -/
def LO (K : Kr) (r t : Nat) (o : Nat → Nat) (f f2 : Nat) : Prop := f2 ≤ f ∧ (f2 = f ∨ ∃ o2, isO K r o2 ∧ f2 = K.Yo r o2) ∧ ∀ o2, isO K r o2 → (∀ k, k < t → o2 k = o k) → f2 ≤ K.Yo r o2
theorem c_layOn {K : Kr} (W : WF K) {r m : Nat} (hr : r < 4) {cc : Nat → Nat} : ∀ (d t : Nat) (x : Mem) (o : Nat → Nat) (f : Nat) (post : Mem → Prop), t ≤ K.sz r → K.sz r < t + d → PR x K r m cc → OX x (K.sz r) o → isO K r o → x 12 0 = nI f → f ≤ 1000 → (∀ x2 f2, PR x2 K r m cc → OX x2 (K.sz r) o → x2 12 0 = nI f2 → LO K r t o f f2 → post x2) → PX3_layOn d x (nI t) post := by
  have h6 := W.sz6 hr
  intro d
  induction d with
  | zero => intro t x o f post h1 h2; omega
  | succ d ih =>
    intro t x o f post ht hd P O isO1 h12 hf k
    have yl := Yo_le W hr isO1
    have pl := pcs_le K r m cc o ht
    rw [pcs_Y W hr isO1 P] at pl
    show PX3_layOnB (PX3_layOn d) x (nI t) post
    refine c_first W hr isO1 ht P O fun x3 f3 => ?_
    have P3 := P.s27 fun j _ _ c d _ => f3 j c d
    have O3 : OX x3 (K.sz r) o := fun q hq => by rw [f3 0 (by decide) (by decide)]; exact O q hq
    have z12 : x3 12 0 = nI f := by rw [f3 12 (by decide) (by decide)]; exact h12
    -- no order that goes on so is below what the first ones have
    have low : ∀ o2, isO K r o2 → (∀ k, k < t → o2 k = o k) → pcs K r m cc o t ≤ K.Yo r o2 := fun o2 i2 h2 => by
      rw [← pcs_Y W hr i2 P, pcs_cg W hr isO1 i2 ht (fun k hk => (h2 k hk).symm) P]
      exact pcs_le K r m cc o2 ht
    rw [z12, P3.1]
    by_cases g : pcs K r m cc o t < f
    · refine pc_t (nI_lt g (by omega)) ?_
      by_cases g2 : K.sz r ≤ t
      · refine pc_t (nle' g2 (by omega)) fun x6 e6 => k x6 (pcs K r m cc o t) (P3.s27 fun j _ _ _ _ e => by rw [e6, mset_o _ _ _ e]) (fun q hq => by rw [e6, mset_o _ _ _ (by decide)]; exact O3 q hq) (by rw [e6, mset_a, upd_a]) ⟨by omega, Or.inr ⟨o, isO1, ?_⟩, low⟩
        rw [show t = K.sz r by omega]
        exact pcs_Y W hr isO1 P
      · refine pc_f (nle (by omega) (by omega)) (pc_t (nI_lt (b := 6) (by omega) (by decide)) ?_)
        have loop : ∀ (e i : Nat) (x : Mem) (fi : Nat), i + e = K.sz r → t ≤ i → PR x K r m cc → OX x (K.sz r) o → x 12 0 = nI fi → fi ≤ f → (fi = f ∨ ∃ o2, isO K r o2 ∧ fi = K.Yo r o2) → (∀ o2, isO K r o2 → (∀ k, k < t → o2 k = o k) → (∃ j, t ≤ j ∧ j < i ∧ o2 t = o j) → fi ≤ K.Yo r o2) → PX3_layOn_37 post (PX3_layOn d) (e + 1) x (nI t) (nI i) := by
          intro e
          induction e with
          | zero =>
            intro i x fi hi hti P O z le or all
            unfold PX3_layOn_37
            rw [P.1]
            refine pc_t (nle' (by omega) (by omega)) (k x fi P O z ⟨le, or, fun o2 i2 h2 => all o2 i2 h2 ?_⟩)
            have h := i2.1 t (by omega)
            obtain ⟨j, hj, ej⟩ := isO1.2.2 (o2 t) h.1 h.2
            refine ⟨j, ?_, by omega, ej.symm⟩
            rcases Nat.lt_or_ge j t with y | y
            · have := i2.2.1 j t (by omega) (by omega) (by rw [h2 j y, ej])
              omega
            · exact y
          | succ e ihe =>
            intro i x fi hi hti P O z le or all
            have hi2 : i < K.sz r := by omega
            have tt : trs t i t = i := trs_a t i
            unfold PX3_layOn_37
            rw [P.1, nI_1, nI_1]
            refine pc_f (nle hi2 (by omega)) (c_exch (by omega) (by omega) fun x10 f10 g10 => ?_)
            refine ih (t + 1) x10 (fun k => o (trs t i k)) fi _ (by omega) (by omega) (P.s27 fun j a _ _ _ _ => f10 j a) (OX_trs O (by omega) hi2 g10) (isO_trs isO1 (by omega) hi2) (by rw [f10 12 (by decide)]; exact z) (by omega) fun x12 f2 P12 O12 y12 L => ?_
            refine c_exch (by omega) (by omega) fun x14 f14 g14 => ?_
            refine ihe (i + 1) x14 f2 (by omega) (by omega) (P12.s27 fun j a _ _ _ _ => f14 j a) (fun q hq => ?_) (by rw [f14 12 (by decide)]; exact y12) (by have := L.1; omega) ?_ fun o2 i2 h2 hx => ?_
            · have y := OX_trs O12 (show t < K.sz r by omega) hi2 g14 q hq
              rw [y]
              show nI (o (trs t i (trs t i q))) = _
              rw [trs_trs]
            · rcases L.2.1 with y | y
              · rw [y]; exact or
              · exact Or.inr y
            · obtain ⟨j, hj1, hj2, ej⟩ := hx
              rcases Nat.lt_succ_iff_lt_or_eq.mp hj2 with y | rfl
              · have := all o2 i2 h2 ⟨j, hj1, y, ej⟩
                have := L.1
                omega
              · refine L.2.2 o2 i2 fun q hq => ?_
                rcases Nat.lt_succ_iff_lt_or_eq.mp hq with y | rfl
                · show o2 q = o (trs t j q)
                  rw [trs_o (by omega) (by omega)]; exact h2 q y
                · show o2 q = o (trs q j q)
                  rw [trs_a]; exact ej
        exact ⟨_, loop (K.sz r - t) t x3 f (by omega) (Nat.le_refl _) P3 O3 z12 (Nat.le_refl _) (Or.inl rfl) (fun o2 _ _ ⟨j, h1, h2, _⟩ => by omega)⟩
    · exact pc_f (nI_nlt (by omega) (by omega)) (k x3 f P3 O3 z12 ⟨Nat.le_refl _, Or.inl rfl, fun o2 i2 h2 => by have := low o2 i2 h2; omega⟩)
theorem Yo_cg {K : Kr} (W : WF K) {r m : Nat} (hr : r < 4) {cc o o2 : Nat → Nat} (O : isO K r o) (O2 : isO K r o2) (h : ∀ k, k < K.sz r → o k = o2 k) {x : Mem} (P : PR x K r m cc) : K.Yo r o = K.Yo r o2 := by
  rw [← pcs_Y W hr O P, ← pcs_Y W hr O2 P]
  exact pcs_cg W hr O O2 (Nat.le_refl _) h P
theorem c_leastLay {K : Kr} (W : WF K) {r m : Nat} (hr : r < 4) {cc : Nat → Nat} {x : Mem} (P : PR x K r m cc) (O : OX x (K.sz r) (K.srt r)) {post : Int32 → Mem → Prop} (k : ∀ x2, post (nI (K.lst r).1) x2) : PX3_leastByLaying x post := by
  have h6 := W.sz6 hr
  have sO := srt_isO W hr
  obtain ⟨l1, l2, l3, l4⟩ := lst_f W hr
  intro x1 ex
  show PX3_layOn 8 x1 (nI 0) _
  refine c_layOn W hr (m := m) (cc := cc) 8 0 x1 (K.srt r) 1000 _ (Nat.zero_le _) (by omega) (P.s27 fun j _ _ _ _ e => by rw [ex, mset_o _ _ _ e]) (fun q hq => by rw [ex, mset_o _ _ _ (by decide)]; exact O q hq) sO (by rw [ex, mset_a, upd_a]; rfl) (Nat.le_refl _) fun x2 f2 P2 O2 z L => ?_
  rw [z]
  have e : f2 = (K.lst r).1 := by
    have yl := Yo_le W hr sO
    have a := L.2.2 (K.srt r) sO (fun q h => absurd h (by omega))
    have b := L.2.2 (K.lo2 r) (lo2_isO W hr) (fun q h => absurd h (by omega))
    have l2' : (K.lst r).1 = K.Yo r (K.lo2 r) := l2
    rcases L.2.1 with y | ⟨o2, i2, y⟩
    · omega
    · obtain ⟨l, hl, el⟩ := OL_all h6 sO i2
      obtain ⟨t, _, _, _, gd⟩ := PM_f h6
      have c := l4 l hl
      have d : K.Yo r o2 = K.fY r l := Yo_cg W hr i2 (OL_isO sO (gd l hl)) el P2
      omega
  rw [e]; exact k x2
theorem c_least {x v : Mem} {K : Kr} (C : CS v K) (W : WF K) {r : Nat} (hr : r < 4) {post : Int32 → Mem → Prop} (k : ∀ x2, x2 10 0 = nI (K.sz r) → (∀ q, q < K.sz r → x2 1 q = nI (K.lo2 r q)) → post (nI (K.lst r).1) x2) : PX3_prepare x v (nI r) (fun x8 => PX3_leastByAllOrders x8 post) :=
  c_prepare C W hr fun _ _ _ P O => c_leastAll W hr P O k
theorem c_least1 {x v : Mem} {K : Kr} (C : CS v K) (W : WF K) {r : Nat} (hr : r < 4) {post : Int32 → Mem → Prop} (k : ∀ x2, post (nI (K.lst r).1) x2) : PX3_prepare x v (nI r) (fun x8 => PX3_leastByLaying x8 post) :=
  c_prepare C W hr fun _ _ _ P O => c_leastLay W hr P O k
