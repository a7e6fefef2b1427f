/-! what the text tells, done one after the other -/
/-- one item done: whether (1 or 0), and what is then -/
noncomputable def Kr.dI (K : Kr) (kd a b : Nat) : Nat × Kr :=
  if kd = 1 then (if a < K.np ∧ b < K.np ∧ a ≠ b then (if K.rs a b = 0 then (1, K.addC (min a b) (max a b)) else (0, K.ref)) else (0, K))
  else if kd = 2 then (if a < K.nc then (if K.sz (K.row (K.lo a) + 1) < 6 ∧ K.np < 20 then (1, K.addP (K.row (K.lo a) + 1) (some a)) else (0, K.ref)) else (0, K))
  else (if K.sz a < 6 ∧ K.np < 20 then (1, K.addP a none) else (0, K.ref))
theorem dI_1y {K : Kr} {a b : Nat} (h : a < K.np ∧ b < K.np ∧ a ≠ b) (g : K.rs a b = 0) : K.dI 1 a b = (1, K.addC (min a b) (max a b)) := by unfold Kr.dI; rw [if_pos rfl, if_pos h, if_pos g]
theorem dI_1r {K : Kr} {a b : Nat} (h : a < K.np ∧ b < K.np ∧ a ≠ b) (g : 0 < K.rs a b) : K.dI 1 a b = (0, K.ref) := by unfold Kr.dI; rw [if_pos rfl, if_pos h, if_neg (by omega)]
theorem dI_1n {K : Kr} {a b : Nat} (h : ¬ (a < K.np ∧ b < K.np ∧ a ≠ b)) : K.dI 1 a b = (0, K) := by unfold Kr.dI; rw [if_pos rfl, if_neg h]
theorem dI_2y {K : Kr} {a b : Nat} (h : a < K.nc) (g : K.sz (K.row (K.lo a) + 1) < 6 ∧ K.np < 20) : K.dI 2 a b = (1, K.addP (K.row (K.lo a) + 1) (some a)) := by unfold Kr.dI; rw [if_neg (by decide), if_pos rfl, if_pos h, if_pos g]
theorem dI_2r {K : Kr} {a b : Nat} (h : a < K.nc) (g : ¬ (K.sz (K.row (K.lo a) + 1) < 6 ∧ K.np < 20)) : K.dI 2 a b = (0, K.ref) := by unfold Kr.dI; rw [if_neg (by decide), if_pos rfl, if_pos h, if_neg g]
theorem dI_2n {K : Kr} {a b : Nat} (h : ¬ a < K.nc) : K.dI 2 a b = (0, K) := by unfold Kr.dI; rw [if_neg (by decide), if_pos rfl, if_neg h]
theorem dI_0y {K : Kr} {a b : Nat} (g : K.sz a < 6 ∧ K.np < 20) : K.dI 0 a b = (1, K.addP a none) := by unfold Kr.dI; rw [if_neg (by decide), if_neg (by decide), if_pos g]
theorem dI_0r {K : Kr} {a b : Nat} (g : ¬ (K.sz a < 6 ∧ K.np < 20)) : K.dI 0 a b = (0, K.ref) := by unfold Kr.dI; rw [if_neg (by decide), if_neg (by decide), if_neg g]
theorem addC_wf' {K : Kr} (W : WF K) {a b : Nat} (hab : a ≠ b) (ha : a < K.np) (hb : b < K.np) (h : K.rs a b = 0) : WF (K.addC (min a b) (max a b)) := by
  rcases Nat.lt_or_ge a b with g | g
  · rw [Nat.min_eq_left (by omega), Nat.max_eq_right (by omega)]; exact addC_wf W g hb h
  · rw [Nat.min_eq_right g, Nat.max_eq_left g]; exact addC_wf W (by omega) ha (by rw [rs_comm]; exact h)
theorem addCh_wf {K : Kr} (W : WF K) {a : Nat} (h : a < K.nc) (g : K.sz (K.row (K.lo a) + 1) < 6 ∧ K.np < 20) : WF (K.addP (K.row (K.lo a) + 1) (some a)) :=
  addP_wf W (by have := W.row3 h; omega) g.1 g.2 (fun c hc => by cases hc; exact ⟨h, rfl⟩)
theorem addN_wf {K : Kr} (W : WF K) {a : Nat} (h : a < 4) (g : K.sz a < 6 ∧ K.np < 20) : WF (K.addP a none) := addP_wf W h g.1 g.2 (fun c hc => by cases hc)
theorem dI_le (K : Kr) (kd a b : Nat) : (K.dI kd a b).1 ≤ 1 := by
  unfold Kr.dI
  repeat' split
  all_goals first | exact Nat.le_refl _ | exact Nat.zero_le _
theorem dI_wf {K : Kr} (W : WF K) {kd a b : Nat} (hk : kd = 1 ∨ kd = 2 ∨ kd = 0 ∧ a < 4) : WF (K.dI kd a b).2 := by
  rcases hk with rfl | rfl | ⟨rfl, h4⟩
  · by_cases h : a < K.np ∧ b < K.np ∧ a ≠ b
    · rcases Nat.eq_zero_or_pos (K.rs a b) with g | g
      · rw [dI_1y h g]; exact addC_wf' W h.2.2 h.1 h.2.1 g
      · rw [dI_1r h g]; exact ref_wf W
    · rw [dI_1n h]; exact W
  · by_cases h : a < K.nc
    · by_cases g : K.sz (K.row (K.lo a) + 1) < 6 ∧ K.np < 20
      · rw [dI_2y h g]; exact addCh_wf W h g
      · rw [dI_2r h g]; exact ref_wf W
    · rw [dI_2n h]; exact W
  · by_cases g : K.sz a < 6 ∧ K.np < 20
    · rw [dI_0y g]; exact addN_wf W h4 g
    · rw [dI_0r g]; exact ref_wf W
theorem c_isPersonX {v : Mem} {K : Kr} (C : CS v K) (W : WF K) {p : Nat} (hp : p < 2 ^ 31) {post : Int32 → Prop} (k1 : p < K.np → post 1) (k0 : K.np ≤ p → post 0) : PX5_isPerson v (nI p) post := by
  rcases Nat.lt_or_ge p K.np with g | g
  · exact c_isPerson C W g (k1 g)
  · refine pc_f (nI_lt0 hp) (pc_t ?_ (k0 g))
    rw [C.1.1]; exact nle' g hp
theorem c_isCoupleX {v : Mem} {K : Kr} (C : CS v K) (W : WF K) {p : Nat} (hp : p < 2 ^ 31) {post : Int32 → Prop} (k1 : p < K.nc → post 1) (k0 : K.nc ≤ p → post 0) : PX5_isCouple v (nI p) post := by
  rcases Nat.lt_or_ge p K.nc with g | g
  · exact c_isCouple C W g (k1 g)
  · refine pc_f (nI_lt0 hp) (pc_t ?_ (k0 g))
    rw [C.1.2.1]; exact nle' g hp
theorem c_doItem {kc v tx : Mem} {K : Kr} (C : CS v K) (W : WF K) {kd a b : Nat} (hk : kd = 1 ∨ kd = 2 ∨ kd = 0 ∧ a < 4) (ha : a < 200) (hb : b < 200) (h3 : tx 3 0 = nI kd) (h4 : tx 4 0 = nI a) (h5 : kd = 1 → tx 5 0 = nI b) {post : Int32 → Mem → Prop} (k : ∀ v2, CS v2 (K.dI kd a b).2 → post (nI (K.dI kd a b).1) v2) : PX7_doItem kc v tx post := by
  have hn := W.np20
  have hc10 := W.nc10
  unfold PX7_doItem PX6_firstNumber PX6_secondNumber PX6_itemKind
  rw [h3, h4]
  rcases hk with rfl | rfl | ⟨rfl, l4⟩
  · rw [h5 rfl]
    refine pc_t rfl (c_isPersonX C W (by omega) (fun g1 => pc_f i10 (c_isPersonX C W (by omega) (fun g2 => pc_f i10 ?_) (fun g2 => pc_t rfl ?_))) (fun g1 => pc_t rfl ?_))
    · by_cases g3 : a = b
      · refine pc_t (by rw [g3]) ?_
        rw [dI_1n (by omega)] at k; exact k v C
      · refine pc_f (nne (by omega) (by omega) g3) (c_addCouple C W g1 g2 (fun g v2 C2 => ?_) (fun g v2 C2 => ?_))
        · have := rs_le K a b
          rw [dI_1r ⟨g1, g2, g3⟩ g] at k
          exact pc_t (nI_lt (b := 10) (by omega) (by decide)) (k v2 C2)
        · rw [dI_1y ⟨g1, g2, g3⟩ g] at k
          exact pc_f (nI_nlt (b := 10) (by omega) (by omega)) (k v2 C2)
    · rw [dI_1n (by omega)] at k; exact k v C
    · rw [dI_1n (by omega)] at k; exact k v C
  · refine pc_f (by decide) (pc_t rfl (c_isCoupleX C W (by omega) (fun g1 => pc_f i10 (c_addChild C W g1 (fun g v2 C2 => pc_t rfl ?_) (fun g g2 v2 C2 => pc_f (nI_ne_m1 (by omega)) ?_))) (fun g1 => pc_t rfl ?_)))
    · rw [dI_2r g1 (by omega)] at k; exact k v2 C2
    · rw [dI_2y g1 ⟨g, g2⟩] at k; exact k v2 C2
    · rw [dI_2n (by omega)] at k; exact k v C
  · refine pc_f (by decide) (pc_f (by decide) (crow_ok l4 (pc_f i10 ?_)))
    show PX5_addPerson v (nI a) (pI none) _
    refine c_addPerson C W l4 (fun c hc => by cases hc) (fun g v2 C2 => pc_t rfl ?_) (fun g g2 v2 C2 => pc_f (nI_ne_m1 (by omega)) ?_)
    · rw [dI_0r (by omega)] at k; exact k v2 C2
    · rw [dI_0y ⟨g, g2⟩] at k; exact k v2 C2
theorem FR0.rf (w : Mem) : FR0 w w := fun _ _ => rfl
theorem FR0.tr {a b c : Mem} (h : FR0 a b) (g : FR0 b c) : FR0 a c := fun j x => (g j x).trans (h j x)
theorem m_isDone {w : Mem} {hs : Int64} {K : Kr} (M : MS (w 0) K) (W : WF K) {q x kd a b : Nat} (hq : q < 32) (h17 : w 17 q = nI x) (hx : x < 200) (ha : a < 200) (hb : b < 200) (hk : kd = 1 ∧ x = 43 ∨ kd = 2 ∧ x = 94 ∨ kd = 0 ∧ a < 4 ∧ x = a + 48) (h18 : kd ≠ 0 → w 18 q = nI a) (h19 : kd = 1 → w 19 q = nI b) {post : Int32 → Mem → Prop} (k : ∀ w2, FR0 w w2 → MS (w2 0) (K.dI kd a b).2 → post (nI (K.dI kd a b).1) w2) : PX8_isDone w hs (nI q) post := by
  have hn := W.np20
  have hc10 := W.nc10
  have iq : vp_in (nI q) 32 := in_nI hq (by decide)
  unfold PX8_isDone
  rw [ix_nI (show q < 2 ^ 31 by omega), h17, n43I, n94I]
  rcases hk with ⟨rfl, rfl⟩ | ⟨rfl, rfl⟩ | ⟨rfl, l4, rfl⟩
  · rw [h18 (by decide), h19 rfl]
    refine ⟨iq, pd_t rfl ⟨iq, m_isPerson M W (by omega) (fun g1 => pc_f i10 ⟨iq, m_isPerson M W (by omega) (fun g2 => pc_f i10 ⟨iq, iq, ?_⟩) (fun g2 => pc_t rfl ?_)⟩) (fun g1 => pc_t rfl ?_)⟩⟩
    · by_cases g3 : a = b
      · refine pc_t (by rw [g3]) ?_
        rw [dI_1n (by omega)] at k; exact k w (FR0.rf w) M
      · refine pc_f (nne (by omega) (by omega) g3) ⟨iq, iq, m_marryNow M W g3 g1 g2 (fun g w2 f2 M2 => ?_) (fun g w2 f2 M2 => ?_)⟩
        · have := rs_le K a b
          rw [dI_1r ⟨g1, g2, g3⟩ g] at k
          exact pc_t (nle' (b := 9) (by omega) (by decide)) (k w2 f2 M2)
        · rw [dI_1y ⟨g1, g2, g3⟩ g] at k
          exact pc_f (nle (b := 9) (by omega) (by omega)) (k w2 f2 M2)
    · rw [dI_1n (by omega)] at k; exact k w (FR0.rf w) M
    · rw [dI_1n (by omega)] at k; exact k w (FR0.rf w) M
  · rw [h18 (by decide)]
    refine ⟨iq, pd_f (by decide) ⟨iq, pd_t rfl ⟨iq, m_isCouple M W (by omega) (fun g1 => pc_f i10 ⟨iq, m_childNow M W g1 (fun g w2 f2 M2 => pc_t rfl ?_) (fun g g2 w2 f2 M2 => pc_f (nI_ne_m1 (by omega)) ?_)⟩) (fun g1 => pc_t rfl ?_)⟩⟩⟩
    · rw [dI_2r g1 (by omega)] at k; exact k w2 f2 M2
    · rw [dI_2y g1 ⟨g, g2⟩] at k; exact k w2 f2 M2
    · rw [dI_2n (by omega)] at k; exact k w (FR0.rf w) M
  · refine ⟨iq, pd_f (nne (by omega) (by omega) (by omega)) ⟨iq, pd_f (nne (by omega) (by omega) (by omega)) ⟨iq, ?_⟩⟩⟩
    rw [n48I, pk_sub (by omega), show a + 48 - 48 = a by omega]
    show PX8_personNow w hs (nI a) (pI none) _
    refine m_personNow M W l4 (fun g w2 f2 M2 => pc_t rfl ?_) (fun g g2 w2 f2 M2 => pc_f (nI_ne_m1 (by omega)) ?_)
    · rw [dI_0r (by omega)] at k; exact k w2 f2 M2
    · rw [dI_0y ⟨g, g2⟩] at k; exact k w2 f2 M2
/-- from the k-th item on, at most d of them: how many are done in all, and what is then -/
noncomputable def rgo (c : Nat → Nat) (L : Nat) : Nat → Nat → Kr → Nat × Kr
  | 0, k, K => (k, K)
  | d + 1, k, K => if (K.dI (pK c L (sP c L k)) (pA c L (sP c L k)) (pB c L (sP c L k))).1 = 0 then (k, (K.dI (pK c L (sP c L k)) (pA c L (sP c L k)) (pB c L (sP c L k))).2) else rgo c L d (k + 1) (K.dI (pK c L (sP c L k)) (pA c L (sP c L k)) (pB c L (sP c L k))).2
theorem nv200 {c : Nat → Nat} {L : Nat} (hc : ∀ i, i < L → c i < 200) (i : Nat) : nv c L i < 200 := by
  have a := cx200 hc i
  have b := cx200 hc (i + 1)
  unfold nv
  split <;> omega
theorem pA200 {c : Nat → Nat} {L : Nat} (hc : ∀ i, i < L → c i < 200) (i : Nat) : pA c L i < 200 := by
  have a := cx200 hc i
  have b := cx200 hc (i + 1)
  have d := nv200 hc (i + 1)
  unfold pA
  split
  · exact d
  · split <;> omega
theorem pK_c {c : Nat → Nat} {L i : Nat} (h : pOk c L i = true) : pK c L i = 1 ∧ cx c L i = 43 ∨ pK c L i = 2 ∧ cx c L i = 94 ∨ pK c L i = 0 ∧ pA c L i < 4 ∧ cx c L i = pA c L i + 48 := by
  unfold pOk at h
  unfold pK pA
  by_cases g2 : cx c L i = 43
  · exact Or.inl ⟨if_pos g2, g2⟩
  · rw [if_neg g2, if_neg g2]
    by_cases g3 : cx c L i = 94
    · exact Or.inr (Or.inl ⟨if_pos g3, g3⟩)
    · rw [if_neg g3, if_neg g3]
      by_cases g1 : 48 ≤ cx c L i ∧ cx c L i < 52
      · exact Or.inr (Or.inr ⟨rfl, by omega, by omega⟩)
      · rw [if_neg g1, if_neg g2, if_neg g3] at h; cases h
theorem pK_c' {c : Nat → Nat} {L i : Nat} (h : pOk c L i = true) : pK c L i = 1 ∨ pK c L i = 2 ∨ pK c L i = 0 ∧ pA c L i < 4 := by
  rcases pK_c h with g | g | g
  · exact Or.inl g.1
  · exact Or.inr (Or.inl g.1)
  · exact Or.inr (Or.inr ⟨g.1, g.2.1⟩)
theorem rgo_wf {c : Nat → Nat} {L m : Nat} (wh : WH c L m) : ∀ (d k : Nat) (K : Kr), k + d ≤ m → WF K → WF (rgo c L d k K).2
  | 0, _, _, _, W => W
  | d + 1, k, K, h, W => by
    have W2 := dI_wf W (b := pB c L (sP c L k)) (pK_c' (wh.2.1 k (by omega)))
    unfold rgo
    split
    · exact W2
    · exact rgo_wf wh d (k + 1) _ (by omega) W2
theorem m_run_l {hs : Int64} {w0 : Mem} {c : Nat → Nat} {L m : Nat} (wh : WH c L m) (hL : L ≤ 60) (hc : ∀ i, i < L → c i < 200) (h16 : w0 16 0 = nI m) (A : ARR w0 c L m) {R : Nat × Kr} {post : Int32 → Mem → Prop} (k : ∀ w2, (∀ j, j ≠ 0 → j ≠ 13 → w2 j = w0 j) → w2 13 0 = 0 → MS (w2 0) R.2 → post (nI R.1) w2) : ∀ (d i : Nat) (w : Mem) (K : Kr), i + d = m → FR0 w0 w → MS (w 0) K → WF K → rgo c L d i K = R → PX8_run_24 hs post (d + 1) w (nI i) := by
  have h30 := wh_30 wh hL
  have fin : ∀ (i : Nat) (w : Mem) (K : Kr), FR0 w0 w → MS (w 0) K → (i, K) = R → PX8_run_46 hs post w (nI i) := fun i w K f M e w9 e9 => by
    subst e
    refine k w9 (fun j a b => by rw [e9, mset_o _ _ _ b]; exact f j a) (by rw [e9, mset_a, upd_a]) ?_
    rw [e9, mset_o _ _ _ (by decide)]; exact M
  intro d
  induction d with
  | zero =>
    intro i w K hi f M W e
    unfold PX8_run_24
    rw [f 16 (by decide), h16]
    exact pc_t (nle' (by omega) (by omega)) (fin i w K f M e)
  | succ d ih =>
    intro i w K hi f M W e
    have ok := wh.2.1 i (by omega)
    have ar := A i (by omega)
    unfold PX8_run_24
    rw [f 16 (by decide), h16, nI_1 i]
    refine pc_f (nle (by omega) (by omega)) (m_isDone M W (kd := pK c L (sP c L i)) (a := pA c L (sP c L i)) (b := pB c L (sP c L i)) (show i < 32 by omega) (by rw [f 17 (by decide)]; exact ar.1) (cx200 hc _) (pA200 hc _) (nv200 hc _) (pK_c ok) (fun g => by rw [f 18 (by decide)]; exact ar.2.1 g) (fun g => by rw [f 19 (by decide)]; exact ar.2.2 g) fun w2 f2 M2 => ?_)
    have W2 := dI_wf W (b := pB c L (sP c L i)) (pK_c' ok)
    unfold rgo at e
    by_cases g : (K.dI (pK c L (sP c L i)) (pA c L (sP c L i)) (pB c L (sP c L i))).1 = 0
    · rw [if_pos g] at e
      rw [g]
      exact pc_t rfl (fin i w2 _ (f.tr f2) M2 e)
    · rw [if_neg g] at e
      refine pc_f ?_ (ih (i + 1) w2 _ (by omega) (f.tr f2) M2 W2 e)
      have hl : (K.dI (pK c L (sP c L i)) (pA c L (sP c L i)) (pB c L (sP c L i))).1 ≤ 1 := by
        exact dI_le _ _ _ _
      exact nI_ne0 (by omega) (by omega)
theorem m_run {w : Mem} {hs : Int64} {c : Nat → Nat} {L n : Nat} {S : Nat → Kr} {K : Kr} (T : TXM w L c) (hL : L ≤ 60) (hc : ∀ i, i < L → c i < 200) (V : SV w n S) (M : MS (w 0) K) (W : WF K) {post : Int32 → Mem → Prop} (k0 : ¬ (ds c L = 1 ∨ ds c L = 6) → ∀ w2, (∀ j, j < 14 → j ≠ 5 → w2 j = w j) → w2 5 0 = 1 → post 0 w2) (k1 : ∀ m, WH c L m → ∀ w2, (∀ j, j < 14 → j ≠ 0 → j ≠ 1 → j ≠ 2 → j ≠ 5 → j ≠ 13 → w2 j = w j) → w2 5 0 = 0 → w2 13 0 = 0 → SV w2 (if n < 6 then n + 1 else 6) (psh n S K) → MS (w2 0) (rgo c L m 0 K).2 → post (nI (rgo c L m 0 K).1) w2) : PX8_run w hs post := by
  intro w1 e1
  have f1 : ∀ j, j ≠ 5 → w1 j = w j := fun j a => by rw [e1, mset_o _ _ _ a]
  have z5 : w1 5 0 = 0 := by rw [e1, mset_a, upd_a]
  refine m_isChronicle (T.cg (f1 12 (by decide)) (f1 13 (by decide))) hL hc (fun w2 r f2 g14 s => pd_t rfl fun w17 e17 => ?_) (fun w4 m f4 g14 g16 wh ar e => pd_f i10 ?_)
  · refine k0 (by have := STP_no s; omega) w17 (fun j a b => by rw [e17, mset_o _ _ _ b, f2 j a, f1 j b]) (by rw [e17, mset_a, upd_a])
  · refine m_save (V.cg (by rw [f4 1 (by decide), f1 1 (by decide)]) (by rw [f4 2 (by decide), f1 2 (by decide)])) (by rw [f4 0 (by decide), f1 0 (by decide)]; exact M) W fun w7 f7 V7 => ⟨_, m_run_l (R := rgo c L m 0 K) (w0 := w7) wh hL hc (by rw [f7 16 (by decide) (by decide)]; exact g16) (ar.cg fun q _ => by rw [f7 17 (by decide) (by decide), f7 18 (by decide) (by decide), f7 19 (by decide) (by decide)]; exact ⟨rfl, rfl, rfl⟩) (fun w2 f2 z13 M2 => k1 m wh w2 (fun j a b c d e g => by rw [f2 j b g, f7 j c d, f4 j a, f1 j e]) ?_ z13 (V7.cg (f2 1 (by decide) (by decide)) (f2 2 (by decide) (by decide))) M2) m 0 w7 K (by omega) (FR0.rf _) (by rw [f7 0 (by decide) (by decide), f4 0 (by decide), f1 0 (by decide)]; exact M) W rfl⟩
    rw [f2 5 (by decide) (by decide), f7 5 (by decide) (by decide), f4 5 (by decide)]; exact z5
/-- the class reads the text -/
def TF (tx tx2 : Mem) : Prop := tx2 0 = tx 0 ∧ tx2 1 = tx 1
theorem TF.rf (tx : Mem) : TF tx tx := ⟨rfl, rfl⟩
theorem TF.tr {a b c : Mem} (h : TF a b) (g : TF b c) : TF a c := ⟨g.1.trans h.1, g.2.trans h.2⟩
theorem TF.s {tx tx2 : Mem} {j i : Nat} {x : Int32} (h : 2 ≤ j) (e : tx2 = mset tx j i x) : TF tx tx2 := ⟨by rw [e, mset_o _ _ _ (by omega)], by rw [e, mset_o _ _ _ (by omega)]⟩
theorem TF.tx {tx tx2 : Mem} {n : Nat} {c : Nat → Nat} (h : TF tx tx2) (T : TX tx n c) : TX tx2 n c := ⟨by rw [h.2]; exact T.1, T.2.1, fun i hi => by rw [h.1]; exact T.2.2 i hi⟩
theorem c_codeAt {tx : Mem} {L i : Nat} {c : Nat → Nat} (T : TX tx L c) (hi : i < 2 ^ 31) {post : Int32 → Prop} (k1 : i < L → post (nI (c i))) (k0 : L ≤ i → post (-1)) : PX6_codeAt tx (nI i) post := by
  have hL := T.2.1
  refine pc_f (nI_lt0 hi) ?_
  rw [T.1, ix_nI hi]
  rcases Nat.lt_or_ge i L with g | g
  · rw [(T.2.2 i g).1]
    exact pc_f (nle g (by omega)) ⟨in_nI (by omega) (by omega), k1 g⟩
  · exact pc_t (nle' g hi) (k0 g)
theorem c_rn_end {tx : Mem} {L i y n : Nat} {c : Nat → Nat} (T : TX tx L c) (h2 : tx 2 0 = nI i) (hi : i < 2 ^ 31) (hd : dg (cx c L i) = false) {post : Int32 → Mem → Prop} (k : post (nI y) tx) : PX6_readNumber_2 post (n + 1) tx (nI y) := by
  unfold PX6_readNumber_2
  rw [h2]
  refine c_codeAt T hi (fun g => c_isDigit (T.2.2 i g).2 (fun h => ?_) (fun _ => pc_t rfl k)) (fun g => ?_)
  · rw [cx_lt g, h] at hd; cases hd
  · exact pc_t (by decide) (pc_t rfl k)
theorem c_rn_s {tx : Mem} {L i y n : Nat} {c : Nat → Nat} (T : TX tx L c) (h2 : tx 2 0 = nI i) (hi : i < 2 ^ 31) (hd : dg (cx c L i) = true) {post : Int32 → Mem → Prop} (k : ∀ tx2, (∀ j, j ≠ 2 → tx2 j = tx j) → tx2 2 0 = nI (i + 1) → PX6_readNumber_2 post n tx2 (nI (10 * y + cx c L i - 48))) : PX6_readNumber_2 post (n + 1) tx (nI y) := by
  have hl := dg_cx hd
  have hL := T.2.1
  have g2 := dg_iff.mp hd
  rw [cx_lt hl] at hd g2 k
  unfold PX6_readNumber_2
  rw [h2, T.1]
  refine c_codeAt T hi (fun g => c_isDigit (T.2.2 i g).2 (fun _ => pc_f i10 (pc_f (nle hl (by omega)) (c_codeAt T hi (fun _ q9 e9 tx10 e10 => ?_) (fun g => absurd hl (by omega))))) (fun h => by rw [h] at hd; cases hd)) (fun g => absurd hl (by omega))
  rw [n10I, pk_mul, nI_add, n48I, pk_sub (by omega)] at e9
  rw [e9]
  exact k tx10 (fun j a => by rw [e10, mset_o _ _ _ a]) (by rw [e10, mset_a, upd_a, nI_1])
theorem c_rn {tx : Mem} {L i : Nat} {c : Nat → Nat} (T : TX tx L c) (h2 : tx 2 0 = nI i) (hi : i < 2 ^ 31 - 3) (hd : dg (cx c L i) = true) (he : dg (cx c L (nj c L i)) = false) {post : Int32 → Mem → Prop} (k : ∀ tx2, (∀ j, j ≠ 2 → tx2 j = tx j) → tx2 2 0 = nI (nj c L i) → post (nI (nv c L i)) tx2) : PX6_readNumber tx post := by
  refine ⟨3, ?_⟩
  rw [n0I]
  refine c_rn_s T h2 (by omega) hd fun tx2 f2 g2 => ?_
  have T2 : TX tx2 L c := TF.tx ⟨f2 0 (by decide), f2 1 (by decide)⟩ T
  unfold nj at he k
  unfold nv at k
  by_cases g : cx c L i = 49 ∧ dg (cx c L (i + 1)) = true
  · rw [if_pos g] at he k
    rw [if_pos g] at k
    refine c_rn_s T2 g2 (by omega) g.2 fun tx3 f3 g3 => c_rn_end (TF.tx ⟨f3 0 (by decide), f3 1 (by decide)⟩ T2) g3 (by omega) he ?_
    have e : 10 * (10 * 0 + cx c L i - 48) + cx c L (i + 1) - 48 = 10 + cx c L (i + 1) - 48 := by omega
    rw [e]
    exact k tx3 (fun j a => by rw [f3 j a, f2 j a]) g3
  · rw [if_neg g] at he k
    rw [if_neg g] at k
    refine c_rn_end T2 g2 (by omega) he ?_
    rw [show 10 * 0 + cx c L i - 48 = cx c L i - 48 by omega]
    exact k tx2 f2 g2
theorem c_rn1 {tx : Mem} {L i : Nat} {c : Nat → Nat} (T : TX tx L c) (h2 : tx 2 0 = nI i) (hi : i < 2 ^ 31 - 3) (hd : dg (cx c L i) = true) (he : dg (cx c L (i + 1)) = false) {post : Int32 → Mem → Prop} (k : ∀ tx2, (∀ j, j ≠ 2 → tx2 j = tx j) → tx2 2 0 = nI (i + 1) → post (nI (cx c L i - 48)) tx2) : PX6_readNumber tx post := by
  have n : ¬ (cx c L i = 49 ∧ dg (cx c L (i + 1)) = true) := fun q => by rw [he] at q; cases q.2
  have ej : nj c L i = i + 1 := if_neg n
  have ev : nv c L i = cx c L i - 48 := if_neg n
  refine c_rn T h2 hi hd (by rw [ej]; exact he) fun tx2 f g => ?_
  rw [ej] at g
  rw [ev]
  exact k tx2 f g
theorem cOk_f {c : Nat → Nat} {L i : Nat} (h : cOk c L i = true) : dg (cx c L i) = true ∧ cx c L (nj c L i) = 38 ∧ dg (cx c L (nj c L i + 1)) = true ∧ cJ c L i = nj c L (nj c L i + 1) := by
  unfold cOk at h
  rw [Bool.and_eq_true, Bool.and_eq_true, decide_eq_true_eq] at h
  refine ⟨h.1.1, h.1.2, h.2, ?_⟩
  unfold cJ
  rw [h.1.1, if_neg (by decide), if_neg (by simp [h.1.2]), h.2, if_neg (by decide)]
theorem c_readItem {tx : Mem} {L i : Nat} {c : Nat → Nat} (T : TX tx L c) (h2 : tx 2 0 = nI i) (ok : pOk c L i = true) (he : dg (cx c L (pJ c L i)) = false) {post : Int32 → Mem → Prop} (k : ∀ tx2, TF tx tx2 → tx2 2 0 = nI (pJ c L i + 1) → tx2 3 0 = nI (pK c L i) → tx2 4 0 = nI (pA c L i) → (pK c L i = 1 → tx2 5 0 = nI (pB c L i)) → post 1 tx2) : PX6_readItem tx post := by
  have hL := T.2.1
  have hlt : i < L := by
    rcases pK_c ok with g | g | g
    · exact cx_ne g.2 (by decide)
    · exact cx_ne g.2 (by decide)
    · exact cx_ne g.2.2 (by omega)
  have hc := (T.2.2 i hlt).2
  have fin : ∀ tx9 : Mem, TF tx tx9 → tx9 2 0 = nI (pJ c L i) → tx9 3 0 = nI (pK c L i) → tx9 4 0 = nI (pA c L i) → (pK c L i = 1 → tx9 5 0 = nI (pB c L i)) → PX6_readItem_111 post tx9 := fun tx9 f g2 g3 g4 g5 tx11 e11 => by
    rw [g2, nI_1] at e11
    refine k tx11 (f.tr (TF.s (Nat.le_refl _) e11)) (by rw [e11, mset_a, upd_a]) (by rw [e11, mset_o _ _ _ (by decide)]; exact g3) (by rw [e11, mset_o _ _ _ (by decide)]; exact g4) (fun h => by rw [e11, mset_o _ _ _ (by decide)]; exact g5 h)
  unfold PX6_readItem
  rw [h2]
  refine c_codeAt T (by omega) (fun _ => pd_f (nI_ne_m1 (by omega)) ?_) (fun g => absurd hlt (by omega))
  rw [n43I, n94I]
  have xl := cx_lt (c := c) hlt
  rcases pK_c ok with ⟨g, x⟩ | ⟨g, x⟩ | ⟨g, l4, x⟩
  · have ej : pJ c L i = cJ c L (i + 1) := by unfold pJ; rw [if_neg (by omega), if_pos x]
    have ek : pOk c L i = cOk c L (i + 1) := by unfold pOk; rw [if_neg (by omega), if_pos x]
    have ea : pA c L i = nv c L (i + 1) := if_pos x
    obtain ⟨o1, o2, o3, o4⟩ := cOk_f (ek.symm.trans ok)
    have l2 := dg_cx o1
    have l3 := cx_ne o2 (by decide)
    have l4 := dg_cx o3
    refine pd_t (by rw [← xl, x]) fun tx18 e18 tx19 e19 => ?_
    have z2 : tx18 2 0 = nI i := by rw [e18, mset_o _ _ _ (by decide)]; exact h2
    rw [z2, nI_1] at e19
    have f19 : TF tx tx19 := (TF.s (j := 3) (by decide) e18).tr (TF.s (Nat.le_refl _) e19)
    refine c_rn (f19.tx T) (i := i + 1) (by rw [e19, mset_a, upd_a]) (by omega) o1 (by rw [o2]; decide) fun tx22 f22 g22 tx23 e23 tx24 e24 => ?_
    have y2 : tx23 2 0 = nI (nj c L (i + 1)) := by rw [e23, mset_o _ _ _ (by decide)]; exact g22
    rw [y2, nI_1] at e24
    have f24 : TF tx tx24 := ((f19.tr ⟨f22 0 (by decide), f22 1 (by decide)⟩).tr (TF.s (j := 4) (by decide) e23)).tr (TF.s (Nat.le_refl _) e24)
    refine c_rn (f24.tx T) (i := nj c L (i + 1) + 1) (by rw [e24, mset_a, upd_a]) (by omega) o3 (by rw [ej, o4] at he; exact he) fun tx27 f27 g27 tx28 e28 => ?_
    refine fin tx28 ((f24.tr ⟨f27 0 (by decide), f27 1 (by decide)⟩).tr (TF.s (j := 5) (by decide) e28)) ?_ ?_ ?_ (fun _ => by rw [e28, mset_a, upd_a]; rfl)
    · rw [e28, mset_o _ _ _ (by decide), g27, ej, o4]
    · rw [e28, mset_o _ _ _ (by decide), f27 3 (by decide), e24, mset_o _ _ _ (by decide), e23, mset_o _ _ _ (by decide), f22 3 (by decide), e19, mset_o _ _ _ (by decide), e18, mset_a, upd_a, g]; rfl
    · rw [e28, mset_o _ _ _ (by decide), f27 4 (by decide), e24, mset_o _ _ _ (by decide), e23, mset_a, upd_a, ea]
  · have ek : pOk c L i = dg (cx c L (i + 1)) := by unfold pOk; rw [if_neg (by omega), if_neg (by omega), if_pos x]
    have o1 := ek.symm.trans ok
    have ej : pJ c L i = i + 2 := by unfold pJ; rw [if_neg (by omega), if_neg (by omega), if_pos x, if_pos o1]
    have ea : pA c L i = cx c L (i + 1) - 48 := by unfold pA; rw [if_neg (by omega), if_pos x]
    have l2 := dg_cx o1
    rw [ej] at he
    refine pd_f (nne (by omega) (by omega) (by omega)) (pd_t (by rw [← xl, x]) fun tx12 e12 tx13 e13 => ?_)
    have z2 : tx12 2 0 = nI i := by rw [e12, mset_o _ _ _ (by decide)]; exact h2
    rw [z2, nI_1] at e13
    have f13 : TF tx tx13 := (TF.s (j := 3) (by decide) e12).tr (TF.s (Nat.le_refl _) e13)
    refine c_rn1 (f13.tx T) (i := i + 1) (by rw [e13, mset_a, upd_a]) (by omega) o1 he fun tx16 f16 g16 tx17 e17 => ?_
    refine fin tx17 ((f13.tr ⟨f16 0 (by decide), f16 1 (by decide)⟩).tr (TF.s (j := 4) (by decide) e17)) ?_ ?_ ?_ (fun h => by omega)
    · rw [e17, mset_o _ _ _ (by decide), g16, ej]
    · rw [e17, mset_o _ _ _ (by decide), f16 3 (by decide), e13, mset_o _ _ _ (by decide), e12, mset_a, upd_a, g]; rfl
    · rw [e17, mset_a, upd_a, ea]
  · have ej : pJ c L i = i + 1 := by unfold pJ; rw [if_pos (by omega)]
    have o1 : dg (cx c L i) = true := dg_iff.mpr (by omega)
    have ea : pA c L i = cx c L i - 48 := by omega
    rw [ej] at he
    refine pd_f (nne (by omega) (by omega) (by omega)) (pd_f (nne (by omega) (by omega) (by omega)) fun tx6 e6 => ?_)
    have f6 : TF tx tx6 := TF.s (j := 3) (by decide) e6
    refine c_rn1 (f6.tx T) (i := i) (by rw [e6, mset_o _ _ _ (by decide)]; exact h2) (by omega) o1 he fun tx9 f9 g9 tx10 e10 => ?_
    refine fin tx10 ((f6.tr ⟨f9 0 (by decide), f9 1 (by decide)⟩).tr (TF.s (j := 4) (by decide) e10)) ?_ ?_ ?_ (fun h => by omega)
    · rw [e10, mset_o _ _ _ (by decide), g9, ej]
    · rw [e10, mset_o _ _ _ (by decide), f9 3 (by decide), e6, mset_a, upd_a, g]; rfl
    · rw [e10, mset_a, upd_a, ea]
theorem wh_end {c : Nat → Nat} {L m : Nat} (h : WH c L m) : sP c L m = L + 1 := by
  have e := h.2.2.2
  have h0 := h.1
  rw [show m = m - 1 + 1 by omega, sP_s, e]
theorem wh_nd {c : Nat → Nat} {L m k : Nat} (h : WH c L m) (hk : k < m) : dg (cx c L (pJ c L (sP c L k))) = false := by
  by_cases e : k + 1 < m
  · rw [h.2.2.1 k e]; decide
  · rw [show k = m - 1 by omega, h.2.2.2, cx_ge (Nat.le_refl _)]; decide
theorem c_run_l {kc b : Mem} {r : Nat → Mem} {c : Nat → Nat} {L m : Nat} (wh : WH c L m) (hL : L ≤ 60) (hc : ∀ i, i < L → c i < 200) {R : Nat × Kr} {post : Int32 → Mem → Mem → (Nat → Mem) → Mem → Prop} {xp : Nat → Prop} (k : ∀ v2 tx2, tx2 1 0 = 0 → CS v2 R.2 → post (nI R.1) v2 b r tx2) : ∀ (d i : Nat) (v tx : Mem) (K : Kr), i + d = m → TX tx L c → tx 2 0 = nI (sP c L i) → CS v K → WF K → rgo c L d i K = R → PX7_run_x_40 kc post xp (d + 1) v b r tx (nI i) := by
  have h30 := wh_30 wh hL
  have n60 : (60 : Int32) = nI 60 := rfl
  have fin : ∀ (i : Nat) (v tx : Mem) (K : Kr), CS v K → (i, K) = R → PX7_run_x_69 kc post xp v b r tx (nI i) := fun i v tx K C e q1 _ tx12 e12 => by
    subst e
    exact k v tx12 (by rw [e12, mset_a, upd_a]) C
  intro d
  induction d with
  | zero =>
    intro i v tx K hi T h2 C W e
    unfold PX7_run_x_40
    rw [n60]
    refine pc_f (nle (by omega) (by omega)) ?_
    unfold PX6_readItem
    have e2 := wh_end wh
    rw [show m = i by omega] at e2
    rw [h2, e2]
    refine c_codeAt T (by omega) (fun g => absurd g (by omega)) (fun _ => pd_t rfl (pc_t rfl (fin i v tx K C e)))
  | succ d ih =>
    intro i v tx K hi T h2 C W e
    have ok := wh.2.1 i (by omega)
    unfold PX7_run_x_40
    rw [n60]
    refine pc_f (nle (by omega) (by omega)) (c_readItem T h2 ok (wh_nd wh (by omega)) fun tx2 f2 g2 g3 g4 g5 => pc_f i10 (c_doItem C W (b := pB c L (sP c L i)) (pK_c' ok) (pA200 hc _) (nv200 hc _) g3 g4 g5 fun v2 C2 => ?_))
    have W2 := dI_wf W (b := pB c L (sP c L i)) (pK_c' ok)
    unfold rgo at e
    by_cases g : (K.dI (pK c L (sP c L i)) (pA c L (sP c L i)) (pB c L (sP c L i))).1 = 0
    · rw [if_pos g] at e
      rw [g]
      exact pc_t rfl (fin i v2 tx2 _ C2 e)
    · rw [if_neg g] at e
      have hl : (K.dI (pK c L (sP c L i)) (pA c L (sP c L i)) (pB c L (sP c L i))).1 ≤ 1 := by
        exact dI_le _ _ _ _
      rw [nI_1 i]
      exact pc_f (nI_ne0 (by omega) (by omega)) (ih (i + 1) v2 tx2 _ (by omega) (f2.tx T) g2 C2 W2 e)
theorem c_run {kc v b tx : Mem} {r : Nat → Mem} {c : Nat → Nat} {L n : Nat} {S : Nat → Kr} {K : Kr} (T : TX tx L c) (R : RS b r n S) (C : CS v K) (W : WF K) {post : Int32 → Mem → Mem → (Nat → Mem) → Mem → Prop} {xp : Nat → Prop} (k0 : ¬ (ds c L = 1 ∨ ds c L = 6) → xp 1) (k1 : ∀ m, WH c L m → ∀ v2 b2 r2 tx2, tx2 1 0 = 0 → RS b2 r2 (if n < 6 then n + 1 else 6) (psh n S K) → CS v2 (rgo c L m 0 K).2 → post (nI (rgo c L m 0 K).1) v2 b2 r2 tx2) : PX7_run_x kc v b r tx post xp := by
  refine c_isWhole T (fun h => pd_f i10 (c_push R C W fun b2 r2 R2 tx8 e8 => ?_)) (fun h => pd_t rfl (k0 h))
  obtain ⟨m, wh⟩ := wh_ex h
  exact ⟨_, c_run_l (R := rgo c L m 0 K) wh T.2.1 (fun i hi => (T.2.2 i hi).2) (fun v2 tx2 z C2 => k1 m wh v2 b2 r2 tx2 z R2 C2) m 0 v tx8 K (by omega) ((TF.s (Nat.le_refl _) e8).tx T) (by rw [e8, mset_a, upd_a]; rfl) C W rfl⟩
