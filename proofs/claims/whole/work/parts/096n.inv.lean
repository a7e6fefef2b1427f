/-! what class and other one hold alike, before and behind each call -/
def INV (kc v : Mem) (sl : Nat → Mem) (b : Mem) (r : Nat → Mem) (tx w : Mem) : Prop := ∃ (K : Kr) (n : Nat) (S : Nat → Kr) (kp : Nat → Bool) (T : Nat → Kr) (L : Nat) (c : Nat → Nat), CS v K ∧ WF K ∧ MS (w 0) K ∧ RS b r n S ∧ SLC kc sl kp T ∧ TX tx L c ∧ RM w n S kp T L c
theorem lg_self (x : Int64) : lg_cmp x x = 0 := by
  unfold lg_cmp
  rw [if_neg (fun h => by rw [gt_iff_lt, Int64.lt_iff_toInt_lt] at h; omega), if_pos rfl]
/-- class's and other one's answers held against each other -/
def CK (r5 : Int32) (o : Int64) (r12 : Int32) (w14 : Mem) (hs : Int64) (N : Prop) : Prop := PX8_thrown w14 hs (fun r15 => ((r15 = r5) → ((¬ r5 = 0) → N) ∧ ((r5 = 0) → (((lg_cmp o r12.toInt64) = 0) → N) ∧ ((¬ (lg_cmp o r12.toInt64) = 0) → False))) ∧ ((¬ r15 = r5) → False))
theorem ck_x {r5 r12 : Int32} {o : Int64} {w14 : Mem} {hs : Int64} {N : Prop} (h : w14 5 0 = r5) (h2 : ¬ r5 = 0) (k : N) : CK r5 o r12 w14 hs N := pc_t h (pd_f h2 k)
theorem ck_0 {r12 : Int32} {ou oz : Nat → Int64} {w14 : Mem} {hs : Int64} {N : Prop} (h : w14 5 0 = 0) (e : oz = vp_updL ou 0 r12.toInt64) (k : N) : CK 0 (oz 0) r12 w14 hs N := by
  refine pc_t h (pd_t rfl (pc_t ?_ k))
  rw [e, show vp_updL ou 0 r12.toInt64 0 = r12.toInt64 from if_pos rfl]
  exact lg_self _
theorem F5.m {w w2 : Mem} (h : F5 w w2) {K : Kr} (M : MS (w 0) K) : MS (w2 0) K := by rw [h 0 (by decide)]; exact M
/-- a state saved, before an undoable call does its work -/
theorem m_und {w w1 : Mem} {hs : Int64} {n : Nat} {S : Nat → Kr} {kp : Nat → Bool} {T : Nat → Kr} {L : Nat} {c : Nat → Nat} {K : Kr} (R : RM w n S kp T L c) (M : MS (w 0) K) (W : WF K) (e1 : w1 = mset w 5 0 0) {post : Mem → Prop} (k : ∀ w6, MS (w6 0) K → w6 5 0 = 0 → RM w6 (if n < 6 then n + 1 else 6) (psh n S K) kp T L c → post w6) : PX8_save w1 hs post := by
  have f1 : ∀ j, j ≠ 5 → w1 j = w j := fun j a => by rw [e1, mset_o _ _ _ a]
  refine m_save (R.1.cg (f1 1 (by decide)) (f1 2 (by decide))) (by rw [f1 0 (by decide)]; exact M) W fun w6 f6 V6 => ?_
  have g : ∀ j, j ≠ 1 → j ≠ 2 → j ≠ 5 → w6 j = w j := fun j a b c => by rw [f6 j a b, f1 j c]
  refine k w6 (by rw [g 0 (by decide) (by decide) (by decide)]; exact M) ?_ ⟨V6, R.2.1.cg (g 3 (by decide) (by decide) (by decide)) (g 4 (by decide) (by decide) (by decide)), R.2.2.cg (g 12 (by decide) (by decide) (by decide)) (g 13 (by decide) (by decide) (by decide))⟩
  rw [f6 5 (by decide) (by decide), e1, mset_a, upd_a]
/-- not below n -/
def BD (x : Int32) (n : Nat) : Prop := x < 0 ∨ ∃ p, p < 2 ^ 31 ∧ n ≤ p ∧ x = nI p
theorem pcase (x : Int32) (n : Nat) : BD x n ∨ ∃ p, p < n ∧ p < 2 ^ 31 ∧ x = nI p := by
  by_cases h : x < 0
  · exact Or.inl (Or.inl h)
  · obtain ⟨p, hp, e⟩ := nI_of h
    rcases Nat.lt_or_ge p n with g | g
    · exact Or.inr ⟨p, g, hp, e⟩
    · exact Or.inl (Or.inr ⟨p, hp, g, e⟩)
theorem BD.o {x : Int32} {n : Nat} (h : BD x n) : x < 0 ∨ nI n ≤ x := by
  rcases h with h | ⟨p, a, b, e⟩
  · exact Or.inl h
  · exact Or.inr (by rw [e]; exact nle' b a)
theorem c_isPB {v : Mem} {K : Kr} (C : CS v K) (W : WF K) {x : Int32} (h : BD x K.np) {post : Int32 → Prop} (k : post 0) : PX5_isPerson v x post := by
  rcases h with h | ⟨p, a, b, e⟩
  · exact pc_t h k
  · rw [e]; exact c_isPersonX C W a (fun g => absurd g (by omega)) (fun _ => k)
theorem c_isCB {v : Mem} {K : Kr} (C : CS v K) (W : WF K) {x : Int32} (h : BD x K.nc) {post : Int32 → Prop} (k : post 0) : PX5_isCouple v x post := by
  rcases h with h | ⟨p, a, b, e⟩
  · exact pc_t h k
  · rw [e]; exact c_isCoupleX C W a (fun g => absurd g (by omega)) (fun _ => k)
theorem m_isPB {w : Mem} {hs : Int64} {K : Kr} (M : MS (w 0) K) (W : WF K) {x : Int32} (h : BD x K.np) {post : Int32 → Prop} (k : post 0) : PX8_isPerson w hs x post := by
  rcases h with h | ⟨p, a, b, e⟩
  · exact m_isPersonN h k
  · rw [e]; exact m_isPerson M W a (fun g => absurd g (by omega)) (fun _ => k)
theorem m_isCB {w : Mem} {hs : Int64} {K : Kr} (M : MS (w 0) K) (W : WF K) {x : Int32} (h : BD x K.nc) {post : Int32 → Prop} (k : post 0) : PX8_isCouple w hs x post := by
  rcases h with h | ⟨p, a, b, e⟩
  · exact m_isCoupleN h k
  · rw [e]; exact m_isCouple M W a (fun g => absurd g (by omega)) (fun _ => k)
theorem m_isP1 {w : Mem} {hs : Int64} {K : Kr} (M : MS (w 0) K) (W : WF K) {p : Nat} (h : p < K.np) {post : Int32 → Prop} (k : post 1) : PX8_isPerson w hs (nI p) post := m_isPerson M W (by have := W.np20; omega) (fun _ => k) (fun g => absurd g (by omega))
theorem m_isC1 {w : Mem} {hs : Int64} {K : Kr} (M : MS (w 0) K) (W : WF K) {p : Nat} (h : p < K.nc) {post : Int32 → Prop} (k : post 1) : PX8_isCouple w hs (nI p) post := m_isCouple M W (by have := W.nc10; omega) (fun _ => k) (fun g => absurd g (by omega))
theorem ms5 {w w1 : Mem} (e1 : w1 = mset w 5 0 0) {K : Kr} (M : MS (w 0) K) : MS (w1 0) K := by rw [e1, mset_o _ _ _ (by decide)]; exact M
theorem arm_person {kc v b tx w : Mem} {sl r : Nat → Mem} {hs : Int64} {ou : Nat → Int64} (I : INV kc v sl b r tx w) (a : Int32) {V : Prop} (hv : V) {N : Mem → Mem → (Nat → Mem) → Mem → (Nat → Int64) → Prop} (k : ∀ v b r w ou, INV kc v sl b r tx w → N v b r w ou) : PL_person kc v b r ou a (fun r5 v7 b8 r9 ou10 => V ∧ PX8_person w hs a (fun r12 w14 => CK r5 (ou10 0) r12 w14 hs (N v7 b8 r9 w14 ou10))) := by
  unfold PL_person PX7_person_x
  obtain ⟨K, n, S, kp, T, L, c, C, W, M, R, SL, TXh, RMh⟩ := I
  rcases pcase a 4 with h | ⟨q, hq, _, rfl⟩
  · exact crow_bad h.o (pd_t rfl ⟨rfl, hv, fun w1 e1 => mrow_bad h.o (pd_t rfl (m_fails e1 fun w2 f z => ck_x z i10 (k v b r w2 ou ⟨K, n, S, kp, T, L, c, C, W, f.m M, R, SL, TXh, RMh.cg f.hk⟩)))⟩)
  · refine crow_ok hq (pd_f i10 (c_push R C W fun b5 r6 R6 => ?_))
    show PX5_addPerson v (nI q) (pI none) _
    refine c_addPerson C W hq (fun c hc => by cases hc) (fun g v2 C2 oz ez => ⟨hv, fun w1 e1 => mrow_ok hq (pd_f i10 (m_und RMh M W e1 fun w6 M6 z6 R6' => ?_))⟩) (fun g g2 v2 C2 oz ez => ⟨hv, fun w1 e1 => mrow_ok hq (pd_f i10 (m_und RMh M W e1 fun w6 M6 z6 R6' => ?_))⟩)
    · show PX8_personNow w6 hs (nI q) (pI none) _
      refine m_personNow M6 W hq (fun _ w9 f9 M9 => ck_0 (by rw [f9 5 (by decide)]; exact z6) ez (k v2 b5 r6 w9 oz ⟨_, _, _, kp, T, L, c, C2, ref_wf W, M9, R6, SL, TXh, R6'.cg fun j hj => f9 j (by omega)⟩)) (fun x y => by omega)
    · show PX8_personNow w6 hs (nI q) (pI none) _
      exact m_personNow M6 W hq (fun x => by omega) (fun _ _ w9 f9 M9 => ck_0 (by rw [f9 5 (by decide)]; exact z6) ez (k v2 b5 r6 w9 oz ⟨_, _, _, kp, T, L, c, C2, addN_wf W hq ⟨g, g2⟩, M9, R6, SL, TXh, R6'.cg fun j hj => f9 j (by omega)⟩))
theorem arm_marry {kc v b tx w : Mem} {sl r : Nat → Mem} {hs : Int64} {ou : Nat → Int64} (I : INV kc v sl b r tx w) (a d : Int32) {V V2 : Prop} (hv : V) (hv2 : V2) {N : Mem → Mem → (Nat → Mem) → Mem → (Nat → Int64) → Prop} (k : ∀ v b r w ou, INV kc v sl b r tx w → N v b r w ou) : PL_marry kc v b r ou a d (fun r5 v7 b8 r9 ou10 => V ∧ V2 ∧ PX8_marry w hs a d (fun r12 w14 => CK r5 (ou10 0) r12 w14 hs (N v7 b8 r9 w14 ou10))) := by
  unfold PL_marry PX7_marry_x
  obtain ⟨K, n, S, kp, T, L, c, C, W, M, R, SL, TXh, RMh⟩ := I
  have hn := W.np20
  have keep : ∀ w2, F5 w w2 → INV kc v sl b r tx w2 := fun w2 f => ⟨K, n, S, kp, T, L, c, C, W, f.m M, R, SL, TXh, RMh.cg f.hk⟩
  rcases pcase a K.np with h | ⟨p, hp, _, rfl⟩
  · exact c_isPB C W h (pc_t rfl (Or.inl ⟨rfl, hv, hv2, fun w1 e1 => m_isPB (ms5 e1 M) W h (pc_t rfl (m_fails e1 fun w2 f z => ck_x z i10 (k v b r w2 ou (keep w2 f))))⟩))
  · rcases pcase d K.np with h | ⟨o, ho, _, rfl⟩
    · exact c_isPerson C W hp (pc_f i10 (c_isPB C W h (pd_t rfl (Or.inl ⟨rfl, hv, hv2, fun w1 e1 => m_isP1 (ms5 e1 M) W hp (pc_f i10 (m_isPB (ms5 e1 M) W h (pd_t rfl (m_fails e1 fun w2 f z => ck_x z i10 (k v b r w2 ou (keep w2 f))))))⟩))))
    · by_cases g : p = o
      · subst g
        exact c_isPerson C W hp (pc_f i10 (c_isPerson C W hp (pd_f i10 (pd_t rfl (Or.inr ⟨rfl, hv, hv2, fun w1 e1 => m_isP1 (ms5 e1 M) W hp (pc_f i10 (m_isP1 (ms5 e1 M) W hp (pd_f i10 (pd_t rfl (m_fails e1 fun w2 f z => ck_x z (by decide) (k v b r w2 ou (keep w2 f)))))))⟩)))))
      · have gI : ¬ nI p = nI o := nne (by omega) (by omega) g
        refine c_isPerson C W hp (pc_f i10 (c_isPerson C W ho (pd_f i10 (pd_f gI (c_push R C W fun b5 r6 R6 => c_addCouple C W hp ho (fun y v2 C2 oz ez => ⟨hv, hv2, fun w1 e1 => m_isP1 (ms5 e1 M) W hp (pc_f i10 (m_isP1 (ms5 e1 M) W ho (pd_f i10 (pd_f gI (m_und RMh M W e1 fun w6 M6 z6 R6' => ?_)))))⟩) (fun y v2 C2 oz ez => ⟨hv, hv2, fun w1 e1 => m_isP1 (ms5 e1 M) W hp (pc_f i10 (m_isP1 (ms5 e1 M) W ho (pd_f i10 (pd_f gI (m_und RMh M W e1 fun w6 M6 z6 R6' => ?_)))))⟩))))))
        · exact m_marryNow M6 W g hp ho (fun _ w9 f9 M9 => ck_0 (by rw [f9 5 (by decide)]; exact z6) ez (k v2 b5 r6 w9 oz ⟨_, _, _, kp, T, L, c, C2, ref_wf W, M9, R6, SL, TXh, R6'.cg fun j hj => f9 j (by omega)⟩)) (fun x => by omega)
        · exact m_marryNow M6 W g hp ho (fun x => by omega) (fun _ w9 f9 M9 => ck_0 (by rw [f9 5 (by decide)]; exact z6) ez (k v2 b5 r6 w9 oz ⟨_, _, _, kp, T, L, c, C2, addC_wf' W g hp ho y, M9, R6, SL, TXh, R6'.cg fun j hj => f9 j (by omega)⟩))
theorem arm_child {kc v b tx w : Mem} {sl r : Nat → Mem} {hs : Int64} {ou : Nat → Int64} (I : INV kc v sl b r tx w) (a : Int32) {V : Prop} (hv : V) {N : Mem → Mem → (Nat → Mem) → Mem → (Nat → Int64) → Prop} (k : ∀ v b r w ou, INV kc v sl b r tx w → N v b r w ou) : PL_child kc v b r ou a (fun r5 v7 b8 r9 ou10 => V ∧ PX8_child w hs a (fun r12 w14 => CK r5 (ou10 0) r12 w14 hs (N v7 b8 r9 w14 ou10))) := by
  unfold PL_child PX7_child_x
  obtain ⟨K, n, S, kp, T, L, c, C, W, M, R, SL, TXh, RMh⟩ := I
  rcases pcase a K.nc with h | ⟨q, hq, _, rfl⟩
  · exact c_isCB C W h (pd_t rfl ⟨rfl, hv, fun w1 e1 => m_isCB (ms5 e1 M) W h (pd_t rfl (m_fails e1 fun w2 f z => ck_x z i10 (k v b r w2 ou ⟨K, n, S, kp, T, L, c, C, W, f.m M, R, SL, TXh, RMh.cg f.hk⟩)))⟩)
  · refine c_isCouple C W hq (pd_f i10 (c_push R C W fun b5 r6 R6 => c_addChild C W hq (fun g v2 C2 oz ez => ⟨hv, fun w1 e1 => m_isC1 (ms5 e1 M) W hq (pd_f i10 (m_und RMh M W e1 fun w6 M6 z6 R6' => ?_))⟩) (fun g g2 v2 C2 oz ez => ⟨hv, fun w1 e1 => m_isC1 (ms5 e1 M) W hq (pd_f i10 (m_und RMh M W e1 fun w6 M6 z6 R6' => ?_))⟩)))
    · exact m_childNow M6 W hq (fun _ w9 f9 M9 => ck_0 (by rw [f9 5 (by decide)]; exact z6) ez (k v2 b5 r6 w9 oz ⟨_, _, _, kp, T, L, c, C2, ref_wf W, M9, R6, SL, TXh, R6'.cg fun j hj => f9 j (by omega)⟩)) (fun x y => by omega)
    · exact m_childNow M6 W hq (fun x => by omega) (fun _ _ w9 f9 M9 => ck_0 (by rw [f9 5 (by decide)]; exact z6) ez (k v2 b5 r6 w9 oz ⟨_, _, _, kp, T, L, c, C2, addCh_wf W hq ⟨g, g2⟩, M9, R6, SL, TXh, R6'.cg fun j hj => f9 j (by omega)⟩))
theorem mlt2 {s q : Nat} (hs : s ≤ 6) (hq : q < 2 ^ 31) : (nI s - 2 < nI q ↔ s < q + 2) := by
  rw [n2I, Int32.lt_iff_toInt_lt, pk_sub_toInt (by omega) (by omega), nI_toInt hq]
  omega
theorem arm_swap {kc v b tx y w : Mem} {sl r : Nat → Mem} {hs : Int64} {ou : Nat → Int64} (I : INV kc v sl b r tx w) (a d : Int32) {V V2 : Prop} (hv : V) (hv2 : V2) {N : Mem → Mem → (Nat → Mem) → Mem → Mem → (Nat → Int64) → Prop} (k : ∀ v b r y w ou, INV kc v sl b r tx w → N v b r y w ou) : PL_swap kc v b r y ou a d (fun r5 v7 b8 r9 y10 ou10 => V ∧ V2 ∧ PX8_swap w hs a d (fun r12 w14 => CK r5 (ou10 0) r12 w14 hs (N v7 b8 r9 y10 w14 ou10))) := by
  unfold PL_swap PX7_swap_x
  obtain ⟨K, n, S, kp, T, L, c, C, W, M, R, SL, TXh, RMh⟩ := I
  have keep : ∀ w2, F5 w w2 → INV kc v sl b r tx w2 := fun w2 f => ⟨K, n, S, kp, T, L, c, C, W, f.m M, R, SL, TXh, RMh.cg f.hk⟩
  rcases pcase a 4 with h | ⟨q, hq, _, rfl⟩
  · exact crow_bad h.o (pd_t rfl (Or.inl ⟨rfl, hv, hv2, fun w1 e1 => mrow_bad h.o (pd_t rfl (m_fails e1 fun w2 f z => ck_x z i10 (k v b r y w2 ou (keep w2 f))))⟩))
  · have h6 := W.sz6 hq
    have m63 : ∀ w1 : Mem, w1 = mset w 5 0 0 → w1 0 (ix (63 + nI q)) = nI (K.sz q) := fun w1 e1 => by
      rw [n63I, nI_add, ix_nI (show 63 + q < 2 ^ 31 by omega), e1, mset_o _ _ _ (by decide)]; exact M.2.2.2.1 q hq
    have i63 : vp_in (63 + nI q) 91 := by rw [n63I, nI_add]; exact in91 (by omega)
    rcases pcase d (K.sz q - 1) with h | ⟨p, hp, hp2, rfl⟩
    · by_cases g : d < 0
      · refine crow_ok hq (pd_f i10 (pc_t g (Or.inr ⟨rfl, hv, hv2, fun w1 e1 => mrow_ok hq (pd_f i10 ⟨i63, pc_t g (pd_t rfl (m_fails e1 fun w2 f z => ck_x z (by decide) (k v b r y w2 ou (keep w2 f))))⟩)⟩)))
      · obtain ⟨p, hp, hge, rfl⟩ := h.resolve_left g
        refine crow_ok hq (pd_f i10 (pc_f g (c_sizeOf C hq (pc_f (fun x => ?_) (Or.inr ⟨rfl, hv, hv2, fun w1 e1 => mrow_ok hq (pd_f i10 ⟨i63, pc_f g (pc_t ?_ (pd_t rfl (m_fails e1 fun w2 f z => ck_x z (by decide) (k v b r y w2 ou (keep w2 f)))))⟩)⟩)))))
        · exact absurd (szm_le h6 hp (by omega)) (Int32.not_le.mpr x)
        · rw [m63 w1 e1]; exact (mlt2 h6 hp).mpr (by omega)
    · have hp3 : p + 1 < K.sz q := by omega
      refine crow_ok hq (pd_f i10 (pc_f (nI_lt0 hp2) (c_sizeOf C hq (pc_t (Int32.not_le.mp (szm_gt h6 hp3)) (c_push R C W fun b5 r6 R6 => c_allCrossings C W fun y2 => c_exchange C W hq hp3 fun v2 C2 => ?_)))))
      have W2 := setO_wf W (isO_trs (isO_od W hq) (show p < K.sz q by omega) hp3)
      refine c_allCrossings C2 W2 fun y3 oz ez => ⟨hv, hv2, fun w1 e1 => mrow_ok hq (pd_f i10 ⟨i63, ?_⟩)⟩
      rw [m63 w1 e1]
      refine pc_f (nI_lt0 hp2) (pc_f (fun x => by have := (mlt2 h6 hp2).mp x; omega) (pd_f i10 (m_und RMh M W e1 fun w6 M6 z6 R6' => m_allCrossings M6 W fun w13 f13 => ?_)))
      rw [nI_1 p]
      refine m_exchange (f13.ms M6) W hq (show p < K.sz q by omega) hp3 fun w15 f15 _ M15 => m_allCrossings M15 W2 fun w18 f18 => ck_0 ?_ ez (k v2 b5 r6 y3 w18 oz ⟨_, _, _, kp, T, L, c, C2, W2, f18.ms M15, R6, SL, TXh, R6'.cg fun j hj => ?_⟩)
      · rw [f18 5 (by decide) (by decide) (by decide), f15 5 (by decide), f13 5 (by decide) (by decide) (by decide)]; exact z6
      · rw [f18 j (by omega) (by omega) (by omega), f15 j (by omega), f13 j (by omega) (by omega) (by omega)]
theorem arm_byParents {kc v b tx op w : Mem} {sl r : Nat → Mem} {hs : Int64} {ou : Nat → Int64} (I : INV kc v sl b r tx w) (a : Int32) {V : Prop} (hv : V) {N : Mem → Mem → (Nat → Mem) → Mem → Mem → (Nat → Int64) → Prop} (k : ∀ v b r op w ou, INV kc v sl b r tx w → N v b r op w ou) : PL_byParents kc v b r op ou a (fun r5 v7 b8 r9 o10 ou10 => V ∧ PX8_byParents w hs a (fun r12 w14 => CK r5 (ou10 0) r12 w14 hs (N v7 b8 r9 o10 w14 ou10))) := by
  unfold PL_byParents PX7_byParents_x
  obtain ⟨K, n, S, kp, T, L, c, C, W, M, R, SL, TXh, RMh⟩ := I
  rcases pcase a 4 with h | ⟨q, hq, _, rfl⟩
  · exact crow_bad h.o (pd_t rfl ⟨rfl, hv, fun w1 e1 => mrow_bad h.o (pd_t rfl (m_fails e1 fun w2 f z => ck_x z i10 (k v b r op w2 ou ⟨K, n, S, kp, T, L, c, C, W, f.m M, R, SL, TXh, RMh.cg f.hk⟩)))⟩)
  · refine crow_ok hq (pd_f i10 (c_push R C W fun b5 r6 R6 => c_byParents C W hq fun o2 v2 C2 oz ez => ⟨hv, fun w1 e1 => mrow_ok hq (pd_f i10 (m_und RMh M W e1 fun w6 M6 z6 R6' => m_ordered M6 W hq fun w9 f9 M9 => ck_0 ?_ ez (k v2 b5 r6 o2 w9 oz ⟨_, _, _, kp, T, L, c, C2, setO_wf W (bp_isO W hq), M9, R6, SL, TXh, R6'.cg fun j hj => f9 j (by omega) (by omega) (by omega)⟩)))⟩))
    rw [f9 5 (by decide) (by decide) (by decide)]; exact z6
theorem arm_untangle {kc v b tx x w : Mem} {sl r : Nat → Mem} {hs : Int64} {ou : Nat → Int64} (I : INV kc v sl b r tx w) (a : Int32) {V : Prop} (hv : V) {N : Mem → Mem → (Nat → Mem) → Mem → Mem → (Nat → Int64) → Prop} (k : ∀ v b r x w ou, INV kc v sl b r tx w → N v b r x w ou) : PL_untangle kc v b r x ou a (fun r5 v7 b8 r9 x10 ou10 => V ∧ PX8_untangle w hs a (fun r12 w14 => CK r5 (ou10 0) r12 w14 hs (N v7 b8 r9 x10 w14 ou10))) := by
  unfold PL_untangle PX7_untangle_x
  obtain ⟨K, n, S, kp, T, L, c, C, W, M, R, SL, TXh, RMh⟩ := I
  rcases pcase a 4 with h | ⟨q, hq, _, rfl⟩
  · exact crow_bad h.o (pd_t rfl ⟨rfl, hv, fun w1 e1 => mrow_bad h.o (pd_t rfl (m_fails e1 fun w2 f z => ck_x z i10 (k v b r x w2 ou ⟨K, n, S, kp, T, L, c, C, W, f.m M, R, SL, TXh, RMh.cg f.hk⟩)))⟩)
  · refine crow_ok hq (pd_f i10 (c_push R C W fun b5 r6 R6 => c_least C W hq fun x2 h10 h1 => c_layBest C W hq (lo2_isO W hq) h10 h1 fun v2 C2 oz ez => ⟨hv, fun w1 e1 => mrow_ok hq (pd_f i10 (m_und RMh M W e1 fun w6 M6 z6 R6' => m_untangle M6 W hq fun w9 f9 M9 => ck_0 ?_ ez (k v2 b5 r6 x2 w9 oz ⟨_, _, _, kp, T, L, c, C2, setO_wf W (lo2_isO W hq), M9, R6, SL, TXh, R6'.cg fun j hj => f9 j (by omega) (by omega) (by omega) (by omega) (by omega) (by omega)⟩)))⟩))
    rw [f9 5 (by decide) (by decide) (by decide) (by decide) (by decide) (by decide)]; exact z6
