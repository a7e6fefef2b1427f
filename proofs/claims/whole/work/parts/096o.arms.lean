/-! the further calls -/
theorem TX_add {tx tx8 : Mem} {L : Nat} {c : Nat → Nat} {q : Nat} (T : TX tx L c) (hL : L < 60) (hq : q < 200) (h0 : tx8 0 = upd (tx 0) L (nI q)) (h1 : tx8 1 0 = nI (L + 1)) : TX tx8 (L + 1) (fup c L q) := by
  refine ⟨h1, by omega, fun i hi => ?_⟩
  rw [h0]
  rcases Nat.lt_succ_iff_lt_or_eq.mp hi with g | rfl
  · rw [upd_o _ _ (by omega), fup_o _ _ (by omega)]; exact T.2.2 i g
  · rw [upd_a, fup_a]; exact ⟨rfl, hq⟩
theorem arm_append {kc v b tx w : Mem} {sl r : Nat → Mem} {hs : Int64} {ou : Nat → Int64} (I : INV kc v sl b r tx w) (a : Int32) {V : Prop} (hv : V) {N : Mem → Mem → (Nat → Int64) → Prop} (k : ∀ tx w ou, INV kc v sl b r tx w → N tx w ou) : PL_append kc tx ou a (fun r5 tx7 ou10 => V ∧ PX8_append w hs a (fun r12 w14 => CK r5 (ou10 0) r12 w14 hs (N tx7 w14 ou10))) := by
  unfold PL_append PX7_append_x
  obtain ⟨K, n, S, kp, T, L, c, C, W, M, R, SL, TXh, RMh⟩ := I
  have hL := TXh.2.1
  have keep : ∀ w2, F5 w w2 → INV kc v sl b r tx w2 := fun w2 f => ⟨K, n, S, kp, T, L, c, C, W, f.m M, R, SL, TXh, RMh.cg f.hk⟩
  have n33 : (33 : Int32) = nI 33 := rfl
  have n126 : (126 : Int32) = nI 126 := rfl
  have n60 : (60 : Int32) = nI 60 := rfl
  have z13 : ∀ w1 : Mem, w1 = mset w 5 0 0 → w1 13 0 = nI L := fun w1 e1 => by rw [e1, mset_o _ _ _ (by decide)]; exact RMh.2.2.1
  by_cases g : a < 33
  · exact pc_t g (Or.inl ⟨rfl, hv, fun w1 e1 => pc_t g (pd_t rfl (m_fails e1 fun w2 f z => ck_x z i10 (k tx w2 ou (keep w2 f))))⟩)
  · have hp : ¬ a < 0 := fun h => g (Int32.lt_trans h (by decide))
    obtain ⟨q, hq, rfl⟩ := nI_of hp
    rw [n33] at g
    have h33 : 33 ≤ q := by
      rcases Nat.lt_or_ge q 33 with y | y
      · exact absurd (nI_lt y (by decide)) g
      · exact y
    by_cases g2 : q ≤ 126
    · refine pc_f g (pc_t (nle' g2 (by decide)) ?_)
      unfold PX6_isFull
      rw [TXh.1, n60]
      by_cases g3 : L < 60
      · refine pc_t (nI_lt g3 (by decide)) (pc_t rfl ?_)
        unfold PX6_add
        rw [TXh.1, ix_nI (show L < 2 ^ 31 by omega)]
        refine pc_f (nle (a := 60) g3 (by decide)) ⟨in_nI g3 (by decide), fun tx3 e3 tx4 e4 => ?_⟩
        have y1 : tx3 1 0 = nI L := by rw [e3, mset_o _ _ _ (by decide)]; exact TXh.1
        rw [y1, nI_1] at e4
        have y4 : tx4 1 0 = nI (L + 1) := by rw [e4, mset_a, upd_a]
        have y0 : tx4 0 = upd (tx 0) L (nI q) := by rw [e4, mset_o _ _ _ (by decide), e3, mset_a]
        intro oz ez
        rw [y4] at ez
        refine ⟨hv, fun w1 e1 => ?_⟩
        rw [z13 w1 e1, n33, n126, n60, ix_nI (show L < 2 ^ 31 by omega)]
        refine m_in (by omega) (by decide) (by decide) (fun _ _ => pd_f i10 (pd_f (nne (by omega) (by decide) (by omega)) ⟨in_nI g3 (by decide), fun w7 e7 w8 e8 => ?_⟩)) (fun x => absurd ⟨h33, g2⟩ x)
        have x13 : w7 13 0 = nI L := by rw [e7, mset_o _ _ _ (by decide)]; exact z13 w1 e1
        rw [x13, nI_1] at e8
        have x8 : w8 13 0 = nI (L + 1) := by rw [e8, mset_a, upd_a]
        rw [x8]
        have fr : ∀ j, j ≠ 5 → j ≠ 12 → j ≠ 13 → w8 j = w j := fun j a b d => by rw [e8, mset_o _ _ _ d, e7, mset_o _ _ _ b, e1, mset_o _ _ _ a]
        refine ck_0 (by rw [e8, mset_o _ _ _ (by decide), e7, mset_o _ _ _ (by decide), e1, mset_a, upd_a]) ez (k tx4 w8 oz ⟨K, n, S, kp, T, L + 1, fup c L q, C, W, by rw [fr 0 (by decide) (by decide) (by decide)]; exact M, R, SL, TX_add TXh g3 (by omega) y0 y4, RMh.1.cg (fr 1 (by decide) (by decide) (by decide)) (fr 2 (by decide) (by decide) (by decide)), RMh.2.1.cg (fr 3 (by decide) (by decide) (by decide)) (fr 4 (by decide) (by decide) (by decide)), x8, fun i hi => ?_⟩)
        rw [e8, mset_o _ _ _ (by decide), e7, mset_a, e1, mset_o _ _ _ (by decide)]
        rcases Nat.lt_succ_iff_lt_or_eq.mp hi with y | rfl
        · rw [upd_o _ _ (by omega), fup_o _ _ (by omega)]; exact RMh.2.2.2 i y
        · rw [upd_a, fup_a]
      · have eL : L = 60 := by omega
        refine pc_f (nI_nlt (by omega) (by omega)) (pc_f i10 (Or.inr ⟨rfl, hv, fun w1 e1 => ?_⟩))
        rw [z13 w1 e1, n33, n126, n60]
        exact m_in (by omega) (by decide) (by decide) (fun _ _ => pd_f i10 (pd_t (by rw [eL]) (m_fails e1 fun w2 f z => ck_x z (by decide) (k tx w2 ou (keep w2 f))))) (fun x => absurd ⟨h33, g2⟩ x)
    · refine pc_f g (pc_f (nle (a := q) (b := 126) (by omega) hq) (Or.inl ⟨rfl, hv, fun w1 e1 => ?_⟩))
      rw [n33, n126]
      exact m_in hq (by decide) (by decide) (fun _ x => absurd x g2) (fun _ => pd_t rfl (m_fails e1 fun w2 f z => ck_x z i10 (k tx w2 ou (keep w2 f))))
theorem arm_clear {kc v b tx w : Mem} {sl r : Nat → Mem} {hs : Int64} (I : INV kc v sl b r tx w) {N : Mem → Mem → Prop} (k : ∀ tx w, INV kc v sl b r tx w → N tx w) : PX7_clearBuffer kc tx (fun r128 tx130 => PX8_clearBuffer w hs (fun r131 w133 => ((r128 = r131) → N tx130 w133) ∧ ((¬ r128 = r131) → False))) := by
  obtain ⟨K, n, S, kp, T, L, c, C, W, M, R, SL, TXh, RMh⟩ := I
  intro q1 e1 tx2 e2 w1 f1 q2 g2 w3 f3
  have z : w1 13 0 = nI L := by rw [f1, mset_o _ _ _ (by decide)]; exact RMh.2.2.1
  have fr : ∀ j, j ≠ 5 → j ≠ 13 → w3 j = w j := fun j a b => by rw [f3, mset_o _ _ _ b, f1, mset_o _ _ _ a]
  refine pc_t (by rw [e1, g2, z, TXh.1]) (k tx2 w3 ⟨K, n, S, kp, T, 0, c, C, W, by rw [fr 0 (by decide) (by decide)]; exact M, R, SL, ⟨by rw [e2, mset_a, upd_a]; rfl, by decide, fun i h => absurd h (by omega)⟩, RMh.1.cg (fr 1 (by decide) (by decide)) (fr 2 (by decide) (by decide)), RMh.2.1.cg (fr 3 (by decide) (by decide)) (fr 4 (by decide) (by decide)), by rw [f3, mset_a, upd_a]; rfl, fun i h => absurd h (by omega)⟩)
theorem arm_first {kc v b tx w : Mem} {sl r : Nat → Mem} {hs : Int64} (I : INV kc v sl b r tx w) {N : Mem → Prop} (k : ∀ w, INV kc v sl b r tx w → N w) : PX7_firstError kc tx (fun r136 => PX8_firstError w hs (fun r138 w140 => ((r136 = r138) → N w140) ∧ ((¬ r136 = r138) → False))) := by
  obtain ⟨K, n, S, kp, T, L, c, C, W, M, R, SL, TXh, RMh⟩ := I
  refine c_firstBad TXh fun p hp h1 h2 => m_firstError RMh.2.2 TXh.2.1 (fun i hi => (TXh.2.2 i hi).2) fun w2 q f hq g1 g2 => ?_
  have e : p = q := by
    rcases Nat.lt_trichotomy p q with y | y | y
    · exact absurd (ds8' (h2 (by omega)) (show p + 1 ≤ q by omega)) g1
    · exact y
    · exact absurd (ds8' (g2 (by omega)) (show q + 1 ≤ p by omega)) (h1 p (Nat.le_refl _))
  subst e
  exact pc_t rfl (k w2 ⟨K, n, S, kp, T, L, c, C, W, by rw [f 0 (by decide) (by decide)]; exact M, R, SL, TXh, RMh.cg fun j hj => f j (by omega) (by omega)⟩)
theorem arm_run {kc v b tx w : Mem} {sl r : Nat → Mem} {hs : Int64} {ou : Nat → Int64} (I : INV kc v sl b r tx w) {N : Mem → Mem → (Nat → Mem) → Mem → Mem → (Nat → Int64) → Prop} (k : ∀ v b r tx w ou, INV kc v sl b r tx w → N v b r tx w ou) : PL_run kc v b r tx ou (fun r5 v7 b8 r9 tx10 ou10 => PX8_run w hs (fun r12 w14 => CK r5 (ou10 0) r12 w14 hs (N v7 b8 r9 tx10 w14 ou10))) := by
  unfold PL_run
  obtain ⟨K, n, S, kp, T, L, c, C, W, M, R, SL, TXh, RMh⟩ := I
  have hc : ∀ i, i < L → c i < 200 := fun i hi => (TXh.2.2 i hi).2
  refine c_run TXh R C W (fun h => ⟨rfl, m_run RMh.2.2 TXh.2.1 hc RMh.1 M W (fun _ w2 f z => ck_x z i10 (k v b r tx w2 ou ⟨K, n, S, kp, T, L, c, C, W, by rw [f 0 (by decide) (by decide)]; exact M, R, SL, TXh, RMh.cg fun j hj => f j (by omega) (by omega)⟩)) (fun m wh => ?_)⟩) (fun m wh v2 b2 r2 tx2 z2 R2 C2 oz ez => m_run RMh.2.2 TXh.2.1 hc RMh.1 M W (fun x => ?_) (fun m2 wh2 w2 f z5 z13 V2 M2 => ?_))
  · -- a whole text can't be one that isn't
    exfalso
    have a := wh_ds wh (m - 1) (by have := wh.1; omega)
    have p := (prt_ds a.1 a.2.1).1 (wh.2.1 (m - 1) (by have := wh.1; omega))
    rw [wh.2.2.2] at p
    rcases p.2.2 with y | y
    · exact h (Or.inl y)
    · exact h (Or.inr y.1)
  · exfalso
    have a := wh_ds wh (m - 1) (by have := wh.1; omega)
    have p := (prt_ds a.1 a.2.1).1 (wh.2.1 (m - 1) (by have := wh.1; omega))
    rw [wh.2.2.2] at p
    rcases p.2.2 with y | y
    · exact x (Or.inl y)
    · exact x (Or.inr y.1)
  · have em := wh_un wh wh2
    subst em
    have fr := fun j (h : j < 14) (a : j ≠ 0) (b : j ≠ 1) (d : j ≠ 2) (e : j ≠ 5) (g : j ≠ 13) => f j h a b d e g
    exact ck_0 z5 ez (k v2 b2 r2 tx2 w2 oz ⟨_, _, _, kp, T, 0, c, C2, rgo_wf wh m 0 K (by omega) W, M2, R2, SL, ⟨z2, by decide, fun i h => absurd h (by omega)⟩, V2, RMh.2.1.cg (f 3 (by decide) (by decide) (by decide) (by decide) (by decide) (by decide)) (f 4 (by decide) (by decide) (by decide) (by decide) (by decide) (by decide)), z13, fun i h => absurd h (by omega)⟩)
theorem arm_keep {kc v b tx w : Mem} {sl r : Nat → Mem} {hs : Int64} {ou : Nat → Int64} (I : INV kc v sl b r tx w) (a : Int32) {V : Prop} (hv : V) {N : Mem → (Nat → Mem) → Mem → (Nat → Int64) → Prop} (k : ∀ kc sl w ou, INV kc v sl b r tx w → N kc sl w ou) : PL_keep kc v sl ou a (fun r5 kc7 sl8 ou10 => V ∧ PX8_keep w hs a (fun r12 w14 => CK r5 (ou10 0) r12 w14 hs (N kc7 sl8 w14 ou10))) := by
  unfold PL_keep
  obtain ⟨K, n, S, kp, T, L, c, C, W, M, R, SL, TXh, RMh⟩ := I
  rcases pcase a 2 with h | ⟨q, hq, _, rfl⟩
  · exact c_keep_bad h.o ⟨rfl, hv, m_keep_bad h.o fun w2 f z => ck_x z i10 (k kc sl w2 ou ⟨K, n, S, kp, T, L, c, C, W, f.m M, R, SL, TXh, RMh.cg f.hk⟩)⟩
  · exact c_keep SL C W hq fun kc2 sl2 SL2 oz ez => ⟨hv, m_keep RMh.2.1 M W hq fun w2 f z5 SM2 => ck_0 z5 ez (k kc2 sl2 w2 oz ⟨K, n, S, _, _, L, c, C, W, by rw [f 0 (by decide) (by decide) (by decide)]; exact M, R, SL2, TXh, RMh.1.cg (f 1 (by decide) (by decide) (by decide)) (f 2 (by decide) (by decide) (by decide)), SM2, RMh.2.2.cg (f 12 (by decide) (by decide) (by decide)) (f 13 (by decide) (by decide) (by decide))⟩)⟩
theorem arm_goBack {kc v b tx w : Mem} {sl r : Nat → Mem} {hs : Int64} {ou : Nat → Int64} (I : INV kc v sl b r tx w) (a : Int32) {V : Prop} (hv : V) {N : Mem → Mem → (Nat → Mem) → Mem → (Nat → Int64) → Prop} (k : ∀ v b r w ou, INV kc v sl b r tx w → N v b r w ou) : PL_goBack kc v sl b r ou a (fun r5 v7 b8 r9 ou10 => V ∧ PX8_goBack w hs a (fun r12 w14 => CK r5 (ou10 0) r12 w14 hs (N v7 b8 r9 w14 ou10))) := by
  unfold PL_goBack
  obtain ⟨K, n, S, kp, T, L, c, C, W, M, R, SL, TXh, RMh⟩ := I
  have keep : ∀ w2, F5 w w2 → INV kc v sl b r tx w2 := fun w2 f => ⟨K, n, S, kp, T, L, c, C, W, f.m M, R, SL, TXh, RMh.cg f.hk⟩
  rcases pcase a 2 with h | ⟨q, hq, _, rfl⟩
  · exact c_goBack_bad h.o (Or.inl ⟨rfl, hv, m_goBack_bad h.o fun w2 f z => ck_x z i10 (k v b r w2 ou (keep w2 f))⟩)
  · refine c_goBack SL R C W hq (fun g => Or.inr ⟨rfl, hv, m_goBack RMh.2.1 RMh.1 M W hq (fun _ w2 f z => ck_x z (by decide) (k v b r w2 ou (keep w2 f))) (fun y => by rw [g] at y; cases y)⟩) (fun g v2 b2 r2 C2 R2 oz ez => ⟨hv, m_goBack RMh.2.1 RMh.1 M W hq (fun y => by rw [g] at y; cases y) (fun _ w2 f z5 V2 M2 => ck_0 z5 ez (k v2 b2 r2 w2 oz ⟨_, _, _, kp, T, L, c, C2, ((SL q hq).2 g).2, M2, R2, SL, TXh, V2, RMh.2.1.cg (f 3 (by decide) (by decide) (by decide) (by decide)) (f 4 (by decide) (by decide) (by decide) (by decide)), RMh.2.2.cg (f 12 (by decide) (by decide) (by decide) (by decide)) (f 13 (by decide) (by decide) (by decide) (by decide))⟩))⟩)
theorem arm_undo {kc v b tx w : Mem} {sl r : Nat → Mem} {hs : Int64} {ou : Nat → Int64} (I : INV kc v sl b r tx w) {N : Mem → Mem → Mem → (Nat → Int64) → Prop} (k : ∀ v b w ou, INV kc v sl b r tx w → N v b w ou) : PL_undo kc v b r ou (fun r5 v7 b8 ou10 => PX8_undo w hs (fun r12 w14 => CK r5 (ou10 0) r12 w14 hs (N v7 b8 w14 ou10))) := by
  unfold PL_undo
  obtain ⟨K, n, S, kp, T, L, c, C, W, M, R, SL, TXh, RMh⟩ := I
  refine c_undo R (fun g => ⟨rfl, m_undo RMh.1 (fun _ w2 f z => ck_x z i10 (k v b w2 ou ⟨K, n, S, kp, T, L, c, C, W, f.m M, R, SL, TXh, RMh.cg f.hk⟩)) (fun m y => by omega)⟩) (fun m e v2 b2 R2 C2 oz ez => m_undo RMh.1 (fun y => by omega) (fun m2 e2 w2 f z5 V2 M2 => ?_))
  have em : m2 = m := by omega
  subst em
  have Wm : WF (S m2) := (RMh.1.2.2 m2 (by omega)).2
  exact ck_0 z5 ez (k v2 b2 w2 oz ⟨_, _, _, kp, T, L, c, C2, Wm, M2, R2, SL, TXh, V2, RMh.2.1.cg (f 3 (by decide) (by decide) (by decide)) (f 4 (by decide) (by decide) (by decide)), RMh.2.2.cg (f 12 (by decide) (by decide) (by decide)) (f 13 (by decide) (by decide) (by decide))⟩)
theorem arm_personOf {kc v b tx w : Mem} {sl r : Nat → Mem} {hs : Int64} {ou : Nat → Int64} (I : INV kc v sl b r tx w) (a d : Int32) {V V2 : Prop} (hv : V) (hv2 : V2) {N : Mem → (Nat → Int64) → Prop} (k : ∀ w ou, INV kc v sl b r tx w → N w ou) : PL_personOf kc v ou a d (fun r5 ou10 => V ∧ V2 ∧ PX8_personOf w hs a d (fun r12 w14 => CK r5 (ou10 0) r12 w14 hs (N w14 ou10))) := by
  unfold PL_personOf
  obtain ⟨K, n, S, kp, T, L, c, C, W, M, R, SL, TXh, RMh⟩ := I
  have keep : ∀ w2, F5 w w2 → INV kc v sl b r tx w2 := fun w2 f => ⟨K, n, S, kp, T, L, c, C, W, f.m M, R, SL, TXh, RMh.cg f.hk⟩
  rcases pcase a K.np with h | ⟨p, hp, _, rfl⟩
  · exact c_isPB C W h (pd_t rfl (Or.inl ⟨rfl, hv, hv2, fun w1 e1 => m_isPB (ms5 e1 M) W h (pd_t rfl (m_fails e1 fun w2 f z => ck_x z i10 (k w2 ou (keep w2 f))))⟩))
  · rcases pcase d 7 with h | ⟨i, hi, _, rfl⟩
    · exact c_per_bad C W hp h.o (Or.inr ⟨rfl, hv, hv2, fun w1 e1 => m_isP1 (ms5 e1 M) W hp (pd_f i10 (in_bad (b := 6) (by decide) h.o (pc_t rfl (m_fails e1 fun w2 f z => ck_x z (by decide) (k w2 ou (keep w2 f))))))⟩)
    · exact c_per_x C W hp i hi fun oz ez => ⟨hv, hv2, fun w1 e1 => m_isP1 (ms5 e1 M) W hp (pd_f i10 (in_ok (b := 6) (by omega) (by decide) (pc_f i10 (m_ofPer (ms5 e1 M) W hp i hi (ck_0 (by rw [e1, mset_a, upd_a]) ez (k w1 oz (keep w1 fun j hj => by rw [e1, mset_o _ _ _ hj])))))))⟩
theorem arm_coupleOf {kc v b tx w : Mem} {sl r : Nat → Mem} {hs : Int64} {ou : Nat → Int64} (I : INV kc v sl b r tx w) (a d : Int32) {V V2 : Prop} (hv : V) (hv2 : V2) {N : Mem → (Nat → Int64) → Prop} (k : ∀ w ou, INV kc v sl b r tx w → N w ou) : PL_coupleOf kc v ou a d (fun r5 ou10 => V ∧ V2 ∧ PX8_coupleOf w hs a d (fun r12 w14 => CK r5 (ou10 0) r12 w14 hs (N w14 ou10))) := by
  unfold PL_coupleOf
  obtain ⟨K, n, S, kp, T, L, c, C, W, M, R, SL, TXh, RMh⟩ := I
  have keep : ∀ w2, F5 w w2 → INV kc v sl b r tx w2 := fun w2 f => ⟨K, n, S, kp, T, L, c, C, W, f.m M, R, SL, TXh, RMh.cg f.hk⟩
  rcases pcase a K.nc with h | ⟨p, hp, _, rfl⟩
  · exact c_isCB C W h (pd_t rfl (Or.inl ⟨rfl, hv, hv2, fun w1 e1 => m_isCB (ms5 e1 M) W h (pd_t rfl (m_fails e1 fun w2 f z => ck_x z i10 (k w2 ou (keep w2 f))))⟩))
  · rcases pcase d 6 with h | ⟨i, hi, _, rfl⟩
    · exact c_cpl_bad C W hp h.o (Or.inr ⟨rfl, hv, hv2, fun w1 e1 => m_isC1 (ms5 e1 M) W hp (pd_f i10 (in_bad (b := 5) (by decide) h.o (pc_t rfl (m_fails e1 fun w2 f z => ck_x z (by decide) (k w2 ou (keep w2 f))))))⟩)
    · exact c_cpl_x C W hp i hi fun oz ez => ⟨hv, hv2, fun w1 e1 => m_isC1 (ms5 e1 M) W hp (pd_f i10 (in_ok (b := 5) (by omega) (by decide) (pc_f i10 (m_ofCpl (ms5 e1 M) W hp i hi (ck_0 (by rw [e1, mset_a, upd_a]) ez (k w1 oz (keep w1 fun j hj => by rw [e1, mset_o _ _ _ hj])))))))⟩
theorem arm_at {kc v b tx w : Mem} {sl r : Nat → Mem} {hs : Int64} {ou : Nat → Int64} (I : INV kc v sl b r tx w) (a d : Int32) {V V2 : Prop} (hv : V) (hv2 : V2) {N : Mem → (Nat → Int64) → Prop} (k : ∀ w ou, INV kc v sl b r tx w → N w ou) : PL_at kc v ou a d (fun r5 ou10 => V ∧ V2 ∧ PX8_at w hs a d (fun r12 w14 => CK r5 (ou10 0) r12 w14 hs (N w14 ou10))) := by
  unfold PL_at
  obtain ⟨K, n, S, kp, T, L, c, C, W, M, R, SL, TXh, RMh⟩ := I
  have keep : ∀ w2, F5 w w2 → INV kc v sl b r tx w2 := fun w2 f => ⟨K, n, S, kp, T, L, c, C, W, f.m M, R, SL, TXh, RMh.cg f.hk⟩
  rcases pcase a 4 with h | ⟨p, hp, _, rfl⟩
  · exact crow_bad h.o (pd_t rfl (Or.inl ⟨rfl, hv, hv2, fun w1 e1 => mrow_bad h.o (pd_t rfl (m_fails e1 fun w2 f z => ck_x z i10 (k w2 ou (keep w2 f))))⟩))
  · by_cases g : d < 0
    · exact crow_ok hp (pd_f i10 (pc_f (fun x => Int32.not_le.mpr g x) (Or.inr ⟨rfl, hv, hv2, fun w1 e1 => mrow_ok hp (pd_f i10 (pc_t g (m_fails e1 fun w2 f z => ck_x z (by decide) (k w2 ou (keep w2 f)))))⟩)))
    · obtain ⟨q, hq, rfl⟩ := nI_of g
      exact c_at_x C W hp hq fun oz ez => ⟨hv, hv2, fun w1 e1 => mrow_ok hp (pd_f i10 (pc_f g (m_at (ms5 e1 M) W hp hq (ck_0 (by rw [e1, mset_a, upd_a]) ez (k w1 oz (keep w1 fun j hj => by rw [e1, mset_o _ _ _ hj]))))))⟩
theorem crs_bad {kc v y : Mem} {q : Nat} (hq : q < 4) {x : Int32} (h : x < 0 ∨ nI 2 ≤ x) {post : Int32 → Mem → Prop} {xp : Nat → Prop} (k : xp 1) : PX7_crossings_x kc v y (nI q) x post xp := by
  have ne := out_ne h (by decide)
  exact crow_ok hq (pd_f i10 (pc_f (ne 0 (by decide)) (pc_f (ne 1 (by decide)) k)))
theorem lst_bad {kc v y : Mem} {q : Nat} (hq : q < 4) {x : Int32} (h : x < 0 ∨ nI 2 ≤ x) {post : Int32 → Mem → Prop} {xp : Nat → Prop} (k : xp 1) : PX7_least_x kc v y (nI q) x post xp := by
  have ne := out_ne h (by decide)
  exact crow_ok hq (pd_f i10 (pc_f (ne 0 (by decide)) (pc_f (ne 1 (by decide)) k)))
theorem arm_crossings {kc v b tx y w : Mem} {sl r : Nat → Mem} {hs : Int64} {ou : Nat → Int64} (I : INV kc v sl b r tx w) (a d : Int32) {V V2 : Prop} (hv : V) (hv2 : V2) {N : Mem → Mem → (Nat → Int64) → Prop} (k : ∀ y w ou, INV kc v sl b r tx w → N y w ou) : PL_crossings kc v y ou a d (fun r5 y7 ou10 => V ∧ V2 ∧ PX8_crossings w hs a d (fun r12 w14 => CK r5 (ou10 0) r12 w14 hs (N y7 w14 ou10))) := by
  unfold PL_crossings
  obtain ⟨K, n, S, kp, T, L, c, C, W, M, R, SL, TXh, RMh⟩ := I
  have keep : ∀ w2, F5 w w2 → INV kc v sl b r tx w2 := fun w2 f => ⟨K, n, S, kp, T, L, c, C, W, f.m M, R, SL, TXh, RMh.cg f.hk⟩
  rcases pcase a 4 with h | ⟨p, hp, _, rfl⟩
  · exact crow_bad h.o (pd_t rfl (Or.inl ⟨rfl, hv, hv2, fun w1 e1 => mrow_bad h.o (pd_t rfl (m_fails e1 fun w2 f z => ck_x z i10 (k y w2 ou (keep w2 f))))⟩))
  · rcases pcase d 2 with h | ⟨i, hi, _, rfl⟩
    · exact crs_bad hp h.o (Or.inr ⟨rfl, hv, hv2, fun w1 e1 => mrow_ok hp (pd_f i10 (in_bad (b := 1) (by decide) h.o (pc_t rfl (m_fails e1 fun w2 f z => ck_x z (by decide) (k y w2 ou (keep w2 f))))))⟩)
    · refine c_crs_x C W hp i hi fun y2 oz ez => ⟨hv, hv2, fun w1 e1 => mrow_ok hp (pd_f i10 (in_ok (b := 1) (by omega) (by decide) (pc_f i10 (m_crossingsTo (ms5 e1 M) W hp fun w2 f2 => ck_0 (by rw [f2 5 (by decide) (by decide) (by decide), e1, mset_a, upd_a]) ez (k y2 w2 oz ⟨K, n, S, kp, T, L, c, C, W, f2.ms (ms5 e1 M), R, SL, TXh, RMh.cg ((HK_5 e1).tr f2.tod.hk)⟩)))))⟩
theorem arm_count {kc v b tx y w : Mem} {sl r : Nat → Mem} {hs : Int64} {ou : Nat → Int64} (I : INV kc v sl b r tx w) (a : Int32) {V : Prop} (hv : V) {N : Mem → Mem → (Nat → Int64) → Prop} (k : ∀ y w ou, INV kc v sl b r tx w → N y w ou) : PL_count kc v b y ou a (fun r5 y7 ou10 => V ∧ PX8_count w hs a (fun r12 w14 => CK r5 (ou10 0) r12 w14 hs (N y7 w14 ou10))) := by
  unfold PL_count
  obtain ⟨K, n, S, kp, T, L, c, C, W, M, R, SL, TXh, RMh⟩ := I
  have hb : b 2 0 = nI n := by obtain ⟨_, _, _, _, h, _⟩ := R; exact h
  rcases pcase a 9 with h | ⟨i, hi, _, rfl⟩
  · exact c_cnt_bad h.o ⟨rfl, hv, fun w1 e1 => in_bad (b := 8) (by decide) h.o (pc_t rfl (m_fails e1 fun w2 f z => ck_x z i10 (k y w2 ou ⟨K, n, S, kp, T, L, c, C, W, f.m M, R, SL, TXh, RMh.cg f.hk⟩)))⟩
  · refine c_cnt_x C W hb i hi fun y2 oz ez => ⟨hv, fun w1 e1 => in_ok (b := 8) (by omega) (by decide) (pc_f i10 (m_cnt0 (ms5 e1 M) W (by rw [e1, mset_o _ _ _ (by decide)]; exact RMh.1.2.1) i hi fun w2 f2 => ck_0 (by rw [f2 5 (by decide) (by decide) (by decide), e1, mset_a, upd_a]) ez (k y2 w2 oz ⟨K, n, S, kp, T, L, c, C, W, f2.ms (ms5 e1 M), R, SL, TXh, RMh.cg ((HK_5 e1).tr f2.tod.hk)⟩)))⟩
theorem arm_least {kc v b tx x w : Mem} {sl r : Nat → Mem} {hs : Int64} {ou : Nat → Int64} (I : INV kc v sl b r tx w) (a d : Int32) {V V2 : Prop} (hv : V) (hv2 : V2) {N : Mem → Mem → (Nat → Int64) → Prop} (k : ∀ x w ou, INV kc v sl b r tx w → N x w ou) : PL_least kc v x ou a d (fun r5 x7 ou10 => V ∧ V2 ∧ PX8_least w hs a d (fun r12 w14 => CK r5 (ou10 0) r12 w14 hs (N x7 w14 ou10))) := by
  unfold PL_least
  obtain ⟨K, n, S, kp, T, L, c, C, W, M, R, SL, TXh, RMh⟩ := I
  have keep : ∀ w2, F5 w w2 → INV kc v sl b r tx w2 := fun w2 f => ⟨K, n, S, kp, T, L, c, C, W, f.m M, R, SL, TXh, RMh.cg f.hk⟩
  rcases pcase a 4 with h | ⟨p, hp, _, rfl⟩
  · exact crow_bad h.o (pd_t rfl (Or.inl ⟨rfl, hv, hv2, fun w1 e1 => mrow_bad h.o (pd_t rfl (m_fails e1 fun w2 f z => ck_x z i10 (k x w2 ou (keep w2 f))))⟩))
  · rcases pcase d 2 with h | ⟨i, hi, _, rfl⟩
    · exact lst_bad hp h.o (Or.inr ⟨rfl, hv, hv2, fun w1 e1 => mrow_ok hp (pd_f i10 (in_bad (b := 1) (by decide) h.o (pc_t rfl (m_fails e1 fun w2 f z => ck_x z (by decide) (k x w2 ou (keep w2 f))))))⟩)
    · refine c_lst_x C W hp i hi fun x2 oz ez => ⟨hv, hv2, fun w1 e1 => mrow_ok hp (pd_f i10 (in_ok (b := 1) (by omega) (by decide) (pc_f i10 (m_leastOf (ms5 e1 M) W hp fun w2 f2 M2 _ => ck_0 ?_ ez (k x2 w2 oz ⟨K, n, S, kp, T, L, c, C, W, M2, R, SL, TXh, RMh.cg ((HK_5 e1).tr fun j hj => f2 j (by omega) (by omega) (by omega) (by omega) (by omega) (by omega))⟩)))))⟩
      rw [f2 5 (by decide) (by decide) (by decide) (by decide) (by decide) (by decide), e1, mset_a, upd_a]
theorem arm_bestSwap {kc v b tx y w : Mem} {sl r : Nat → Mem} {hs : Int64} (I : INV kc v sl b r tx w) {N : Mem → Mem → Mem → Prop} (k : ∀ v y w, INV kc v sl b r tx w → N v y w) : PX7_bestSwap kc v y (fun r303 v305 y306 => PX8_bestSwap w hs (fun r307 w309 => ((r303 = r307) → N v305 y306 w309) ∧ ((¬ r303 = r307) → False))) := by
  obtain ⟨K, n, S, kp, T, L, c, C, W, M, R, SL, TXh, RMh⟩ := I
  exact c_bestSwap C W fun v2 y2 C2 w1 e1 => m_bestOfAll (ms5 e1 M) W fun w2 f2 M2 => pc_t rfl (k v2 y2 w2 ⟨K, n, S, kp, T, L, c, C2, W, M2, R, SL, TXh, RMh.cg ((HK_5 e1).tr fun j hj => f2 j (by omega) (by omega) (by omega) (by omega))⟩)
theorem arm_near {kc v b tx w : Mem} {sl r : Nat → Mem} {hs : Int64} {ou : Nat → Int64} (I : INV kc v sl b r tx w) (a d : Int32) {V V2 : Prop} (hv : V) (hv2 : V2) {N : Mem → (Nat → Int64) → Prop} (k : ∀ w ou, INV kc v sl b r tx w → N w ou) : PL_nearness kc v ou a d (fun r5 ou10 => V ∧ V2 ∧ PX8_nearness w hs a d (fun r12 w14 => CK r5 (ou10 0) r12 w14 hs (N w14 ou10))) := by
  unfold PL_nearness
  obtain ⟨K, n, S, kp, T, L, c, C, W, M, R, SL, TXh, RMh⟩ := I
  have keep : ∀ w2, F5 w w2 → INV kc v sl b r tx w2 := fun w2 f => ⟨K, n, S, kp, T, L, c, C, W, f.m M, R, SL, TXh, RMh.cg f.hk⟩
  rcases pcase a K.np with h | ⟨p, hp, _, rfl⟩
  · exact c_isPB C W h (pc_t rfl ⟨rfl, hv, hv2, fun w1 e1 => m_isPB (ms5 e1 M) W h (pc_t rfl (m_fails e1 fun w2 f z => ck_x z i10 (k w2 ou (keep w2 f))))⟩)
  · rcases pcase d K.np with h | ⟨o, ho, _, rfl⟩
    · exact c_isPerson C W hp (pc_f i10 (c_isPB C W h (pd_t rfl ⟨rfl, hv, hv2, fun w1 e1 => m_isP1 (ms5 e1 M) W hp (pc_f i10 (m_isPB (ms5 e1 M) W h (pc_t rfl (m_fails e1 fun w2 f z => ck_x z i10 (k w2 ou (keep w2 f))))))⟩)))
    · exact c_nearX C W hp ho fun oz ez => ⟨hv, hv2, fun w1 e1 => m_isP1 (ms5 e1 M) W hp (pc_f i10 (m_isP1 (ms5 e1 M) W ho (pc_f i10 (m_near (ms5 e1 M) W hp ho (ck_0 (by rw [e1, mset_a, upd_a]) ez (k w1 oz (keep w1 fun j hj => by rw [e1, mset_o _ _ _ hj])))))))⟩
theorem arm_share {kc v b tx w : Mem} {sl r : Nat → Mem} {hs : Int64} (I : INV kc v sl b r tx w) {N : Mem → Prop} (k : ∀ w, INV kc v sl b r tx w → N w) : PX7_straightShare kc v (fun r328 => PX8_straightShare w hs (fun r330 w332 => (((Op.cmpValue (FP.dcmp r328 r330) .l) = 0) → N w332) ∧ ((¬ (Op.cmpValue (FP.dcmp r328 r330) .l) = 0) → (((Op.cmpValue (FP.dcmp r328 r328) .l) = 0) → False) ∧ ((¬ (Op.cmpValue (FP.dcmp r328 r328) .l) = 0) → ((¬ (Op.cmpValue (FP.dcmp r330 r330) .l) = 0) → N w332) ∧ (((Op.cmpValue (FP.dcmp r330 r330) .l) = 0) → False))))) := by
  obtain ⟨K, n, S, kp, T, L, c, C, W, M, R, SL, TXh, RMh⟩ := I
  exact c_share C W fun w1 e1 => m_share (ms5 e1 M) W fun w2 f2 => pc_t (share_f W).2.1 (k w2 ⟨K, n, S, kp, T, L, c, C, W, f2.ms (ms5 e1 M), R, SL, TXh, RMh.cg ((HK_5 e1).tr f2.tod.hk)⟩)
theorem arm_digest {kc v b tx y x w : Mem} {sl r : Nat → Mem} {hs : Int64} (I : INV kc v sl b r tx w) {N : Mem → Mem → Mem → Mem → Int64 → Prop} (k : ∀ v y x w hs, INV kc v sl b r tx w → N v y x w hs) : PX7_digest kc v b tx y x (fun r337 v339 y340 x341 => PX8_digest w hs (fun r342 w344 hs345 => (((lg_cmp r337 r342) = 0) → N v339 y340 x341 w344 hs345) ∧ ((¬ (lg_cmp r337 r342) = 0) → False))) := by
  obtain ⟨K, n, S, kp, T, L, c, C, W, M, R, SL, TXh, RMh⟩ := I
  have hb : b 2 0 = nI n := by obtain ⟨_, _, _, _, h, _⟩ := R; exact h
  exact c_digest C W hb TXh (fun s hs => (SL s hs).1) fun v2 y2 x2 C2 => m_digest M W RMh.1.2.1 RMh.2.2 TXh.2.1 (fun s hs => (RMh.2.1 s hs).1) fun w2 f2 M2 => pc_t (lg_self _) (k v2 y2 x2 w2 _ ⟨K, n, S, kp, T, L, c, C2, W, M2, R, SL, TXh, RMh.cg f2.hk⟩)
