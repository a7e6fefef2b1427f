/-! the other one reads the text -/
def FA (w w2 : Mem) (m : Nat) : Prop := (∀ j, j < 14 → w2 j = w j) ∧ ∀ q, q < m → w2 17 q = w 17 q ∧ w2 18 q = w 18 q ∧ w2 19 q = w 19 q
theorem FA.rf (w : Mem) (m : Nat) : FA w w m := ⟨fun _ _ => rfl, fun _ _ => ⟨rfl, rfl, rfl⟩⟩
theorem FA.tr {a b c : Mem} {m m2 : Nat} (h : FA a b m) (g : FA b c m2) (hm : m ≤ m2) : FA a c m := ⟨fun j x => (g.1 j x).trans (h.1 j x), fun q hq => by
  have x := h.2 q hq
  have y := g.2 q (by omega)
  exact ⟨y.1.trans x.1, y.2.1.trans x.2.1, y.2.2.trans x.2.2⟩⟩
theorem FA.tx {w w2 : Mem} {m L : Nat} {c : Nat → Nat} (h : FA w w2 m) (T : TXM w L c) : TXM w2 L c := T.cg (h.1 12 (by decide)) (h.1 13 (by decide))
theorem m_code {w : Mem} {hs : Int64} {L i : Nat} {c : Nat → Nat} (T : TXM w L c) (hL : L ≤ 60) (h14 : w 14 0 = nI i) (hi : i < 2 ^ 31) {post : Int32 → Prop} (k : post (nI (cx c L i))) : PX8_code w hs post := by
  unfold PX8_code
  rw [T.1, h14]
  rcases Nat.lt_or_ge i L with g | g
  · rw [ix_nI hi, T.2 i g]
    rw [cx_lt g] at k
    exact pc_f (nle g (by omega)) ⟨in_nI (by omega) (by omega), k⟩
  · rw [cx_ge g] at k
    exact pc_t (nle' g hi) k
theorem m_dg {x : Nat} (hx : x < 200) {post : Int32 → Prop} (k1 : dg x = true → post 1) (k0 : dg x = false → post 0) : PX8_in (nI x) 48 57 post := by
  rw [n48I, n57I]
  exact m_in (by omega) (by omega) (by omega) (fun a b => k1 (dg_iff.mpr ⟨a, b⟩)) (fun h => k0 (dg_f.mpr h))
theorem m_takes {w : Mem} {hs : Int64} {L i q : Nat} {c : Nat → Nat} (T : TXM w L c) (hL : L ≤ 60) (hc : ∀ i, i < L → c i < 200) (h14 : w 14 0 = nI i) (hi : i < 2 ^ 31) (hq : q < 200) {post : Int32 → Mem → Prop} (k1 : cx c L i = q → ∀ w2, (∀ j, j ≠ 14 → w2 j = w j) → w2 14 0 = nI (i + 1) → post 1 w2) (k0 : cx c L i ≠ q → ∀ w2, (∀ j, j ≠ 14 → w2 j = w j) → w2 14 0 = nI i → post 0 w2) : PX8_takes w hs (nI q) post := by
  have h2 := cx200 hc i
  refine m_code T hL h14 hi ?_
  by_cases g : cx c L i = q
  · refine pd_t (by rw [g]) ?_
    refine pc_f i10 fun w5 e5 => ⟨Or.inr rfl, k1 g w5 (fun j a => by rw [e5, mset_o _ _ _ a]) ?_⟩
    rw [e5, mset_a, upd_a, h14, nI_1]
  · refine pd_f (nne (by omega) (by omega) g) ?_
    refine pc_t rfl fun w5 e5 => ⟨Or.inl rfl, k0 g w5 (fun j a => by rw [e5, mset_o _ _ _ a]) ?_⟩
    rw [e5, mset_a, upd_a, h14, add0]
theorem m_readsPerson {w : Mem} {hs : Int64} {L i : Nat} {c : Nat → Nat} (T : TXM w L c) (hL : L ≤ 60) (hc : ∀ i, i < L → c i < 200) (h14 : w 14 0 = nI i) (hi : i ≤ L + 1) {post : Int32 → Mem → Prop} (k0 : dg (cx c L i) = false → post 0 w) (k1 : dg (cx c L i) = true → ∀ w2, (∀ j, j ≠ 14 → j ≠ 15 → w2 j = w j) → w2 14 0 = nI (nj c L i) → w2 15 0 = nI (nv c L i) → post 1 w2) : PX8_readsPerson w hs post := by
  have x2 := cx200 hc i
  have y2 := cx200 hc (i + 1)
  refine m_code T hL h14 (by omega) (m_dg x2 (fun g => pd_f i10 (m_code T hL h14 (by omega) fun w8 e8 w9 e9 => ?_)) (fun g => pd_t rfl (k0 g)))
  have gi := dg_iff.mp g
  rw [n48I, pk_sub gi.1] at e8
  have f9 : ∀ j, j ≠ 14 → j ≠ 15 → w9 j = w j := fun j a b => by rw [e9, mset_o _ _ _ a, e8, mset_o _ _ _ b]
  have z14 : w9 14 0 = nI (i + 1) := by rw [e9, mset_a, upd_a, e8, mset_o _ _ _ (by decide), h14, nI_1]
  have z15 : w9 15 0 = nI (cx c L i - 48) := by rw [e9, mset_o _ _ _ (by decide), e8, mset_a, upd_a]
  have T9 : TXM w9 L c := T.cg (f9 12 (by decide) (by decide)) (f9 13 (by decide) (by decide))
  have plain : ¬ (cx c L i = 49 ∧ dg (cx c L (i + 1)) = true) → post 1 w9 := fun n => k1 g w9 f9 (by unfold nj; rw [if_neg n]; exact z14) (by unfold nv; rw [if_neg n]; exact z15)
  rw [z15, n1I]
  by_cases h1 : cx c L i = 49
  · refine pd_t (by rw [h1]) (m_code T9 hL z14 (by omega) (m_dg y2 (fun g2 => pc_f i10 (m_code T9 hL z14 (by omega) fun w18 e18 w19 e19 => ?_)) (fun g2 => pc_t rfl (plain (fun q => by rw [g2] at q; cases q.2)))))
    have gi2 := dg_iff.mp g2
    rw [n10I, nI_add, n48I, pk_sub (by omega)] at e18
    refine k1 g w19 (fun j a b => by rw [e19, mset_o _ _ _ a, e18, mset_o _ _ _ b]; exact f9 j a b) ?_ ?_
    · unfold nj; rw [if_pos ⟨h1, g2⟩, e19, mset_a, upd_a, e18, mset_o _ _ _ (by decide), z14]; exact nI_add (i + 1) 1
    · unfold nv; rw [if_pos ⟨h1, g2⟩, e19, mset_o _ _ _ (by decide), e18, mset_a, upd_a]
  · exact pd_f (nne (by omega) (by omega) (by omega)) (plain (fun q => h1 q.1))
theorem upd_lt (f : Nat → Int32) {m q : Nat} (x : Int32) (h : q < m) : upd f m x q = f q := upd_o _ _ (by omega)
theorem m_readsCouple {w : Mem} {hs : Int64} {L i m : Nat} {c : Nat → Nat} (T : TXM w L c) (hL : L ≤ 60) (hc : ∀ i, i < L → c i < 200) (h14 : w 14 0 = nI i) (hi : i ≤ L) (h16 : w 16 0 = nI m) (hm : m < 32) {post : Int32 → Mem → Prop} (k0 : cOk c L i = false → ∀ w2, FA w w2 m → w2 16 0 = nI m → w2 14 0 = nI (cJ c L i) → post 0 w2) (k1 : cOk c L i = true → ∀ w2, FA w w2 m → w2 16 0 = nI m → w2 14 0 = nI (cJ c L i) → w2 18 m = nI (nv c L i) → w2 19 m = nI (nv c L (nj c L i + 1)) → post 1 w2) : PX8_readsCouple w hs post := by
  unfold cOk cJ at k0 k1
  refine m_readsPerson T hL hc h14 (by omega) (fun g1 => pd_t rfl ?_) (fun g1 w3 f3 z14 z15 => pd_f i10 ?_)
  · rw [g1] at k0
    exact k0 rfl w (FA.rf _ _) h16 (by rw [if_pos rfl]; exact h14)
  · have hl := dg_cx g1
    have a2 := nj_le (c := c) hl
    rw [g1, if_neg (by decide)] at k0 k1
    have y16 : w3 16 0 = nI m := by rw [f3 16 (by decide) (by decide)]; exact h16
    rw [y16, ix_nI (show m < 2 ^ 31 by omega), z15]
    refine ⟨in_nI hm (by decide), fun w6 e6 => ?_⟩
    have f6 : ∀ j, j ≠ 14 → j ≠ 15 → j ≠ 18 → w6 j = w j := fun j a b d => by rw [e6, mset_o _ _ _ d]; exact f3 j a b
    have T6 : TXM w6 L c := T.cg (f6 12 (by decide) (by decide) (by decide)) (f6 13 (by decide) (by decide) (by decide))
    have r18 : w6 18 = upd (w 18) m (nI (nv c L i)) := by rw [e6, mset_a, f3 18 (by decide) (by decide)]
    have y14 : w6 14 0 = nI (nj c L i) := by rw [e6, mset_o _ _ _ (by decide)]; exact z14
    have end0 : ∀ (w9 : Mem) (J : Nat), (∀ j, j ≠ 14 → j ≠ 15 → j ≠ 18 → w9 j = w j) → w9 18 = w6 18 → w9 14 0 = nI J → (∀ w2, FA w w2 m → w2 16 0 = nI m → w2 14 0 = nI J → post 0 w2) → PX8_readsCouple_42 hs post w9 := fun w9 J f9 r9 g14 kk => by
      unfold PX8_readsCouple_42 PX8_readsCouple_43
      rw [f9 16 (by decide) (by decide) (by decide), h16, ix_nI (show m < 2 ^ 31 by omega)]
      refine ⟨in_nI hm (by decide), fun w12 e12 => ⟨Or.inl rfl, kk w12 ⟨fun j hj => by rw [e12, mset_o _ _ _ (by omega)]; exact f9 j (by omega) (by omega) (by omega), fun q hq => ⟨?_, ?_, ?_⟩⟩ ?_ ?_⟩⟩
      · rw [e12, mset_o _ _ _ (by decide), f9 17 (by decide) (by decide) (by decide)]
      · rw [e12, mset_o _ _ _ (by decide), r9, r18, upd_lt _ _ hq]
      · rw [e12, mset_a, upd_lt _ _ hq, f9 19 (by decide) (by decide) (by decide)]
      · rw [e12, mset_o _ _ _ (by decide), f9 16 (by decide) (by decide) (by decide)]; exact h16
      · rw [e12, mset_o _ _ _ (by decide)]; exact g14
    rw [n38I]
    refine m_takes T6 hL hc y14 (by omega) (by decide) (fun g2 w9 f9 g14 => pc_f i10 ?_) (fun g2 w9 f9 g14 => pc_t rfl ?_)
    · rw [decide_eq_true g2, if_neg (by simp [g2])] at k0 k1
      have hl2 := cx_ne g2 (by decide)
      have F9 : ∀ j, j ≠ 14 → j ≠ 15 → j ≠ 18 → w9 j = w j := fun j a b d => by rw [f9 j a]; exact f6 j a b d
      have T9 : TXM w9 L c := T.cg (F9 12 (by decide) (by decide) (by decide)) (F9 13 (by decide) (by decide) (by decide))
      refine m_readsPerson T9 hL hc g14 (by omega) (fun g3 => pc_t rfl ?_) (fun g3 w16 f16 q14 q15 => pc_f i10 ?_)
      · rw [g3, if_pos rfl] at k0
        exact end0 w9 _ F9 (f9 18 (by decide)) g14 (k0 rfl)
      · rw [g3, if_neg (by decide)] at k1
        have F16 : ∀ j, j ≠ 14 → j ≠ 15 → j ≠ 18 → w16 j = w j := fun j a b d => by rw [f16 j a b]; exact F9 j a b d
        unfold PX8_readsCouple_43
        rw [F16 16 (by decide) (by decide) (by decide), h16, ix_nI (show m < 2 ^ 31 by omega), q15]
        refine ⟨in_nI hm (by decide), fun w12 e12 => ⟨Or.inr rfl, k1 rfl w12 ⟨fun j hj => by rw [e12, mset_o _ _ _ (by omega)]; exact F16 j (by omega) (by omega) (by omega), fun q hq => ⟨?_, ?_, ?_⟩⟩ ?_ ?_ ?_ ?_⟩⟩
        · rw [e12, mset_o _ _ _ (by decide), F16 17 (by decide) (by decide) (by decide)]
        · rw [e12, mset_o _ _ _ (by decide), f16 18 (by decide) (by decide), f9 18 (by decide), r18, upd_lt _ _ hq]
        · rw [e12, mset_a, upd_lt _ _ hq, F16 19 (by decide) (by decide) (by decide)]
        · rw [e12, mset_o _ _ _ (by decide), F16 16 (by decide) (by decide) (by decide)]; exact h16
        · rw [e12, mset_o _ _ _ (by decide)]; exact q14
        · rw [e12, mset_o _ _ _ (by decide), f16 18 (by decide) (by decide), f9 18 (by decide), r18, upd_a]
        · rw [e12, mset_a, upd_a]
    · rw [decide_eq_false g2, if_pos g2] at k0
      exact end0 w9 _ (fun j a b d => by rw [f9 j a]; exact f6 j a b d) (f9 18 (by decide)) g14 (k0 rfl)
theorem m_readsPart {w : Mem} {hs : Int64} {L i m : Nat} {c : Nat → Nat} (T : TXM w L c) (hL : L ≤ 60) (hc : ∀ i, i < L → c i < 200) (h14 : w 14 0 = nI i) (hi : i ≤ L) (h16 : w 16 0 = nI m) (hm : m < 32) {post : Int32 → Mem → Prop} (k0 : pOk c L i = false → ∀ w2, FA w w2 m → w2 16 0 = nI m → w2 14 0 = nI (pJ c L i) → post 0 w2) (k1 : pOk c L i = true → ∀ w2, FA w w2 m → w2 16 0 = nI (m + 1) → w2 14 0 = nI (pJ c L i) → w2 17 m = nI (cx c L i) → (pK c L i ≠ 0 → w2 18 m = nI (pA c L i)) → (pK c L i = 1 → w2 19 m = nI (pB c L i)) → post 1 w2) : PX8_readsPart w hs post := by
  have x2 := cx200 hc i
  -- the end: the sign noted, one part more
  have fin : pOk c L i = true → ∀ w9 : Mem, FA w w9 m → w9 16 0 = nI m → w9 14 0 = nI (pJ c L i) → (pK c L i ≠ 0 → w9 18 m = nI (pA c L i)) → (pK c L i = 1 → w9 19 m = nI (pB c L i)) → PX8_readsPart_126 hs post w9 (nI (cx c L i)) 1 := fun hk w9 f9 g16 g14 g18 g19 => by
    unfold PX8_readsPart_126
    rw [g16, ix_nI (show m < 2 ^ 31 by omega)]
    refine pc_f i10 ⟨in_nI hm (by decide), fun w13 e13 w14 e14 => ⟨Or.inr rfl, k1 hk w14 ⟨fun j hj => by rw [e14, mset_o _ _ _ (by omega), e13, mset_o _ _ _ (by omega)]; exact f9.1 j hj, fun q hq => ?_⟩ ?_ ?_ ?_ (fun h => ?_) (fun h => ?_)⟩⟩
    · rw [e14, mset_o _ _ _ (by decide), mset_o _ _ _ (by decide), mset_o _ _ _ (by decide), e13, mset_a, mset_o _ _ _ (by decide), mset_o _ _ _ (by decide), upd_lt _ _ hq]; exact f9.2 q hq
    · rw [e14, mset_a, upd_a, e13, mset_o _ _ _ (by decide), g16, nI_1]
    · rw [e14, mset_o _ _ _ (by decide), e13, mset_o _ _ _ (by decide)]; exact g14
    · rw [e14, mset_o _ _ _ (by decide), e13, mset_a, upd_a]
    · rw [e14, mset_o _ _ _ (by decide), e13, mset_o _ _ _ (by decide)]; exact g18 h
    · rw [e14, mset_o _ _ _ (by decide), e13, mset_o _ _ _ (by decide)]; exact g19 h
  have fail : ∀ (w9 : Mem) (x : Int32), pOk c L i = false → FA w w9 m → w9 16 0 = nI m → w9 14 0 = nI (pJ c L i) → PX8_readsPart_126 hs post w9 x 0 := fun w9 x hk f9 g16 g14 => pc_t rfl ⟨Or.inl rfl, k0 hk w9 f9 g16 g14⟩
  refine m_code T hL h14 (by omega) ?_
  rw [n48I, show (51 : Int32) = nI 51 from rfl, n43I, n94I]
  by_cases g1 : 48 ≤ cx c L i ∧ cx c L i < 52
  · have ek : pOk c L i = true := if_pos g1
    have ej : pJ c L i = i + 1 := if_pos g1
    have e0 : pK c L i = 0 := by unfold pK; rw [if_neg (by omega), if_neg (by omega)]
    refine m_in (by omega) (by omega) (by omega) (fun _ _ => pd_f i10 (pc_f i10 fun w7 e7 => ?_)) (fun h => absurd ⟨g1.1, by omega⟩ h)
    rw [h14, nI_1] at e7
    rw [n43I, n94I]
    refine pd_f (nne (by omega) (by omega) (by omega)) (pd_f (nne (by omega) (by omega) (by omega)) (fin ek w7 ⟨fun j hj => by rw [e7, mset_o _ _ _ (by omega)], fun q _ => by rw [e7, mset_o _ _ _ (by decide), mset_o _ _ _ (by decide), mset_o _ _ _ (by decide)]; exact ⟨rfl, rfl, rfl⟩⟩ ?_ ?_ (fun h => absurd e0 h) (fun h => by omega)))
    · rw [e7, mset_o _ _ _ (by decide)]; exact h16
    · rw [e7, mset_a, upd_a, ej]
  · refine m_in (by omega) (by omega) (by omega) (fun a b => absurd ⟨a, by omega⟩ g1) (fun _ => pd_t rfl ?_)
    by_cases g2 : cx c L i = 43
    · have ek : pOk c L i = cOk c L (i + 1) := by unfold pOk; rw [if_neg g1, if_pos g2]
      have ej : pJ c L i = cJ c L (i + 1) := by unfold pJ; rw [if_neg g1, if_pos g2]
      have ea : pA c L i = nv c L (i + 1) := if_pos g2
      have hl := cx_ne g2 (by decide)
      refine pc_t (by rw [g2]) (pc_f i10 fun w7 e7 => ?_)
      rw [h14, nI_1] at e7
      have f7 : ∀ j, j ≠ 14 → w7 j = w j := fun j a => by rw [e7, mset_o _ _ _ a]
      have y14 : w7 14 0 = nI (i + 1) := by rw [e7, mset_a, upd_a]
      have F7 : FA w w7 m := ⟨fun j hj => f7 j (by omega), fun q _ => by rw [f7 17 (by decide), f7 18 (by decide), f7 19 (by decide)]; exact ⟨rfl, rfl, rfl⟩⟩
      rw [n43I]
      refine pd_t (by rw [g2]) (m_readsCouple (F7.tx T) hL hc y14 (by omega) (m := m) (by rw [f7 16 (by decide)]; exact h16) hm (fun h w9 f9 g16 g14 => fail w9 _ (by rw [ek]; exact h) (F7.tr f9 (Nat.le_refl _)) g16 (by rw [ej]; exact g14)) (fun h w9 f9 g16 g14 g18 g19 => fin (by rw [ek]; exact h) w9 (F7.tr f9 (Nat.le_refl _)) g16 (by rw [ej]; exact g14) (fun _ => by rw [ea]; exact g18) (fun _ => g19)))
    · refine pc_f (nne (by omega) (by omega) g2) ?_
      by_cases g3 : cx c L i = 94
      · have ek : pOk c L i = dg (cx c L (i + 1)) := by unfold pOk; rw [if_neg g1, if_neg g2, if_pos g3]
        have ej : pJ c L i = if dg (cx c L (i + 1)) = true then i + 2 else i + 1 := by unfold pJ; rw [if_neg g1, if_neg g2, if_pos g3]
        have ea : pA c L i = cx c L (i + 1) - 48 := by unfold pA; rw [if_neg g2, if_pos g3]
        have e1 : pK c L i = 2 := by unfold pK; rw [if_neg g2, if_pos g3]
        have hl := cx_ne g3 (by decide)
        have y2 := cx200 hc (i + 1)
        refine pd_t (by rw [g3]) (pc_f i10 fun w7 e7 => ?_)
        rw [h14, nI_1] at e7
        have f7 : ∀ j, j ≠ 14 → w7 j = w j := fun j a => by rw [e7, mset_o _ _ _ a]
        have y14 : w7 14 0 = nI (i + 1) := by rw [e7, mset_a, upd_a]
        have F7 : FA w w7 m := ⟨fun j hj => f7 j (by omega), fun q _ => by rw [f7 17 (by decide), f7 18 (by decide), f7 19 (by decide)]; exact ⟨rfl, rfl, rfl⟩⟩
        have T7 := F7.tx T
        have z16 : w7 16 0 = nI m := by rw [f7 16 (by decide)]; exact h16
        have F22 : ∀ (w22 w24 : Mem) (x y : Int32), w22 = mset w7 18 m x → w24 = mset w22 14 0 y → FA w w24 m ∧ w24 16 0 = nI m := fun w22 w24 x y e22 e24 => by
          refine ⟨⟨fun j hj => by rw [e24, mset_o _ _ _ (by omega), e22, mset_o _ _ _ (by omega)]; exact F7.1 j hj, fun q hq => ?_⟩, ?_⟩
          · rw [e24, mset_o _ _ _ (by decide), mset_o _ _ _ (by decide), mset_o _ _ _ (by decide), e22, mset_o _ _ _ (by decide), mset_a, mset_o _ _ _ (by decide), upd_lt _ _ hq]; exact F7.2 q hq
          · rw [e24, mset_o _ _ _ (by decide), e22, mset_o _ _ _ (by decide)]; exact z16
        rw [n43I, n94I]
        refine pd_f (nne (by omega) (by omega) g2) (pd_t (by rw [g3]) (m_code T7 hL y14 (by omega) (m_dg y2 (fun g4 => pc_f i10 (m_code T7 hL y14 (by omega) ?_)) (fun g4 => pc_t rfl ?_))))
        · unfold PX8_readsPart_107
          have gi := dg_iff.mp g4
          rw [z16, ix_nI (show m < 2 ^ 31 by omega), n48I, pk_sub gi.1]
          refine ⟨in_nI hm (by decide), fun w22 e22 => pc_f i10 fun w24 e24 => ?_⟩
          have x := F22 w22 w24 _ _ e22 e24
          refine fin (by rw [ek]; exact g4) w24 x.1 x.2 ?_ (fun _ => ?_) (fun h => by omega)
          · rw [ej, if_pos g4, e24, mset_a, upd_a, e22, mset_o _ _ _ (by decide), y14, nI_1]
          · rw [ea, e24, mset_o _ _ _ (by decide), e22, mset_a, upd_a]
        · unfold PX8_readsPart_107
          rw [z16, ix_nI (show m < 2 ^ 31 by omega)]
          refine ⟨in_nI hm (by decide), fun w22 e22 => pc_t rfl fun w24 e24 => ?_⟩
          have x := F22 w22 w24 _ _ e22 e24
          refine fail w24 _ (by rw [ek]; exact g4) x.1 x.2 ?_
          rw [ej, g4, if_neg (by decide), e24, mset_a, upd_a, e22, mset_o _ _ _ (by decide), y14, add0]
      · have ek : pOk c L i = false := by unfold pOk; rw [if_neg g1, if_neg g2, if_neg g3]
        have ej : pJ c L i = i := by unfold pJ; rw [if_neg g1, if_neg g2, if_neg g3]
        refine pd_f (nne (by omega) (by omega) g3) (pc_t rfl fun w7 e7 => ?_)
        rw [h14, add0] at e7
        rw [n43I, n94I]
        refine pd_f (nne (by omega) (by omega) g2) (pd_f (nne (by omega) (by omega) g3) (fail w7 _ ek ⟨fun j hj => by rw [e7, mset_o _ _ _ (by omega)], fun q _ => by rw [e7, mset_o _ _ _ (by decide), mset_o _ _ _ (by decide), mset_o _ _ _ (by decide)]; exact ⟨rfl, rfl, rfl⟩⟩ ?_ ?_))
        · rw [e7, mset_o _ _ _ (by decide)]; exact h16
        · rw [e7, mset_a, upd_a, ej]
/-- the first k parts in the rows -/
def ARR (w : Mem) (c : Nat → Nat) (L k : Nat) : Prop := ∀ q, q < k → w 17 q = nI (cx c L (sP c L q)) ∧ (pK c L (sP c L q) ≠ 0 → w 18 q = nI (pA c L (sP c L q))) ∧ (pK c L (sP c L q) = 1 → w 19 q = nI (pB c L (sP c L q)))
theorem ARR.cg {w w2 : Mem} {c : Nat → Nat} {L k : Nat} (A : ARR w c L k) (h : ∀ q, q < k → w2 17 q = w 17 q ∧ w2 18 q = w 18 q ∧ w2 19 q = w 19 q) : ARR w2 c L k := fun q hq => by
  rw [(h q hq).1, (h q hq).2.1, (h q hq).2.2]; exact A q hq
theorem ARR_s {w w2 : Mem} {c : Nat → Nat} {L k : Nat} (A : ARR w c L k) (F : FA w w2 k) (h1 : w2 17 k = nI (cx c L (sP c L k))) (h2 : pK c L (sP c L k) ≠ 0 → w2 18 k = nI (pA c L (sP c L k))) (h3 : pK c L (sP c L k) = 1 → w2 19 k = nI (pB c L (sP c L k))) : ARR w2 c L (k + 1) := fun q hq => by
  rcases Nat.lt_succ_iff_lt_or_eq.mp hq with g | rfl
  · exact A.cg F.2 q g
  · exact ⟨h1, h2, h3⟩
theorem m_chron_l {hs : Int64} {w0 : Mem} {c : Nat → Nat} {L : Nat} (T : TXM w0 L c) (hL : L ≤ 60) (hc : ∀ i, i < L → c i < 200) {post : Int32 → Mem → Prop} (k0 : ∀ w2 r, (∀ j, j < 14 → w2 j = w0 j) → w2 14 0 = nI r → STP c L r → post 0 w2) (k1 : ∀ w2 m, (∀ j, j < 14 → w2 j = w0 j) → w2 14 0 = nI L → w2 16 0 = nI m → WH c L m → ARR w2 c L m → ds c L = 1 ∨ ds c L = 6 → post 1 w2) : ∀ (d k : Nat) (w : Mem), L + 1 - pJ c L (sP c L k) ≤ d → (∀ j, j < 14 → w j = w0 j) → w 14 0 = nI (pJ c L (sP c L k)) → w 16 0 = nI (k + 1) → ARR w c L (k + 1) → (∀ q, q < k + 1 → pOk c L (sP c L q) = true) → (∀ q, q < k → cx c L (pJ c L (sP c L q)) = 59) → pJ c L (sP c L k) ≤ L → Q5 c L (pJ c L (sP c L k)) → 2 * k ≤ sP c L k → sP c L k < pJ c L (sP c L k) → PX8_isChronicle_15 hs post (d + 2) w 1 := by
  intro d
  induction d with
  | zero => intro k w h1 _ _ _ _ _ _ h2; omega
  | succ d ih =>
    intro k w h1 hf h14 h16 hA hok hsep hle hq h2k hlt
    have Tw : TXM w L c := T.cg (hf 12 (by decide)) (hf 13 (by decide))
    unfold PX8_isChronicle_15
    rw [n59I]
    refine pc_f i10 (m_takes Tw hL hc h14 (by omega) (by decide) (fun g w11 f11 g14 => pc_f i10 ?_) (fun g w11 f11 g14 => pc_t rfl ?_))
    · have hl := cx_ne g (by decide)
      have n := Q5_n hq hl
      have g' := g
      rw [cx_lt hl] at g'
      rw [if_pos g'] at n
      have F11 : FA w w11 (k + 1) := ⟨fun j hj => f11 j (by omega), fun q _ => by rw [f11 17 (by decide), f11 18 (by decide), f11 19 (by decide)]; exact ⟨rfl, rfl, rfl⟩⟩
      have p := prt_ds (L := L) n (by omega)
      rw [← sP_s] at p n g14
      have es : sP c L (k + 1) = pJ c L (sP c L k) + 1 := rfl
      refine m_readsPart (F11.tx Tw) hL hc g14 (by omega) (m := k + 1) (by rw [f11 16 (by decide)]; exact h16) (by omega) (fun b w2 f2 y16 y14 => ?_) (fun b w2 f2 y16 y14 y17 y18 y19 => ?_)
      · unfold PX8_isChronicle_15
        exact pc_t rfl (pc_t rfl (k0 w2 _ (fun j hj => by rw [f2.1 j hj, F11.1 j hj, hf j hj]) y14 (p.2 b).2))
      · have p1 := p.1 b
        refine ih (k + 1) w2 (by omega) (fun j hj => by rw [f2.1 j hj, F11.1 j hj, hf j hj]) y14 y16 (ARR_s (hA.cg F11.2) f2 y17 y18 y19) (fun q hq2 => ?_) (fun q hq2 => ?_) p1.2.1 p1.2.2 (by omega) p1.1
        · rcases Nat.lt_succ_iff_lt_or_eq.mp hq2 with x | rfl
          · exact hok q x
          · exact b
        · rcases Nat.lt_succ_iff_lt_or_eq.mp hq2 with x | rfl
          · exact hsep q x
          · exact g
    · have F11 : FA w w11 (k + 1) := ⟨fun j hj => f11 j (by omega), fun q _ => by rw [f11 17 (by decide), f11 18 (by decide), f11 19 (by decide)]; exact ⟨rfl, rfl, rfl⟩⟩
      unfold PX8_isChronicle_36
      rw [g14, f11 13 (by decide), Tw.1]
      refine pc_f i10 ?_
      have F : ∀ j, j < 14 → w11 j = w0 j := fun j hj => by rw [F11.1 j hj, hf j hj]
      by_cases e : pJ c L (sP c L k) = L
      · refine pd_t (by rw [e]) (k1 w11 (k + 1) F (by rw [g14, e]) (by rw [f11 16 (by decide)]; exact h16) ⟨by omega, hok, fun q hq2 => hsep q (by omega), e⟩ (hA.cg F11.2) ?_)
        rw [e] at hq
        rcases hq with q | q
        · exact Or.inl q
        · exact Or.inr q.1
      · refine pd_f (nne (by omega) (by omega) e) (k0 w11 _ F g14 ⟨hle, Q5_8 hq, fun hl => ?_, fun q => absurd q e⟩)
        rw [Q5_n hq hl, if_neg]
        rw [cx_lt hl] at g; exact g
theorem m_isChronicle {w : Mem} {hs : Int64} {c : Nat → Nat} {L : Nat} (T : TXM w L c) (hL : L ≤ 60) (hc : ∀ i, i < L → c i < 200) {post : Int32 → Mem → Prop} (k0 : ∀ w2 r, (∀ j, j < 14 → w2 j = w j) → w2 14 0 = nI r → STP c L r → post 0 w2) (k1 : ∀ w2 m, (∀ j, j < 14 → w2 j = w j) → w2 14 0 = nI L → w2 16 0 = nI m → WH c L m → ARR w2 c L m → ds c L = 1 ∨ ds c L = 6 → post 1 w2) : PX8_isChronicle w hs post := by
  intro w1 e1 w2 e2
  have f2 : ∀ j, j < 14 → w2 j = w j := fun j hj => by rw [e2, mset_o _ _ _ (by omega), e1, mset_o _ _ _ (by omega)]
  have z14 : w2 14 0 = nI 0 := by rw [e2, mset_o _ _ _ (by decide), e1, mset_a, upd_a]; rfl
  have z16 : w2 16 0 = nI 0 := by rw [e2, mset_a, upd_a]; rfl
  have p := prt_ds (c := c) (L := L) (i := 0) rfl (Nat.zero_le _)
  refine m_readsPart (T.cg (f2 12 (by decide)) (f2 13 (by decide))) hL hc z14 (Nat.zero_le _) (m := 0) z16 (by decide) (fun b w5 f5 y16 y14 => ⟨1, ?_⟩) (fun b w5 f5 y16 y14 y17 y18 y19 => ?_)
  · unfold PX8_isChronicle_15
    exact pc_t rfl (pc_t rfl (k0 w5 _ (fun j hj => by rw [f5.1 j hj, f2 j hj]) y14 (p.2 b).2))
  · have p1 := p.1 b
    refine ⟨_, m_chron_l (w0 := w) T hL hc k0 k1 (L + 1) 0 w5 ?_ (fun j hj => by rw [f5.1 j hj, f2 j hj]) y14 y16 ?_ (fun q hq => ?_) (fun q hq => absurd hq (by omega)) p1.2.1 p1.2.2 (Nat.le_refl _) p1.1⟩
    · omega
    · exact ARR_s (k := 0) (w := w2) (fun q hq => absurd hq (by omega)) f5 y17 y18 y19
    · rw [show q = 0 by omega]; exact b
theorem m_firstError {w : Mem} {hs : Int64} {c : Nat → Nat} {L : Nat} (T : TXM w L c) (hL : L ≤ 60) (hc : ∀ i, i < L → c i < 200) {post : Int32 → Mem → Prop} (k : ∀ w2 r, (∀ j, j < 14 → j ≠ 5 → w2 j = w j) → r ≤ L → ds c r ≠ 8 → (r < L → ds c (r + 1) = 8) → post (nI r) w2) : PX8_firstError w hs post := by
  intro w1 e1
  have f1 : ∀ j, j ≠ 5 → w1 j = w j := fun j a => by rw [e1, mset_o _ _ _ a]
  refine m_isChronicle (T.cg (f1 12 (by decide)) (f1 13 (by decide))) hL hc (fun w2 r f2 g14 s => pc_t rfl ?_) (fun w2 m f2 g14 g16 wh ar e => pc_f i10 ?_)
  · rw [g14]
    exact k w2 r (fun j a b => by rw [f2 j a, f1 j b]) s.1 s.2.1 s.2.2.1
  · rw [f2 13 (by decide), f1 13 (by decide), T.1]
    exact k w2 L (fun j a b => by rw [f2 j a, f1 j b]) (Nat.le_refl _) (by omega) (fun h => absurd h (by omega))
