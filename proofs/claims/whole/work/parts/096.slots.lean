/-! undo, keep, goBack; what is held beside the present state -/
def kpI (b : Bool) : Int32 := if b = true then 1 else 0
/-- the slots of the class -/
def SLC (kc : Mem) (sl : Nat → Mem) (kp : Nat → Bool) (T : Nat → Kr) : Prop := ∀ s, s < 2 → kc 2 s = kpI (kp s) ∧ (kp s = true → CS (sl s) (T s) ∧ WF (T s))
/-- the slots of the other one -/
def SLM (w : Mem) (kp : Nat → Bool) (T : Nat → Kr) : Prop := ∀ s, s < 2 → w 4 s = kpI (kp s) ∧ (kp s = true → MS (fun k => w 3 (91 * s + k)) (T s) ∧ WF (T s))
def TXM (w : Mem) (n : Nat) (c : Nat → Nat) : Prop := w 13 0 = nI n ∧ ∀ i, i < n → w 12 i = nI (c i)
/-- all that the other one holds beside the present state -/
def RM (w : Mem) (n : Nat) (S : Nat → Kr) (kp : Nat → Bool) (T : Nat → Kr) (L : Nat) (c : Nat → Nat) : Prop := SV w n S ∧ SLM w kp T ∧ TXM w L c
def HK (w w2 : Mem) : Prop := ∀ j, j = 1 ∨ j = 2 ∨ j = 3 ∨ j = 4 ∨ j = 12 ∨ j = 13 → w2 j = w j
theorem HK.rf (w : Mem) : HK w w := fun _ _ => rfl
theorem HK.tr {a b c : Mem} (h : HK a b) (g : HK b c) : HK a c := fun j x => (g j x).trans (h j x)
theorem SV.cg {w w2 : Mem} {n : Nat} {S : Nat → Kr} (V : SV w n S) (h1 : w2 1 = w 1) (h2 : w2 2 = w 2) : SV w2 n S := ⟨V.1, by rw [h2]; exact V.2.1, fun i hi => by rw [h1]; exact V.2.2 i hi⟩
theorem SLM.cg {w w2 : Mem} {kp : Nat → Bool} {T : Nat → Kr} (V : SLM w kp T) (h1 : w2 3 = w 3) (h2 : w2 4 = w 4) : SLM w2 kp T := fun s hs => by rw [h1, h2]; exact V s hs
theorem TXM.cg {w w2 : Mem} {n : Nat} {c : Nat → Nat} (V : TXM w n c) (h1 : w2 12 = w 12) (h2 : w2 13 = w 13) : TXM w2 n c := ⟨by rw [h2]; exact V.1, fun i hi => by rw [h1]; exact V.2 i hi⟩
theorem RM.cg {w w2 : Mem} {n : Nat} {S : Nat → Kr} {kp : Nat → Bool} {T : Nat → Kr} {L : Nat} {c : Nat → Nat} (R : RM w n S kp T L c) (h : HK w w2) : RM w2 n S kp T L c :=
  ⟨R.1.cg (h 1 (by decide)) (h 2 (by decide)), R.2.1.cg (h 3 (by decide)) (h 4 (by decide)), R.2.2.cg (h 12 (by decide)) (h 13 (by decide))⟩
theorem HK_5 {w w1 : Mem} {x : Int32} (e : w1 = mset w 5 0 x) : HK w w1 := fun j hj => by rw [e, mset_o _ _ _ (by omega)]
theorem in_bad {x : Int32} {b : Nat} (hb : b + 1 < 2 ^ 31) (h : x < 0 ∨ nI (b + 1) ≤ x) {post : Int32 → Prop} (k : post 0) : PX8_in x 0 (nI b) post := by
  by_cases g : x < 0
  · exact pc_t g k
  · exact pc_f g (pc_t (Int32.lt_of_lt_of_le (nI_lt (a := b) (by omega) hb) (h.resolve_left g)) k)
theorem in_ok {j b : Nat} (h : j ≤ b) (hb : b < 2 ^ 31) {post : Int32 → Prop} (k : post 1) : PX8_in (nI j) 0 (nI b) post := pc_f (nI_lt0 (by omega)) (pc_f (nI_nlt h hb) k)
theorem mrow_bad {x : Int32} (h : x < 0 ∨ nI 4 ≤ x) {post : Int32 → Prop} (k : post 0) : PX8_isRow x post := in_bad (b := 3) (by decide) h ⟨Or.inl rfl, k⟩
theorem mrow_ok {r : Nat} (h : r < 4) {post : Int32 → Prop} (k : post 1) : PX8_isRow (nI r) post := in_ok (b := 3) (by omega) (by decide) ⟨Or.inr rfl, k⟩
theorem crow_bad {x : Int32} (h : x < 0 ∨ nI 4 ≤ x) {post : Int32 → Prop} (k : post 0) : PX7_isRow x post := by
  by_cases g : x < 0
  · exact pc_t g k
  · exact pc_f g (pc_t (h.resolve_left g) k)
theorem crow_ok {r : Nat} (h : r < 4) {post : Int32 → Prop} (k : post 1) : PX7_isRow (nI r) post := pc_f (nI_lt0 (by omega)) (pc_f (nle (a := 4) h (by decide)) k)
theorem cslot_bad {x : Int32} (h : x < 0 ∨ nI 2 ≤ x) {post : Int32 → Prop} (k : post 0) : PX7_isSlot x post := by
  by_cases g : x < 0
  · exact pc_t g k
  · exact pc_f g (pc_t (h.resolve_left g) k)
theorem cslot_ok {r : Nat} (h : r < 2) {post : Int32 → Prop} (k : post 1) : PX7_isSlot (nI r) post := pc_f (nI_lt0 (by omega)) (pc_f (nle (a := 2) h (by decide)) k)
/-- the one who throws changes nothing but what it says of it -/
def F5 (w w2 : Mem) : Prop := ∀ j, j ≠ 5 → w2 j = w j
theorem F5.hk {w w2 : Mem} (h : F5 w w2) : HK w w2 := fun j hj => h j (by omega)
theorem m_fails {w w1 : Mem} {hs : Int64} (e : w1 = mset w 5 0 0) {x : Int32} {post : Int32 → Mem → Prop} (k : ∀ w2, F5 w w2 → w2 5 0 = x → post 0 w2) : PX8_fails w1 hs x post :=
  fun w2 e2 => k w2 (fun j hj => by rw [e2, mset_o _ _ _ hj, e, mset_o _ _ _ hj]) (by rw [e2, mset_a, upd_a])
theorem c_undo {kc v b : Mem} {r : Nat → Mem} {n : Nat} {S : Nat → Kr} (R : RS b r n S) {post : Int32 → Mem → Mem → Prop} {xp : Nat → Prop} (k0 : n = 0 → xp 2) (k1 : ∀ m, n = m + 1 → ∀ v2 b2, RS b2 r m S → CS v2 (S m) → post (nI m) v2 b2) : PX7_undo_x kc v b r post xp := by
  have h2 : b 2 0 = nI n := by obtain ⟨o, _, _, _, h, _⟩ := R; exact h
  have hn : n ≤ 6 := by obtain ⟨o, _, h, _⟩ := R; exact h
  unfold PX7_undo_x PX4_size
  rw [h2]
  cases n with
  | zero => exact pd_t rfl (k0 rfl)
  | succ m =>
    refine pd_f (nI_ne0 (by omega) (by omega)) (c_popTo R fun b2 v2 R2 C2 => ?_)
    have h3 : b2 2 0 = nI m := by obtain ⟨o, _, _, _, h, _⟩ := R2; exact h
    rw [h3]
    exact k1 m rfl v2 b2 R2 C2
theorem m_undo {w : Mem} {hs : Int64} {n : Nat} {S : Nat → Kr} (V : SV w n S) {post : Int32 → Mem → Prop} (k0 : n = 0 → ∀ w2, F5 w w2 → w2 5 0 = 1 → post 0 w2) (k1 : ∀ m, n = m + 1 → ∀ w2, (∀ j, j ≠ 0 → j ≠ 2 → j ≠ 5 → w2 j = w j) → w2 5 0 = 0 → SV w2 m S → MS (w2 0) (S m) → post (nI m) w2) : PX8_undo w hs post := by
  obtain ⟨hn, h2, hV⟩ := V
  intro w1 e1
  have z2 : w1 2 0 = nI n := by rw [e1, mset_o _ _ _ (by decide)]; exact h2
  rw [z2]
  cases n with
  | zero => exact pd_t rfl (m_fails e1 (k0 rfl))
  | succ m =>
    refine pd_f (nI_ne0 (by omega) (by omega)) fun w3 e3 => ?_
    rw [nI_pred] at e3
    have z3 : w3 2 0 = nI m := by rw [e3, mset_a, upd_a]
    have f3 : ∀ j, j ≠ 2 → j ≠ 5 → w3 j = w j := fun j a b => by rw [e3, mset_o _ _ _ a, e1, mset_o _ _ _ b]
    have hl := hV m (by omega)
    refine ⟨_, m_undo_l (w0 := w3) (n := m) (by omega) z3 (fun w2 f g => k1 m rfl w2 (fun j a b c => ?_) ?_ ⟨by omega, ?_, fun i hi => ?_⟩ ?_) 91 0 w3 (by omega) (fun _ _ => rfl) (fun q h => absurd h (by omega))⟩
    · rw [f j a, f3 j b c]
    · rw [f 5 (by decide), e3, mset_o _ _ _ (by decide), e1, mset_a, upd_a]
    · rw [f 2 (by decide)]; exact z3
    · rw [f 1 (by decide), f3 1 (by decide) (by decide)]; exact hV i (by omega)
    · refine MS_cg hl.2 hl.1 fun q hq => ?_
      rw [g q hq, f3 1 (by decide) (by decide)]
theorem c_keep_bad {kc v : Mem} {sl : Nat → Mem} {x : Int32} (h : x < 0 ∨ nI 2 ≤ x) {post : Int32 → Mem → (Nat → Mem) → Prop} {xp : Nat → Prop} (k : xp 1) : PX7_keep_x kc v sl x post xp := cslot_bad h (pd_t rfl k)
theorem c_keep {kc v : Mem} {sl : Nat → Mem} {kp : Nat → Bool} {T : Nat → Kr} {K : Kr} (L : SLC kc sl kp T) (C : CS v K) (W : WF K) {s : Nat} (hs : s < 2) {post : Int32 → Mem → (Nat → Mem) → Prop} {xp : Nat → Prop} (k : ∀ kc2 sl2, SLC kc2 sl2 (fup kp s true) (fup T s K) → post (nI K.np) kc2 sl2) : PX7_keep_x kc v sl (nI s) post xp := by
  refine cslot_ok hs (pd_f i10 ?_)
  rw [ix_nI (show s < 2 ^ 31 by omega)]
  refine ⟨in_nI hs (by decide), c_copyFrom C W fun v2 C2 sl15 e15 => ⟨in_nI hs (by decide), fun kc17 e17 => ?_⟩⟩
  unfold PX5_people
  rw [C.1.1]
  refine k kc17 sl15 fun t ht => ?_
  rw [e17, e15, mset_a]
  by_cases e : t = s
  · subst e
    rw [upd_a, fup_a, fup_a]
    refine ⟨rfl, fun _ => ?_⟩
    show CS (rset sl t v2 t) K ∧ WF K
    rw [show rset sl t v2 t = v2 from if_pos rfl]
    exact ⟨C2, W⟩
  · rw [upd_o _ _ e, fup_o _ _ e, fup_o _ _ e]
    refine ⟨(L t ht).1, fun h => ?_⟩
    rw [show rset sl s v2 t = sl t from if_neg e]
    exact (L t ht).2 h
theorem m_keep_bad {w : Mem} {hs : Int64} {x : Int32} (h : x < 0 ∨ nI 2 ≤ x) {post : Int32 → Mem → Prop} (k : ∀ w2, F5 w w2 → w2 5 0 = 1 → post 0 w2) : PX8_keep w hs x post :=
  fun _ e1 => in_bad (b := 1) (by decide) h (pd_t rfl (m_fails e1 k))
theorem m_keep {w : Mem} {hs : Int64} {kp : Nat → Bool} {T : Nat → Kr} {K : Kr} (L : SLM w kp T) (M : MS (w 0) K) (W : WF K) {s : Nat} (hs2 : s < 2) {post : Int32 → Mem → Prop} (k : ∀ w2, (∀ j, j ≠ 3 → j ≠ 4 → j ≠ 5 → w2 j = w j) → w2 5 0 = 0 → SLM w2 (fup kp s true) (fup T s K) → post (nI K.np) w2) : PX8_keep w hs (nI s) post := by
  intro w1 e1
  have f1 : ∀ j, j ≠ 5 → w1 j = w j := fun j a => by rw [e1, mset_o _ _ _ a]
  refine in_ok (b := 1) (by omega) (by decide) (pd_f i10 ⟨_, m_keep_l (w0 := w1) hs2 (fun w2 f g4 g3 => ?_) 91 0 w1 (by omega) (fun _ _ => rfl) (fun q => by rw [if_neg (by omega)])⟩)
  rw [f1 0 (by decide), M.1.1]
  refine k w2 (fun j a b c => by rw [f j a b, f1 j c]) (by rw [f 5 (by decide) (by decide), e1, mset_a, upd_a]) fun t ht => ?_
  rw [g4, f1 4 (by decide)]
  by_cases e : t = s
  · subst e
    rw [upd_a, fup_a, fup_a]
    refine ⟨rfl, fun _ => ⟨MS_cg W M fun q hq => ?_, W⟩⟩
    show w2 3 (91 * t + q) = _
    rw [g3, if_pos (by omega), f1 0 (by decide), show 91 * t + q - 91 * t = q by omega]
  · rw [upd_o _ _ e, fup_o _ _ e, fup_o _ _ e]
    refine ⟨(L t ht).1, fun h => ?_⟩
    have l := (L t ht).2 h
    refine ⟨MS_cg l.2 l.1 fun q hq => ?_, l.2⟩
    show w2 3 (91 * t + q) = w 3 (91 * t + q)
    rw [g3, if_neg (by omega), f1 3 (by decide)]
theorem c_goBack_bad {kc v b : Mem} {sl r : Nat → Mem} {x : Int32} (h : x < 0 ∨ nI 2 ≤ x) {post : Int32 → Mem → Mem → (Nat → Mem) → Prop} {xp : Nat → Prop} (k : xp 1) : PX7_goBack_x kc v sl b r x post xp := cslot_bad h (pd_t rfl k)
theorem c_goBack {kc v b : Mem} {sl r : Nat → Mem} {kp : Nat → Bool} {T : Nat → Kr} {K : Kr} {n : Nat} {S : Nat → Kr} (L : SLC kc sl kp T) (R : RS b r n S) (C : CS v K) (W : WF K) {s : Nat} (hs : s < 2) {post : Int32 → Mem → Mem → (Nat → Mem) → Prop} {xp : Nat → Prop} (k0 : kp s = false → xp 2) (k1 : kp s = true → ∀ v2 b2 r2, CS v2 (T s) → RS b2 r2 (if n < 6 then n + 1 else 6) (psh n S K) → post (nI (T s).np) v2 b2 r2) : PX7_goBack_x kc v sl b r (nI s) post xp := by
  have l := L s hs
  refine cslot_ok hs (pd_f i10 ?_)
  rw [ix_nI (show s < 2 ^ 31 by omega), l.1]
  refine ⟨in_nI hs (by decide), ?_⟩
  cases h : kp s with
  | false => exact pd_t rfl (k0 h)
  | true =>
    refine pd_f i10 (c_push R C W fun b2 r2 R2 => ⟨in_nI hs (by decide), c_copyFrom (l.2 h).1 (l.2 h).2 fun v2 C2 => ?_⟩)
    unfold PX5_people
    rw [C2.1.1]
    exact k1 h v2 b2 r2 C2 R2
theorem m_goBack_bad {w : Mem} {hs : Int64} {x : Int32} (h : x < 0 ∨ nI 2 ≤ x) {post : Int32 → Mem → Prop} (k : ∀ w2, F5 w w2 → w2 5 0 = 1 → post 0 w2) : PX8_goBack w hs x post :=
  fun _ e1 => in_bad (b := 1) (by decide) h (pd_t rfl (m_fails e1 k))
theorem m_goBack {w : Mem} {hs : Int64} {kp : Nat → Bool} {T : Nat → Kr} {K : Kr} {n : Nat} {S : Nat → Kr} (L : SLM w kp T) (V : SV w n S) (M : MS (w 0) K) (W : WF K) {s : Nat} (hs2 : s < 2) {post : Int32 → Mem → Prop} (k0 : kp s = false → ∀ w2, F5 w w2 → w2 5 0 = 2 → post 0 w2) (k1 : kp s = true → ∀ w2, (∀ j, j ≠ 0 → j ≠ 1 → j ≠ 2 → j ≠ 5 → w2 j = w j) → w2 5 0 = 0 → SV w2 (if n < 6 then n + 1 else 6) (psh n S K) → MS (w2 0) (T s) → post (nI (T s).np) w2) : PX8_goBack w hs (nI s) post := by
  intro w1 e1
  have f1 : ∀ j, j ≠ 5 → w1 j = w j := fun j a => by rw [e1, mset_o _ _ _ a]
  have l := L s hs2
  refine in_ok (b := 1) (by omega) (by decide) (pd_f i10 ?_)
  rw [ix_nI (show s < 2 ^ 31 by omega), f1 4 (by decide), l.1]
  refine ⟨in_nI hs2 (by decide), ?_⟩
  cases h : kp s with
  | false => exact pd_t rfl (m_fails e1 (k0 h))
  | true =>
    have lm := l.2 h
    refine pd_f i10 (m_save (V.cg (f1 1 (by decide)) (f1 2 (by decide))) (by rw [f1 0 (by decide)]; exact M) W fun w8 f8 V8 => ⟨_, m_goBack_l (w0 := w8) hs2 (fun w2 f g => ?_) 91 0 w8 (by omega) (fun _ _ => rfl) (fun q h => absurd h (by omega))⟩)
    have z3 : w8 3 = w 3 := by rw [f8 3 (by decide) (by decide), f1 3 (by decide)]
    have m3 := lm.1.1.1
    rw [z3]
    have m3' : w 3 (91 * s) = nI (T s).np := m3
    rw [m3']
    refine k1 h w2 (fun j a b c d => by rw [f j a, f8 j b c, f1 j d]) (by rw [f 5 (by decide), f8 5 (by decide) (by decide), e1, mset_a, upd_a]) (V8.cg (f 1 (by decide)) (f 2 (by decide))) (MS_cg lm.2 lm.1 fun q hq => ?_)
    rw [g q hq, z3]
