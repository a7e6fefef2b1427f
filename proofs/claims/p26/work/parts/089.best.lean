theorem trs2 (K : Kr) (r a b : Nat) : (K.setO r (fun k => K.od r (trs a b k))).setO r (fun k => (K.setO r (fun k => K.od r (trs a b k))).od r (trs a b k)) = K := by
  rw [setO_setO, setO_od]
  have : (fun k => K.od r (trs a b (trs a b k))) = K.od r := funext fun k => by rw [trs_trs]
  show K.setO r (fun k => K.od r (trs a b (trs a b k))) = K
  rw [this, setO_self]
/-- all crossings, were the two at places q and q + 1 exchanged -/
def Kr.xs (K : Kr) (r q : Nat) : Nat := (K.setO r (fun k => K.od r (trs q (q + 1) k))).XA
def bst (K : Kr) (r q : Nat) (s : Nat × Int32) : Nat × Int32 := if K.xs r q < s.1 then (K.xs r q, nI (10 * r + q)) else s
def bsR (K : Kr) (r : Nat) : Nat → Nat × Int32 → Nat × Int32
  | 0, s => s
  | q + 1, s => bst K r q (bsR K r q s)
def bsA (K : Kr) : Nat → Nat × Int32
  | 0 => (K.XA, -1)
  | r + 1 => bsR K r (K.sz r - 1) (bsA K r)
theorem XA_le {K : Kr} (W : WF K) : K.XA ≤ 144 := by
  have := sm_le_mul (f := K.X) (k := 36) (n := 4) (fun r hr => X_le W hr)
  unfold Kr.XA; omega
theorem xs_le {K : Kr} (W : WF K) {r q : Nat} (hr : r < 4) (hq : q + 1 < K.sz r) : K.xs r q ≤ 144 := XA_le (setO_wf W (isO_trs (isO_od W hr) (show q < K.sz r by omega) hq))
theorem bsR_le {K : Kr} (W : WF K) {r : Nat} (hr : r < 4) {s : Nat × Int32} (hs : s.1 ≤ 144) : ∀ q, q ≤ K.sz r - 1 → (bsR K r q s).1 ≤ 144
  | 0, _ => hs
  | q + 1, h => by
    have h1 := bsR_le W hr hs q (by omega)
    have h2 := xs_le W hr (q := q) (by omega)
    unfold bsR bst
    split
    · exact h2
    · exact h1
theorem bsA_le {K : Kr} (W : WF K) : ∀ r, r ≤ 4 → (bsA K r).1 ≤ 144
  | 0, _ => XA_le W
  | r + 1, h => bsR_le W (by omega) (bsA_le W r (by omega)) _ (Nat.le_refl _)
theorem szm_le {s i : Nat} (hs : s ≤ 6) (hi : i < 2 ^ 31) (h : s ≤ i + 1) : nI s - 1 ≤ nI i := by
  rcases Nat.eq_zero_or_pos s with e | e
  · rw [e]
    exact Int32.le_trans (show (nI 0 - 1 : Int32) ≤ 0 by decide) (nI_pos' hi)
  · obtain ⟨n, rfl⟩ : ∃ n, s = n + 1 := ⟨s - 1, by omega⟩
    rw [nI_pred]; exact nI_le (by omega) hi
theorem szm_gt {s i : Nat} (hs : s ≤ 6) (h : i + 1 < s) : ¬ nI s - 1 ≤ nI i := by
  obtain ⟨n, rfl⟩ : ∃ n, s = n + 1 := ⟨s - 1, by omega⟩
  rw [nI_pred]; exact nle (by omega) (by omega)
theorem c_best_in {kc : Mem} {K : Kr} (W : WF K) {r : Nat} (hr : r < 4) {s : Nat × Int32} (hs : s.1 ≤ 144) {post : Int32 → Mem → Mem → Prop} {K9 : Mem → Mem → Int32 → Int32 → Int32 → Prop} (k : ∀ v y, CS v K → K9 v y (nI (bsR K r (K.sz r - 1) s).1) (bsR K r (K.sz r - 1) s).2 (nI (r + 1))) : ∀ (d q : Nat) (v y : Mem), q + d = K.sz r - 1 → CS v K → PX7_bestSwap_17 kc post K9 (d + 1) v y (nI (bsR K r q s).1) (bsR K r q s).2 (nI r) (nI q) := by
  have h6 := W.sz6 hr
  intro d
  induction d with
  | zero =>
    intro q v y hq C
    unfold PX7_bestSwap_17
    rw [nI_1 r]
    refine c_sizeOf C hr (pc_t (szm_le (by omega) (by omega) (by omega)) ?_)
    rw [show q = K.sz r - 1 by omega]; exact k v y C
  | succ d ih =>
    intro q v y hq C
    have hq2 : q + 1 < K.sz r := by omega
    have hO := isO_trs (isO_od W hr) (show q < K.sz r by omega) hq2
    have W2 := setO_wf W hO
    have hb := bsR_le W hr hs q (by omega)
    have hx := xs_le W hr hq2
    have hd : bsR K r (q + 1) s = bst K r q (bsR K r q s) := rfl
    unfold PX7_bestSwap_17
    refine c_sizeOf C hr (pc_f (szm_gt (by omega) (by omega)) (c_exchange C W hr hq2 fun v9 C9 => c_allCrossings C9 W2 fun y12 => c_exchange C9 W2 hr hq2 fun v14 C14 => ?_))
    rw [trs2] at C14
    have e := ih (q + 1) v14 y12 (by omega) C14
    rw [hd] at e
    rw [nI_1]
    show (nI (bsR K r q s).1 ≤ nI (K.xs r q) → _) ∧ (¬ nI (bsR K r q s).1 ≤ nI (K.xs r q) → _)
    by_cases h : K.xs r q < (bsR K r q s).1
    · rw [show bst K r q (bsR K r q s) = (K.xs r q, nI (10 * r + q)) from if_pos h] at e
      refine pc_f (nle h (by omega)) fun q16 e16 => ?_
      rw [e16, n10I, pk_mul, nI_add]; exact e
    · rw [show bst K r q (bsR K r q s) = bsR K r q s from if_neg h] at e
      exact pc_t (nI_leq (by omega) (by omega) h) e
theorem c_best_out {kc : Mem} {K : Kr} (W : WF K) {post : Int32 → Mem → Mem → Prop} (k : ∀ v y, CS v K → post (bsA K 4).2 v y) : ∀ (d r : Nat) (v y : Mem), r + d = 4 → CS v K → PX7_bestSwap_9 kc post (d + 1) v y (nI (bsA K r).1) (bsA K r).2 (nI r) := by
  intro d
  induction d with
  | zero =>
    intro r v y hr C
    unfold PX7_bestSwap_9
    rw [show r = 4 by omega]
    exact pc_t (by decide) (k v y C)
  | succ d ih =>
    intro r v y hr C
    unfold PX7_bestSwap_9
    rw [n4I]
    exact pc_f (nle (by omega) (by omega)) ⟨_, c_best_in W (by omega) (bsA_le W r (by omega)) (fun v2 y2 C2 => ih (r + 1) v2 y2 (by omega) C2) (K.sz r - 1) 0 v y (by omega) C⟩
theorem c_bestSwap {kc v y : Mem} {K : Kr} (C : CS v K) (W : WF K) {post : Int32 → Mem → Mem → Prop} (k : ∀ v y, CS v K → post (bsA K 4).2 v y) : PX7_bestSwap kc v y post :=
  c_allCrossings C W fun y3 => ⟨_, c_best_out W k 4 0 v y3 (by omega) C⟩
/-- all but the row of numbers and the drawn lines stays -/
def FR9 (w w2 : Mem) : Prop := ∀ j, j ≠ 0 → j ≠ 6 → j ≠ 7 → j ≠ 8 → w2 j = w j
theorem FR9.rf (w : Mem) : FR9 w w := fun _ _ _ _ _ => rfl
theorem FR9.tr {a b c : Mem} (h : FR9 a b) (g : FR9 b c) : FR9 a c := fun j x y z t => (g j x y z t).trans (h j x y z t)
theorem FR.to9 {a b : Mem} (h : FR a b) : FR9 a b := fun j _ x y z => h j x y z
theorem FR0.to9 {a b : Mem} (h : FR0 a b) : FR9 a b := fun j x _ _ _ => h j x
