/-- the row's people in another order -/
def Kr.setO (K : Kr) (r : Nat) (o : Nat → Nat) : Kr := (K.np, K.nc, K.rf, K.row, K.par, K.lo, K.hi, K.sz, fup K.od r o)
def isO (K : Kr) (r : Nat) (o : Nat → Nat) : Prop := (∀ k, k < K.sz r → o k < K.np ∧ K.row (o k) = r) ∧ (∀ i j, i < K.sz r → j < K.sz r → o i = o j → i = j) ∧ ∀ p, p < K.np → K.row p = r → ∃ k, k < K.sz r ∧ o k = p
theorem isO_od {K : Kr} (W : WF K) {r : Nat} (hr : r < 4) : isO K r (K.od r) := ⟨fun k hk => W.2.2.1 r k hr hk, W.2.2.2.1 r hr, fun p hp e => by have h := W.pl_sz hp; rw [e] at h; exact ⟨_, h⟩⟩
theorem setO_wf {K : Kr} (W : WF K) {r : Nat} {o : Nat → Nat} (h : isO K r o) : WF (K.setO r o) := by
  have e9 : (K.setO r o).od = fup K.od r o := rfl
  refine ⟨W.1, fun p hp => ?_, fun r' k hr' hk => ?_, fun r' hr' i j hi hj he => ?_, W.2.2.2.2.1, W.2.2.2.2.2.1, W.2.2.2.2.2.2⟩
  · refine ⟨W.row4 hp, ?_⟩
    show ∃ k, k < K.sz (K.row p) ∧ fup K.od r o (K.row p) k = p
    by_cases e : K.row p = r
    · rw [e, fup_a]; exact h.2.2 p hp e
    · rw [fup_o _ _ e]; exact (W.2.1 p hp).2
  · show fup K.od r o r' k < K.np ∧ K.row (fup K.od r o r' k) = r'
    by_cases e : r' = r
    · subst e; rw [fup_a]; exact h.1 k hk
    · rw [fup_o _ _ e]; exact W.2.2.1 r' k hr' hk
  · have he2 : fup K.od r o r' i = fup K.od r o r' j := he
    by_cases e : r' = r
    · subst e; rw [fup_a] at he2; exact h.2.1 i j hi hj he2
    · rw [fup_o _ _ e] at he2; exact W.2.2.2.1 r' hr' i j hi hj he2
theorem setO_od (K : Kr) (r : Nat) (o : Nat → Nat) : (K.setO r o).od r = o := fup_a _ _ _
theorem setO_pl {K : Kr} {r : Nat} {o : Nat → Nat} {p : Nat} (h : K.row p ≠ r) : (K.setO r o).pl p = K.pl p := by
  show plOf (fup K.od r o (K.row p)) p = _
  rw [fup_o _ _ h]; rfl
theorem setO_plo {K : Kr} (W : WF K) {r : Nat} {o : Nat → Nat} (h : isO K r o) (hr : r < 4) {k : Nat} (hk : k < K.sz r) : (K.setO r o).pl (o k) = k := by
  have := (setO_wf W h).pl_od hr (k := k) hk
  rw [setO_od] at this
  exact this
theorem setO_self {K : Kr} {r : Nat} : K.setO r (K.od r) = K := by
  have : fup K.od r (K.od r) = K.od := funext fun j => by
    by_cases e : j = r
    · subst e; rw [fup_a]
    · rw [fup_o _ _ e]
  show (K.np, K.nc, K.rf, K.row, K.par, K.lo, K.hi, K.sz, fup K.od r (K.od r)) = K
  rw [this]; rfl
theorem setO_setO (K : Kr) (r : Nat) (o o2 : Nat → Nat) : (K.setO r o).setO r o2 = K.setO r o2 := by
  have : fup (fup K.od r o) r o2 = fup K.od r o2 := funext fun j => by
    by_cases e : j = r
    · subst e; rw [fup_a, fup_a]
    · rw [fup_o _ _ e, fup_o _ _ e, fup_o _ _ e]
  show (K.np, K.nc, K.rf, K.row, K.par, K.lo, K.hi, K.sz, fup (fup K.od r o) r o2) = _
  rw [this]; rfl
def trs (a b k : Nat) : Nat := if k = a then b else if k = b then a else k
theorem trs_a (a b : Nat) : trs a b a = b := if_pos rfl
theorem trs_b (a b : Nat) : trs a b b = a := by
  unfold trs
  by_cases h : b = a
  · rw [if_pos h, h]
  · rw [if_neg h, if_pos rfl]
theorem trs_o {a b k : Nat} (h : k ≠ a) (g : k ≠ b) : trs a b k = k := by unfold trs; rw [if_neg h, if_neg g]
theorem trs_lt {a b k n : Nat} (ha : a < n) (hb : b < n) (hk : k < n) : trs a b k < n := by
  unfold trs
  split
  · exact hb
  · split
    · exact ha
    · exact hk
theorem trs_trs (a b k : Nat) : trs a b (trs a b k) = k := by
  by_cases h : k = a
  · subst h; rw [trs_a, trs_b]
  · by_cases g : k = b
    · subst g; rw [trs_b, trs_a]
    · rw [trs_o h g, trs_o h g]
theorem isO_trs {K : Kr} {r a b : Nat} {o : Nat → Nat} (h : isO K r o) (ha : a < K.sz r) (hb : b < K.sz r) : isO K r (fun k => o (trs a b k)) := by
  refine ⟨fun k hk => h.1 _ (trs_lt ha hb hk), fun i j hi hj e => ?_, fun p hp e => ?_⟩
  · have := h.2.1 _ _ (trs_lt ha hb hi) (trs_lt ha hb hj) e
    have h2 := congrArg (trs a b) this
    rw [trs_trs, trs_trs] at h2
    exact h2
  · obtain ⟨k, h1, h2⟩ := h.2.2 p hp e
    exact ⟨trs a b k, trs_lt ha hb h1, by show o (trs a b (trs a b k)) = p; rw [trs_trs]; exact h2⟩
theorem c_lay {v : Mem} {np sz r q p : Nat} (h7 : v 7 0 = nI np) (h6 : v 6 r = nI sz) (hr : r < 4) (hq : q < sz) (hs : sz ≤ 6) (hp : p < np) (hn : np ≤ 20) {post : Mem → Prop} (k : post (mset (mset v 5 (6 * r + q) (nI p)) 1 p (nI q))) : PX5_lay v (nI r) (nI q) (nI p) post := by
  unfold PX5_lay PX5_isPerson PX5_sizeOf
  rw [h7]
  refine pc_f (nI_lt0 (by omega)) (pc_f (nle (by omega) (by omega)) (pc_f i10 (pc_f (nI_lt0 (by omega)) (pc_f (nI_lt0 (by omega)) ?_))))
  rw [n4I]
  refine pc_f (nle (by omega) (by omega)) ⟨in_nI hr (by omega), ?_⟩
  rw [ix_nI (show r < 2 ^ 31 by omega), h6, n6I, pk_mul, nI_add, ix_nI (show r * 6 + q < 2 ^ 31 by omega), ix_nI (show p < 2 ^ 31 by omega), show r * 6 + q = 6 * r + q by omega]
  refine pc_f (nle (by omega) (by omega)) ⟨in_nI (by omega) (by omega), fun w9 g9 => ⟨in_nI (by omega) (by omega), fun w11 g11 => ?_⟩⟩
  rw [g11, g9]; exact k
theorem c_exchange {v : Mem} {K : Kr} (C : CS v K) (W : WF K) {r q : Nat} (hr : r < 4) (hq : q + 1 < K.sz r) {post : Mem → Prop} (k : ∀ v2, CS v2 (K.setO r (fun k => K.od r (trs q (q + 1) k))) → post v2) : PX5_exchange v (nI r) (nI q) post := by
  have h6 := W.sz6 hr
  have hn := W.np20
  have ha := W.od_lt hr (show q < K.sz r by omega)
  have hb := W.od_lt hr hq
  have hne : K.od r q ≠ K.od r (q + 1) := fun e => by have := W.2.2.2.1 r hr q (q + 1) (by omega) hq e; omega
  have hO := isO_trs (isO_od W hr) (show q < K.sz r by omega) hq
  unfold PX5_exchange
  rw [nI_1]
  refine c_personAt C W hr (by omega) (c_personAt C W hr hq (pc_f (nI_ne_m1 (by omega)) (pc_f (nI_ne_m1 (by omega)) ?_)))
  refine c_lay (np := K.np) (sz := K.sz r) C.1.1 (C.2.2.2.1 r hr) hr (by omega) h6 hb hn ?_
  refine c_lay (np := K.np) (sz := K.sz r) ?_ ?_ hr hq h6 ha hn (k _ ?_)
  · rw [mset_o _ _ _ (by decide), mset_o _ _ _ (by decide)]; exact C.1.1
  · rw [mset_o _ _ _ (by decide), mset_o _ _ _ (by decide)]; exact C.2.2.2.1 r hr
  generalize hv : mset (mset (mset (mset v 5 (6 * r + q) (nI (K.od r (q + 1)))) 1 (K.od r (q + 1)) (nI q)) 5 (6 * r + (q + 1)) (nI (K.od r q))) 1 (K.od r q) (nI (q + 1)) = v2
  have r5 : v2 5 = upd (upd (v 5) (6 * r + q) (nI (K.od r (q + 1)))) (6 * r + (q + 1)) (nI (K.od r q)) := by rw [← hv, mset_o _ _ _ (by decide), mset_a, mset_o _ _ _ (by decide), mset_a]
  have r1 : v2 1 = upd (upd (v 1) (K.od r (q + 1)) (nI q)) (K.od r q) (nI (q + 1)) := by rw [← hv, mset_a, mset_o _ _ _ (by decide), mset_a, mset_o _ _ _ (by decide)]
  have rr : ∀ j, j ≠ 5 → j ≠ 1 → v2 j = v j := fun j a b => by rw [← hv, mset_o _ _ _ b, mset_o _ _ _ a, mset_o _ _ _ b, mset_o _ _ _ a]
  refine ⟨⟨?_, ?_, ?_⟩, fun p hp => ?_, fun c hc => ?_, fun r' hr' => ?_, fun r' i hr' hi => ?_⟩
  · rw [rr 7 (by decide) (by decide)]; exact C.1.1
  · rw [rr 8 (by decide) (by decide)]; exact C.1.2.1
  · rw [rr 9 (by decide) (by decide)]; exact C.1.2.2
  · rw [rr 0 (by decide) (by decide), rr 2 (by decide) (by decide), r1]
    have c4 := C.2.1 p hp
    refine ⟨c4.1, ?_, c4.2.2⟩
    by_cases e1 : p = K.od r q
    · have := setO_plo W hO hr (k := q + 1) hq
      rw [trs_b, ← e1] at this
      rw [this, e1, upd_a]
    · rw [upd_o _ _ e1]
      by_cases e2 : p = K.od r (q + 1)
      · have := setO_plo W hO hr (k := q) (by omega)
        rw [trs_a, ← e2] at this
        rw [this, e2, upd_a]
      · rw [upd_o _ _ e2, c4.2.1]
        by_cases e3 : K.row p = r
        · have h2 := W.pl_sz hp
          rw [e3] at h2
          have hk1 : K.pl p ≠ q := fun e => e1 (by rw [e] at h2; exact h2.2.symm)
          have hk2 : K.pl p ≠ q + 1 := fun e => e2 (by rw [e] at h2; exact h2.2.symm)
          have := setO_plo W hO hr (k := K.pl p) h2.1
          rw [trs_o hk1 hk2, h2.2] at this
          rw [this]
        · rw [setO_pl e3]
  · rw [rr 3 (by decide) (by decide), rr 4 (by decide) (by decide)]; exact C.2.2.1 c hc
  · rw [rr 6 (by decide) (by decide)]; exact C.2.2.2.1 r' hr'
  · rw [r5]
    show _ = nI (fup K.od r (fun k => K.od r (trs q (q + 1) k)) r' i)
    have hi' : i < K.sz r' := hi
    have h6' := W.sz6 hr'
    by_cases e : r' = r
    · subst e
      rw [fup_a]
      by_cases e1 : i = q + 1
      · subst e1; rw [upd_a, trs_b]
      · rw [upd_o _ _ (by omega)]
        by_cases e2 : i = q
        · subst e2; rw [upd_a, trs_a]
        · rw [upd_o _ _ (by omega), trs_o e2 e1]; exact C.2.2.2.2 r' i hr' hi'
    · rw [fup_o _ _ e, upd_o _ _ (by omega), upd_o _ _ (by omega)]; exact C.2.2.2.2 r' i hr' hi'
theorem MS_trs {f : Nat → Int32} {K : Kr} (M : MS f K) (W : WF K) {r a b : Nat} (hr : r < 4) (ha : a < K.sz r) (hb : b < K.sz r) : MS (upd (upd f (67 + 6 * r + a) (f (67 + 6 * r + b))) (67 + 6 * r + b) (f (67 + 6 * r + a))) (K.setO r (fun k => K.od r (trs a b k))) := by
  have hn := W.np20
  have hc := W.nc10
  have h6 := W.sz6 hr
  have g : ∀ i x, i ≠ 67 + 6 * r + b → i ≠ 67 + 6 * r + a → f i = x → upd (upd f (67 + 6 * r + a) (f (67 + 6 * r + b))) (67 + 6 * r + b) (f (67 + 6 * r + a)) i = x := fun i x h1 h2 h3 => by rw [upd_o _ _ h1, upd_o _ _ h2]; exact h3
  refine ⟨⟨g 0 _ (by omega) (by omega) M.1.1, g 1 _ (by omega) (by omega) M.1.2.1, g 2 _ (by omega) (by omega) M.1.2.2⟩, fun p hp => ?_, fun c hcc => ?_, fun r' hr' => g _ _ (by omega) (by omega) (M.2.2.2.1 r' hr'), fun r' i hr' hi => ?_⟩
  · have hp2 : p < K.np := hp
    have m := M.2.1 p hp
    exact ⟨g _ _ (by omega) (by omega) m.1, g _ _ (by omega) (by omega) m.2⟩
  · have hc2 : c < K.nc := hcc
    have m := M.2.2.1 c hcc
    exact ⟨g _ _ (by omega) (by omega) m.1, g _ _ (by omega) (by omega) m.2⟩
  · have hi' : i < K.sz r' := hi
    have h6' := W.sz6 hr'
    show _ = nI (fup K.od r (fun k => K.od r (trs a b k)) r' i)
    by_cases e : r' = r
    · subst e
      rw [fup_a]
      by_cases e1 : i = b
      · subst e1; rw [upd_a, trs_b]; exact M.2.2.2.2 r' a hr' ha
      · rw [upd_o _ _ (by omega)]
        by_cases e2 : i = a
        · subst e2; rw [upd_a, trs_a]; exact M.2.2.2.2 r' b hr' hb
        · rw [upd_o _ _ (by omega), trs_o e2 e1]; exact M.2.2.2.2 r' i hr' hi'
    · rw [fup_o _ _ e]; exact g _ _ (by omega) (by omega) (M.2.2.2.2 r' i hr' hi')
