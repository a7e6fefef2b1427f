/-! the law's best order of a row -/
theorem rQ_set {aq aq2 : Mem} {K : Kr} (Q : rQ aq K) (W : WF K) {r : Nat} (hr : r < 4) {o : Nat → Nat} (h1 : ∀ j, ¬ (6 * r ≤ j ∧ j < 6 * r + K.sz r) → aq2 0 j = aq 0 j) (h2 : ∀ k, k < K.sz r → aq2 0 (6 * r + k) = nI (o k)) : rQ aq2 (K.setO r o) := by
  have h6 := W.sz6 hr
  intro r' k hr' hk
  have hk' : k < K.sz r' := hk
  have h6' := W.sz6 hr'
  show aq2 0 (6 * r' + k) = nI (fup K.od r o r' k)
  by_cases y : r' = r
  · subst y
    rw [fup_a]; exact h2 k hk'
  · rw [fup_o _ _ y, h1 _ (by omega)]; exact Q r' k hr' hk'
theorem rQ_row {aq : Mem} {K : Kr} {r : Nat} {o : Nat → Nat} (Q : rQ aq (K.setO r o)) (hr : r < 4) : ∀ q, q < K.sz r → aq 0 (6 * r + q) = nI (o q) := fun q hq => by
  have m := Q r q hr hq
  rw [setO_od] at m; exact m
theorem rQ_cg {aq aq2 : Mem} {K : Kr} (Q : rQ aq K) (W : WF K) (h : ∀ i, i < 24 → aq2 0 i = aq 0 i) : rQ aq2 K := fun r k hr hk => by
  have h6 := W.sz6 hr
  rw [h _ (by omega)]; exact Q r k hr hk
theorem setO_srt (K : Kr) (r : Nat) (o : Nat → Nat) : (K.setO r o).srt r = K.srt r := rfl
abbrev acQ (f : List Nat → Nat) : Option (Nat × List Nat) → List Nat → Option (Nat × List Nat) := ac f
/-- what is held while all orders are tried -/
def bS (K : Kr) (r n t b l : Nat) : Option (Nat × List Nat) → Prop
  | none => b = 0 ∧ l = 999
  | some q => b < t ∧ (PM n)[b]? = some q.2 ∧ l = q.1 ∧ q.1 ≤ 72
theorem l_best_l {ap ac aq an : Mem} {K : Kr} (P : rP ap K) (C : rC ac K) (N : rN an K) (W : WF K) {r : Nat} (hr : r < 4) {post : Int32 → Prop} (k : ∀ b, b < fct (K.sz r) → (PM (K.sz r))[b]? = some (K.lst r).2 → post (nI b)) : ∀ (d t b l : Nat) (ar : Mem) (o : Nat → Nat), t + d = fct (K.sz r) → isO K r o → rQ ar (K.setO r o) → bS K r (K.sz r) t b l (((PM (K.sz r)).take t).foldl (acQ (K.fY r)) none) → PL_best_53 ap ac aq an post (d + 1) ar (nI r) (nI (fct (K.sz r))) (nI b) (nI l) (nI t) := by
  have h6 := W.sz6 hr
  have f := fct_le (K.sz r) (by omega)
  have hS := lst_f W hr
  intro d
  induction d with
  | zero =>
    intro t b l ar o ht O Q hb
    have et : t = (PM (K.sz r)).length := by rw [PM_len h6]; omega
    unfold PL_best_53
    refine pc_t (nle' (by omega) (by omega)) ?_
    rw [et, List.take_length] at hb
    have hb' : bS K r (K.sz r) (PM (K.sz r)).length b l (some (K.lst r)) := by rw [← hS.1]; exact hb
    exact k b (by have := hb'.1; rw [PM_len h6] at this; exact this) hb'.2.1
  | succ d ih =>
    intro t b l ar o ht O Q hb
    have ht2 : t < fct (K.sz r) := by omega
    have eL := PM_at h6 ht2
    obtain ⟨L, hL⟩ : ∃ L, L = dc (K.sz r) (2 ^ K.sz r - 1) t := ⟨_, rfl⟩
    rw [← hL] at eL
    have hmem : L ∈ PM (K.sz r) := List.mem_of_getElem? eL
    obtain ⟨t0, -, -, -, hgd⟩ := PM_f h6
    have O2 := OL_isO (srt_isO W hr) (hgd L hmem)
    have W2 := setO_wf W O2
    have WO := setO_wf W O
    unfold PL_best_53
    refine pc_f (nle ht2 (by omega)) (l_lays (K := K) N W hr O (rQ_row Q hr) ht2 fun ar7 h1 h2 => ?_)
    rw [← hL] at h2
    have Q7 : rQ ar7 (K.setO r (OL (K.srt r) L)) := by
      have q := rQ_set (K := K.setO r o) Q WO hr h1 h2
      rw [setO_setO] at q; exact q
    refine l_ofTwo (K := K.setO r (OL (K.srt r) L)) P C Q7 N W2 hr ?_
    have hY : K.fY r L ≤ 72 := Yo_le W hr O2
    have ey : (K.setO r (OL (K.srt r) L)).X r + (if r < 3 then (K.setO r (OL (K.srt r) L)).X (r + 1) else 0) = K.fY r L := rfl
    rw [ey]
    have etk : ((PM (K.sz r)).take (t + 1)).foldl (acQ (K.fY r)) none = acQ (K.fY r) (((PM (K.sz r)).take t).foldl (acQ (K.fY r)) none) L := by
      rw [List.take_succ, eL, List.foldl_append]; rfl
    have go : ∀ b2 l2, bS K r (K.sz r) (t + 1) b2 l2 (acQ (K.fY r) (((PM (K.sz r)).take t).foldl (acQ (K.fY r)) none) L) → PL_best_53 ap ac aq an post (d + 1) ar7 (nI r) (nI (fct (K.sz r))) (nI b2) (nI l2) (nI (t + 1)) := fun b2 l2 h => ih (t + 1) b2 l2 ar7 _ (by omega) O2 Q7 (by rw [etk]; exact h)
    cases e : ((PM (K.sz r)).take t).foldl (acQ (K.fY r)) none with
    | none =>
      rw [e] at hb go
      obtain ⟨rfl, rfl⟩ := hb
      unfold PL_best_96
      rw [nI_1]
      refine pc_f (nle (by omega) (by omega)) (pc_f (nle (by omega) (by omega)) (go t (K.fY r L) ⟨by omega, eL, rfl, hY⟩))
    | some q =>
      rw [e] at hb go
      obtain ⟨g1, g2, g3, g4⟩ := hb
      unfold PL_best_96
      rw [nI_1]
      by_cases c : K.fY r L < q.1
      · have hac : acQ (K.fY r) (some q) L = some (K.fY r L, L) := if_pos c
        rw [hac] at go
        exact pc_f (nle (by omega) (by omega)) (pc_f (nle (by omega) (by omega)) (go t (K.fY r L) ⟨by omega, eL, rfl, hY⟩))
      · have hac : acQ (K.fY r) (some q) L = some q := if_neg c
        rw [hac] at go
        exact pc_t (nle' (by omega) (by omega)) (pc_t (nle' (by omega) (by omega)) (go b l ⟨by omega, g2, g3, g4⟩))
theorem l_best_f {ap ac aq an : Mem} {K : Kr} (P : rP ap K) (C : rC ac K) (Q : rQ aq K) (N : rN an K) (W : WF K) {r : Nat} (hr : r < 4) {post : Int32 → Prop} (k : ∀ b, b < fct (K.sz r) → (PM (K.sz r))[b]? = some (K.lst r).2 → post (nI b)) : ∀ t q : Nat, q + t = max 2 (K.sz r + 1) → 2 ≤ q → PL_best_6 ap ac aq an post (t + 1) deadM (nI r) (nI (fct (q - 1))) (nI q) := by
  have h6 := W.sz6 hr
  intro t
  induction t with
  | zero =>
    intro q hq h2
    have ef : fct (q - 1) = fct (K.sz r) := by
      rcases Nat.lt_or_ge (K.sz r) 1 with g | g
      · rw [show q - 1 = 1 by omega, show K.sz r = 0 by omega]; rfl
      · rw [show q - 1 = K.sz r by omega]
    unfold PL_best_6
    rw [e3, ix_nI (show 3 + r < 2 ^ 31 by omega), N.2 r hr, ef]
    refine ⟨in7 (by omega), pc_t (nI_lt (by omega) (by omega)) (l_copy fun ar4 h4 => ⟨fct (K.sz r) + 1, ?_⟩)⟩
    exact l_best_l P C N W hr k (fct (K.sz r)) 0 0 999 ar4 (K.od r) (by omega) (isO_od W hr) (by rw [setO_self]; exact rQ_cg Q W h4) (by rw [List.take_zero]; exact ⟨rfl, rfl⟩)
  | succ t ih =>
    intro q hq h2
    unfold PL_best_6
    rw [e3, ix_nI (show 3 + r < 2 ^ 31 by omega), N.2 r hr]
    refine ⟨in7 (by omega), pc_f (fun y => ?_) fun q13 e => ?_⟩
    · rw [nI_ltI (by omega) (by omega)] at y; omega
    · have ef : fct (q - 1) * q = fct (q + 1 - 1) := by
        obtain ⟨z, rfl⟩ : ∃ z, q = z + 1 := ⟨q - 1, by omega⟩
        rfl
      rw [e, pk_mul, ef, nI_1]
      exact ih (q + 1) (by omega) (by omega)
theorem l_best {ap ac aq an : Mem} {K : Kr} (P : rP ap K) (C : rC ac K) (Q : rQ aq K) (N : rN an K) (W : WF K) {r : Nat} (hr : r < 4) {post : Int32 → Prop} (k : ∀ b, b < fct (K.sz r) → (PM (K.sz r))[b]? = some (K.lst r).2 → post (nI b)) : PL_best ap ac aq an (nI r) post := ⟨_, l_best_f P C Q N W hr k (max 2 (K.sz r + 1) - 2) 2 (by omega) (Nat.le_refl _)⟩
/-- laid by the number of the best, the row is in the order that the class finds -/
theorem l_layb {aq an : Mem} {K : Kr} (Q : rQ aq K) (N : rN an K) (W : WF K) {r b : Nat} (hr : r < 4) (hb : b < fct (K.sz r)) (hL : (PM (K.sz r))[b]? = some (K.lst r).2) {post : Mem → Prop} (k : ∀ aq2 : Mem, rQ aq2 (K.setO r (K.lo2 r)) → post aq2) : PL_lays aq an (nI r) (nI b) post := by
  have h6 := W.sz6 hr
  refine l_lays N W hr (isO_od W hr) (fun q hq => Q r q hr hq) hb fun aq2 h1 h2 => k aq2 (rQ_set Q W hr h1 fun q hq => ?_)
  rw [h2 q hq]
  have e := PM_at h6 hb
  rw [hL] at e
  rw [← Option.some.inj e]; rfl
theorem lo2_Yo {K : Kr} (W : WF K) {r : Nat} (hr : r < 4) : (K.setO r (K.lo2 r)).X r + (if r < 3 then (K.setO r (K.lo2 r)).X (r + 1) else 0) = (K.lst r).1 := (lst_f W hr).2.1.symm
