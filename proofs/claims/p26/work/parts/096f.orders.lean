/-! orders of a row: the next one as numbers rise, all of them, the least -/
def lf (p : Nat → Nat) : Nat → Nat
  | 0 => 0
  | i + 1 => if p (i + 1) < p i then lf p i else i + 1
def rf (p : Nat → Nat) (a : Nat) : Nat → Nat
  | 0 => 0
  | i + 1 => if p (i + 1) < p a then rf p a i else i + 1
def rv : Nat → (Nat → Nat) → Nat → Nat → Nat → Nat
  | 0, p, _, _ => p
  | d + 1, p, i, j => if i < j then rv d (fun k => p (trs i j k)) (i + 1) (j - 1) else p
def nxq (n : Nat) (p : Nat → Nat) : Nat → Nat := rv n (fun k => p (trs (lf p (n - 1) - 1) (rf p (lf p (n - 1) - 1) (n - 1)) k)) (lf p (n - 1)) (n - 1)
def lq (l : List Nat) (k : Nat) : Nat := l.getD k 0
def nxL (n : Nat) (l : List Nat) : Option (List Nat) := if lf (lq l) (n - 1) = 0 then none else some ((List.range n).map (nxq n (lq l)))
/-- each the next one of the one before, the last without a next one -/
def chB (n : Nat) : List Nat → List (List Nat) → Bool
  | l, [] => decide (nxL n l = none)
  | l, l2 :: t => decide (nxL n l = some l2) && chB n l2 t
def prm : Nat → List Nat → List (List Nat)
  | 0, _ => [[]]
  | d + 1, xs => xs.flatMap (fun a => (prm d (xs.erase a)).map (fun t => a :: t))
def PM (n : Nat) : List (List Nat) := prm n (List.range n)
def gdB (n : Nat) (l : List Nat) : Bool := (List.range n).all (fun i => decide (lq l i < n) && (List.range n).all (fun j => decide (i = j) || decide (lq l i ≠ lq l j)))
def chk (n : Nat) : Bool := match PM n with
  | [] => false
  | l :: t => decide (l = List.range n) && chB n l t && decide (t.length < 720) && (l :: t).all (gdB n)
set_option maxRecDepth 100000 in
theorem chk_ok : ∀ n, n < 7 → chk n = true := by decide +kernel
theorem PM_f {n : Nat} (h : n ≤ 6) : ∃ t, PM n = List.range n :: t ∧ chB n (List.range n) t = true ∧ t.length < 720 ∧ ∀ l, l ∈ PM n → gdB n l = true := by
  have c := chk_ok n (by omega)
  unfold chk at c
  cases e : PM n with
  | nil => rw [e] at c; cases c
  | cons l t =>
    rw [e] at c
    have c' : (decide (l = List.range n) && chB n l t && decide (t.length < 720) && (l :: t).all (gdB n)) = true := c
    rw [Bool.and_eq_true, Bool.and_eq_true, Bool.and_eq_true, decide_eq_true_eq, decide_eq_true_eq, List.all_eq_true] at c'
    obtain ⟨⟨⟨c1, c2⟩, c3⟩, c4⟩ := c'
    subst c1
    exact ⟨t, rfl, c2, c3, c4⟩
theorem gd_f {n : Nat} {l : List Nat} (h : gdB n l = true) : (∀ i, i < n → lq l i < n) ∧ ∀ i j, i < n → j < n → lq l i = lq l j → i = j := by
  unfold gdB at h
  rw [List.all_eq_true] at h
  have g : ∀ i, i < n → lq l i < n ∧ ∀ j, j < n → i = j ∨ lq l i ≠ lq l j := fun i hi => by
    have a := h i (List.mem_range.mpr hi)
    rw [Bool.and_eq_true, decide_eq_true_eq, List.all_eq_true] at a
    refine ⟨a.1, fun j hj => ?_⟩
    have b := a.2 j (List.mem_range.mpr hj)
    rw [Bool.or_eq_true, decide_eq_true_eq, decide_eq_true_eq] at b
    exact b
  exact ⟨fun i hi => (g i hi).1, fun i j hi hj e => ((g i hi).2 j hj).resolve_right (fun q => q e)⟩
theorem prm_mem : ∀ (d : Nat) (xs l : List Nat), l.length = d → (∀ a, a ∈ l → a ∈ xs) → l.Nodup → l ∈ prm d xs
  | 0, xs, l, h, _, _ => by
    rw [List.length_eq_zero_iff.mp h]
    exact List.mem_singleton.mpr rfl
  | d + 1, xs, l, h, hm, hn => by
    cases l with
    | nil => cases h
    | cons a t =>
      have n2 := List.nodup_cons.mp hn
      unfold prm
      rw [List.mem_flatMap]
      refine ⟨a, hm a List.mem_cons_self, List.mem_map.mpr ⟨t, prm_mem d _ t (Nat.succ.inj h) (fun b hb => ?_) n2.2, rfl⟩⟩
      have hne : b ≠ a := fun e => n2.1 (e ▸ hb)
      exact (List.mem_erase_of_ne hne).mpr (hm b (List.mem_cons_of_mem _ hb))
theorem lq_map {n k : Nat} (f : Nat → Nat) (h : k < n) : lq ((List.range n).map f) k = f k := by
  unfold lq
  rw [List.getD_eq_getElem?_getD, List.getElem?_map, List.getElem?_range h]
  rfl
theorem lq_range {n k : Nat} (h : k < n) : lq (List.range n) k = k := by
  unfold lq
  rw [List.getD_eq_getElem?_getD, List.getElem?_range h]
  rfl
theorem PM_mem {n : Nat} {g : Nat → Nat} (h1 : ∀ i, i < n → g i < n) (h2 : ∀ i j, i < n → j < n → g i = g j → i = j) : (List.range n).map g ∈ PM n := by
  refine prm_mem n _ _ (by rw [List.length_map, List.length_range]) (fun a ha => ?_) ?_
  · obtain ⟨i, hi, rfl⟩ := List.mem_map.mp ha
    exact List.mem_range.mpr (h1 i (List.mem_range.mp hi))
  · unfold List.Nodup
    rw [List.pairwise_map]
    refine List.Pairwise.imp_of_mem (fun {a b} ha hb hne e => hne (h2 a b (List.mem_range.mp ha) (List.mem_range.mp hb) e)) (List.nodup_range (n := n))
/-- the best so far: the first one of the least -/
def ac (f : List Nat → Nat) : Option (Nat × List Nat) → List Nat → Option (Nat × List Nat)
  | none, l => some (f l, l)
  | some q, l => if f l < q.1 then some (f l, l) else some q
theorem ac_some (f : List Nat → Nat) : ∀ (ls : List (List Nat)) (q : Nat × List Nat), q.1 = f q.2 → ∃ q2, ls.foldl (ac f) (some q) = some q2 ∧ q2.1 = f q2.2 ∧ (q2.2 = q.2 ∨ q2.2 ∈ ls) ∧ q2.1 ≤ q.1 ∧ ∀ l, l ∈ ls → q2.1 ≤ f l
  | [], q, h => ⟨q, rfl, h, Or.inl rfl, Nat.le_refl _, fun l hl => absurd hl (List.not_mem_nil)⟩
  | l :: t, q, h => by
    show ∃ q2, t.foldl (ac f) (if f l < q.1 then some (f l, l) else some q) = some q2 ∧ _
    by_cases g : f l < q.1
    · rw [if_pos g]
      obtain ⟨q2, e1, e2, e3, e4, e5⟩ := ac_some f t (f l, l) rfl
      have e4' : q2.1 ≤ f l := e4
      refine ⟨q2, e1, e2, ?_, by omega, fun a ha => ?_⟩
      · rcases e3 with e3 | e3
        · exact Or.inr (by rw [e3]; exact List.mem_cons_self)
        · exact Or.inr (List.mem_cons_of_mem _ e3)
      · rcases List.mem_cons.mp ha with rfl | ha
        · exact e4
        · exact e5 a ha
    · rw [if_neg g]
      obtain ⟨q2, e1, e2, e3, e4, e5⟩ := ac_some f t q h
      refine ⟨q2, e1, e2, ?_, e4, fun a ha => ?_⟩
      · rcases e3 with e3 | e3
        · exact Or.inl e3
        · exact Or.inr (List.mem_cons_of_mem _ e3)
      · rcases List.mem_cons.mp ha with rfl | ha
        · omega
        · exact e5 a ha
/-- how many of the row are among the first p people -/
def Kr.cnt (K : Kr) (r p : Nat) : Nat := sm (fun q => if K.row q = r then 1 else 0) p
/-- the people of the row, by rising numbers -/
def Kr.srt (K : Kr) (r k : Nat) : Nat := sm (fun p => if K.row p = r ∧ K.cnt r p = k then p else 0) K.np
theorem cnt_sz {K : Kr} (W : WF K) {r : Nat} (hr : r < 4) : K.cnt r K.np = K.sz r := by
  unfold Kr.cnt
  rw [sm_rows W, sm_single (a := r) hr (fun r2 h2 hne => sm_none fun k hk => if_neg fun e => hne (by rw [← e, W.od_row h2 hk]))]
  have := sm_congr (f := fun k => if K.row (K.od r k) = r then 1 else 0) (g := fun _ => 1) (n := K.sz r) (fun k hk => if_pos (W.od_row hr hk))
  rw [this]
  have h : ∀ n, sm (fun _ => 1) n = n := fun n => by
    induction n with
    | zero => rfl
    | succ n ih => rw [sm_s, ih]
  exact h _
theorem cnt_lt {K : Kr} {r p q : Nat} (h : K.row p = r) (hq : p < q) : K.cnt r p < K.cnt r q := by
  have a := sm_mono (fun q => if K.row q = r then 1 else 0) (show p + 1 ≤ q by omega)
  rw [sm_s, if_pos h] at a
  unfold Kr.cnt; omega
theorem srt_cnt {K : Kr} {r p : Nat} (hp : p < K.np) (h : K.row p = r) : K.srt r (K.cnt r p) = p := by
  unfold Kr.srt
  rw [sm_single (a := p) hp (fun q hq hne => if_neg fun e => ?_), if_pos ⟨h, rfl⟩]
  rcases Nat.lt_trichotomy p q with g | g | g
  · have := cnt_lt h g; omega
  · exact hne g.symm
  · have := cnt_lt e.1 g; omega
theorem cnt_ex {K : Kr} {r k : Nat} : ∀ n, k < K.cnt r n → ∃ p, p < n ∧ K.row p = r ∧ K.cnt r p = k
  | 0, h => absurd h (Nat.not_lt_zero _)
  | n + 1, h => by
    rcases Nat.lt_or_ge k (K.cnt r n) with g | g
    · obtain ⟨p, h1, h2⟩ := cnt_ex n g
      exact ⟨p, by omega, h2⟩
    · have e : K.cnt r (n + 1) = K.cnt r n + (if K.row n = r then 1 else 0) := rfl
      by_cases q : K.row n = r
      · rw [if_pos q] at e
        exact ⟨n, by omega, q, by omega⟩
      · rw [if_neg q] at e; omega
theorem srt_f {K : Kr} (W : WF K) {r k : Nat} (hr : r < 4) (hk : k < K.sz r) : K.srt r k < K.np ∧ K.row (K.srt r k) = r ∧ K.cnt r (K.srt r k) = k := by
  rw [← cnt_sz W hr] at hk
  obtain ⟨p, h1, h2, h3⟩ := cnt_ex _ hk
  rw [← h3, srt_cnt h1 h2]
  exact ⟨h1, h2, rfl⟩
theorem srt_inc {K : Kr} (W : WF K) {r a b : Nat} (hr : r < 4) (ha : a < K.sz r) (hb : b < K.sz r) : K.srt r a < K.srt r b ↔ a < b := by
  have fa := srt_f W hr ha
  have fb := srt_f W hr hb
  have mono : ∀ x y, K.row x = r → x < y → K.cnt r x < K.cnt r y := fun x y h1 h2 => cnt_lt h1 h2
  constructor
  · intro h
    have := mono _ _ fa.2.1 h
    omega
  · intro h
    rcases Nat.lt_trichotomy (K.srt r a) (K.srt r b) with g | g | g
    · exact g
    · rw [g] at fa; omega
    · have := mono _ _ fb.2.1 g; omega
theorem srt_isO {K : Kr} (W : WF K) {r : Nat} (hr : r < 4) : isO K r (K.srt r) := by
  refine ⟨fun k hk => ⟨(srt_f W hr hk).1, (srt_f W hr hk).2.1⟩, fun i j hi hj e => ?_, fun p hp e => ⟨K.cnt r p, ?_, srt_cnt hp e⟩⟩
  · have a := (srt_f W hr hi).2.2
    have b := (srt_f W hr hj).2.2
    rw [e] at a; omega
  · rw [← cnt_sz W hr]; exact cnt_lt e hp
/-- two orders of the row that rise are one -/
theorem incr_un {K : Kr} {r : Nat} {a b : Nat → Nat} (h6 : K.sz r ≤ 6) (ha : isO K r a) (hb : isO K r b) (ia : ∀ i j, i < j → j < K.sz r → a i < a j) (ib : ∀ i j, i < j → j < K.sz r → b i < b j) : ∀ i, i < K.sz r → a i = b i := by
  have f1 : ∀ i, i < K.sz r → plOf a (b i) < K.sz r ∧ a (plOf a (b i)) = b i := fun i hi => by
    obtain ⟨k, hk, e⟩ := ha.2.2 (b i) (hb.1 i hi).1 (hb.1 i hi).2
    rw [plOf_of h6 hk e ha.2.1]
    exact ⟨hk, e⟩
  have f2 := incr_id (n := K.sz r) (f := fun i => plOf a (b i)) (fun i hi => (f1 i hi).1) (fun i j hij hj => by
    show plOf a (b i) < plOf a (b j)
    have x := f1 i (by omega)
    have y := f1 j hj
    have z := ib i j hij hj
    rcases Nat.lt_trichotomy (plOf a (b i)) (plOf a (b j)) with g | g | g
    · exact g
    · rw [g] at x; omega
    · have := ia _ _ g x.1; omega)
  intro i hi
  have e := f2 i hi
  have e' : plOf a (b i) = i := e
  have := (f1 i hi).2
  rw [e'] at this; exact this
def OL (s : Nat → Nat) (l : List Nat) (k : Nat) : Nat := s (lq l k)
theorem OL_isO {K : Kr} {r : Nat} {s : Nat → Nat} (hs : isO K r s) {l : List Nat} (h : gdB (K.sz r) l = true) : isO K r (OL s l) := by
  have g := gd_f h
  refine ⟨fun k hk => hs.1 _ (g.1 k hk), fun i j hi hj e => g.2 i j hi hj (hs.2.1 _ _ (g.1 i hi) (g.1 j hj) e), fun p hp e => ?_⟩
  obtain ⟨k, hk, e1⟩ := hs.2.2 p hp e
  obtain ⟨i, hi, e2⟩ := pig (K.sz r) (lq l) g.1 g.2 k hk
  exact ⟨i, hi, by show s (lq l i) = p; rw [e2]; exact e1⟩
theorem OL_all {K : Kr} {r : Nat} {s o : Nat → Nat} (h6 : K.sz r ≤ 6) (hs : isO K r s) (ho : isO K r o) : ∃ l, l ∈ PM (K.sz r) ∧ ∀ k, k < K.sz r → o k = OL s l k := by
  have f1 : ∀ i, i < K.sz r → plOf s (o i) < K.sz r ∧ s (plOf s (o i)) = o i := fun i hi => by
    obtain ⟨k, hk, e⟩ := hs.2.2 (o i) (ho.1 i hi).1 (ho.1 i hi).2
    rw [plOf_of h6 hk e hs.2.1]
    exact ⟨hk, e⟩
  refine ⟨(List.range (K.sz r)).map (fun i => plOf s (o i)), PM_mem (fun i hi => (f1 i hi).1) (fun i j hi hj e => ?_), fun k hk => ?_⟩
  · have e' : plOf s (o i) = plOf s (o j) := e
    have a := (f1 i hi).2
    rw [e', (f1 j hj).2] at a
    exact (ho.2.1 j i hj hi a).symm
  · unfold OL
    rw [lq_map _ hk]
    exact (f1 k hk).2.symm
theorem MS_oc {f : Nat → Int32} {K : Kr} {r : Nat} {o o2 : Nat → Nat} (M : MS f (K.setO r o)) (h : ∀ k, k < K.sz r → o k = o2 k) : MS f (K.setO r o2) := by
  refine ⟨M.1, M.2.1, M.2.2.1, M.2.2.2.1, fun r' i hr' hi => ?_⟩
  have m := M.2.2.2.2 r' i hr' hi
  have m' : f (67 + 6 * r' + i) = nI (fup K.od r o r' i) := m
  have hi' : i < K.sz r' := hi
  show _ = nI (fup K.od r o2 r' i)
  rw [m']
  by_cases e : r' = r
  · subst e; rw [fup_a, fup_a, h i hi']
  · rw [fup_o _ _ e, fup_o _ _ e]
theorem MS_ord {f : Nat → Int32} {K : Kr} {r : Nat} {o : Nat → Nat} (M : MS f (K.setO r o)) (hr : r < 4) {k : Nat} (hk : k < K.sz r) : f (67 + 6 * r + k) = nI (o k) := by
  have m := M.2.2.2.2 r k hr hk
  rw [setO_od] at m; exact m
/-- the crossings of the lines to the row and from it, laid by o -/
def Kr.Yo (K : Kr) (r : Nat) (o : Nat → Nat) : Nat := (K.setO r o).X r + (if r < 3 then (K.setO r o).X (r + 1) else 0)
theorem Yo_le {K : Kr} (W : WF K) {r : Nat} (hr : r < 4) {o : Nat → Nat} (h : isO K r o) : K.Yo r o ≤ 72 := by
  have W2 := setO_wf W h
  have a := X_le W2 hr
  unfold Kr.Yo
  by_cases g : r < 3
  · have b := X_le W2 (show r + 1 < 4 by omega)
    rw [if_pos g]; omega
  · rw [if_neg g]; omega
def Kr.fY (K : Kr) (r : Nat) (l : List Nat) : Nat := K.Yo r (OL (K.srt r) l)
/-- the least crossings, and the first of the orders that have them -/
def Kr.lst (K : Kr) (r : Nat) : Nat × List Nat := ((PM (K.sz r)).foldl (ac (K.fY r)) none).getD (0, [])
theorem lst_f {K : Kr} (W : WF K) {r : Nat} (hr : r < 4) : (PM (K.sz r)).foldl (ac (K.fY r)) none = some (K.lst r) ∧ (K.lst r).1 = K.fY r (K.lst r).2 ∧ (K.lst r).2 ∈ PM (K.sz r) ∧ ∀ l, l ∈ PM (K.sz r) → (K.lst r).1 ≤ K.fY r l := by
  obtain ⟨t, e, -, -, -⟩ := PM_f (W.sz6 hr)
  obtain ⟨q2, e1, e2, e3, e4, e5⟩ := ac_some (K.fY r) t (K.fY r (List.range (K.sz r)), List.range (K.sz r)) rfl
  have ef : (PM (K.sz r)).foldl (ac (K.fY r)) none = some q2 := by rw [e]; exact e1
  have el : K.lst r = q2 := by unfold Kr.lst; rw [ef]; rfl
  rw [el]
  refine ⟨ef, e2, ?_, fun l hl => ?_⟩
  · rw [e]
    rcases e3 with e3 | e3
    · rw [e3]; exact List.mem_cons_self
    · exact List.mem_cons_of_mem _ e3
  · rw [e] at hl
    rcases List.mem_cons.mp hl with rfl | hl
    · exact e4
    · exact e5 l hl
def Kr.lo2 (K : Kr) (r : Nat) : Nat → Nat := OL (K.srt r) (K.lst r).2
theorem lo2_isO {K : Kr} (W : WF K) {r : Nat} (hr : r < 4) : isO K r (K.lo2 r) := by
  obtain ⟨t, e, -, -, g⟩ := PM_f (W.sz6 hr)
  exact OL_isO (srt_isO W hr) (g _ (lst_f W hr).2.2.1)
