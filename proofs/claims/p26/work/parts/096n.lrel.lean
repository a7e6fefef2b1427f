/-! the law's own rows against one chronicle in numbers -/
def rP (ap : Mem) (K : Kr) : Prop := ∀ p, p < K.np → ap 0 (2 * p) = nI (K.row p) ∧ ap 0 (2 * p + 1) = pI (K.par p)
def rC (ac : Mem) (K : Kr) : Prop := ∀ c, c < K.nc → ac 0 (2 * c) = nI (K.lo c) ∧ ac 0 (2 * c + 1) = nI (K.hi c)
def rQ (aq : Mem) (K : Kr) : Prop := ∀ r k, r < 4 → k < K.sz r → aq 0 (6 * r + k) = nI (K.od r k)
def rN (an : Mem) (K : Kr) : Prop := (an 0 0 = nI K.np ∧ an 0 1 = nI K.nc ∧ an 0 2 = K.rf) ∧ ∀ r, r < 4 → an 0 (3 + r) = nI (K.sz r)
theorem e2 (p : Nat) : 2 * nI p = nI (2 * p) := by rw [n2I, pk_mul]
theorem e2s (p : Nat) : 2 * nI p + 1 = nI (2 * p + 1) := by rw [e2, nI_1]
theorem e6 (r k : Nat) : 6 * nI r + nI k = nI (6 * r + k) := by rw [n6I, pk_mul, nI_add]
theorem e3 (r : Nat) : 3 + nI r = nI (3 + r) := by rw [n3I, nI_add]
theorem in7 {n : Nat} (h : n < 7) : vp_in (nI n) 7 := in_nI h (by decide)
theorem in40 {n : Nat} (h : n < 40) : vp_in (nI n) 40 := in_nI h (by decide)
theorem in20 {n : Nat} (h : n < 20) : vp_in (nI n) 20 := in_nI h (by decide)
theorem in24 {n : Nat} (h : n < 24) : vp_in (nI n) 24 := in_nI h (by decide)
theorem l_low {x : Int32} {n : Nat} (h0 : 0 < n) (hn : n < 2 ^ 31) {post : Int32 → Prop} (k : ∀ m, m < n → post (nI m)) : PL_low x (nI n) post := by
  unfold PL_low
  obtain ⟨j, hj, e⟩ := pk_andE x (m := 2147483647) 31 (by decide)
  refine ⟨nI_ne0 h0 hn, ?_⟩
  rw [e, pk_rem hj h0 hn]
  exact k _ (Nat.mod_lt _ h0)
theorem l_place_l {ap aq : Mem} {K : Kr} (Q : rQ aq K) (W : WF K) {p : Nat} (hp : p < K.np) {post : Int32 → Prop} (k : post (nI (K.pl p))) : ∀ d i : Nat, i + d = K.pl p → PL_place_9 ap aq post (d + 1) (nI p) (nI (6 * K.row p + i)) := by
  have hr := W.row4 hp
  have h6 := W.sz6 hr
  have hs := W.pl_sz hp
  have hn := W.np20
  intro d
  induction d with
  | zero =>
    intro i hi
    have ei : i = K.pl p := by omega
    unfold PL_place_9
    rw [ix_nI (show 6 * K.row p + i < 2 ^ 31 by omega), Q _ i hr (by omega), ei, hs.2]
    refine ⟨in24 (by omega), pc_t rfl ?_⟩
    rw [rem6 (by omega), show (6 * K.row p + K.pl p) % 6 = K.pl p by omega]
    exact k
  | succ d ih =>
    intro i hi
    unfold PL_place_9
    rw [ix_nI (show 6 * K.row p + i < 2 ^ 31 by omega), Q _ i hr (by omega), nI_1]
    have hlt := W.od_lt hr (show i < K.sz (K.row p) by omega)
    refine ⟨in24 (by omega), pc_f (nne (by omega) (by omega) fun e => ?_) (ih (i + 1) (by omega))⟩
    have a := W.pl_od hr (show i < K.sz (K.row p) by omega)
    rw [e] at a; omega
theorem l_place {ap aq : Mem} {K : Kr} (P : rP ap K) (Q : rQ aq K) (W : WF K) {p : Nat} (hp : p < K.np) {post : Int32 → Prop} (k : post (nI (K.pl p))) : PL_place ap aq (nI p) post := by
  have hn := W.np20
  unfold PL_place
  rw [e2 p, ix_nI (show 2 * p < 2 ^ 31 by omega), (P p hp).1]
  refine ⟨in40 (by omega), fun q2 e => ⟨K.pl p + 1, ?_⟩⟩
  subst e
  rw [n6I, pk_mul]
  exact l_place_l Q W hp k (K.pl p) 0 (by omega)
theorem l_middle {ap ac aq : Mem} {K : Kr} (P : rP ap K) (C : rC ac K) (Q : rQ aq K) (W : WF K) {c : Nat} (hc : c < K.nc) {post : Int32 → Prop} (k : post (nI (K.mid c))) : PL_middle ap ac aq (nI c) post := by
  have hn := W.nc10
  unfold PL_middle
  rw [e2s c, e2 c, ix_nI (show 2 * c < 2 ^ 31 by omega), ix_nI (show 2 * c + 1 < 2 ^ 31 by omega), (C c hc).1, (C c hc).2]
  exact ⟨in20 (by omega), l_place P Q W (W.lo_np hc) ⟨in20 (by omega), l_place P Q W (W.hi_np hc) (by rw [nI_add]; exact k)⟩⟩
/-- two of the row, the one at a to the left of the one at b: 1 if their lines cross -/
def tcr (a b : Nat) : Option Nat → Option Nat → Nat
  | some x, some y => if a < b ∧ y < x then 1 else 0
  | _, _ => 0
def Kr.T (K : Kr) (r a b : Nat) : Nat := tcr a b (K.up (K.od r a)) (K.up (K.od r b))
theorem X_T (K : Kr) (r : Nat) : sm (fun a => sm (fun b => K.T r a b) (K.sz r)) (K.sz r) = K.X r := by
  rw [sm_swap]
  unfold Kr.X
  refine sm_congr fun b hb => ?_
  cases e : K.up (K.od r b) with
  | none =>
    refine sm_none fun a ha => ?_
    unfold Kr.T
    rw [e]
    cases K.up (K.od r a) <;> rfl
  | some y =>
    show _ = sm (fun q2 => og (fun q2 x2 => xx b y q2 x2) q2 (K.up (K.od r q2))) (K.sz r)
    refine sm_congr fun a ha => ?_
    unfold Kr.T
    rw [e]
    cases K.up (K.od r a) with
    | none => rfl
    | some x =>
      show (if a < b ∧ y < x then 1 else 0) = xx b y a x
      unfold xx
      by_cases g : a < b ∧ y < x
      · rw [if_pos g, if_pos ⟨g.2, g.1⟩]
      · rw [if_neg g, if_neg fun h => g ⟨h.2, h.1⟩]
theorem T_le (K : Kr) (r a b : Nat) : K.T r a b ≤ 1 := by
  unfold Kr.T
  cases K.up (K.od r a) with
  | none => exact Nat.zero_le _
  | some x =>
    cases K.up (K.od r b) with
    | none => exact Nat.zero_le _
    | some y =>
      show (if a < b ∧ y < x then 1 else 0) ≤ 1
      split <;> decide
theorem T_0 (K : Kr) {r a b : Nat} (h : b ≤ a) : K.T r a b = 0 := by
  unfold Kr.T
  cases K.up (K.od r a) with
  | none => rfl
  | some x =>
    cases K.up (K.od r b) with
    | none => rfl
    | some y => exact if_neg fun g => by omega
theorem l_cr_in {ap ac aq an : Mem} {K : Kr} (P : rP ap K) (C : rC ac K) (Q : rQ aq K) (N : rN an K) (W : WF K) {r a c0 : Nat} (hr : r < 4) (ha : a < K.sz r) (hc0 : c0 ≤ 36) {post : Int32 → Prop} {K6 : Int32 → Int32 → Int32 → Prop} (k : K6 (nI r) (nI (c0 + sm (K.T r a) (K.sz r))) (nI (a + 1))) : ∀ d b : Nat, b + d = K.sz r → a < b → PL_crosses_23 ap ac aq an post K6 (d + 1) (nI r) (nI (c0 + sm (K.T r a) b)) (nI a) (nI b) := by
  have h6 := W.sz6 hr
  have hn := W.np20
  intro d
  induction d with
  | zero =>
    intro b hb hab
    unfold PL_crosses_23
    rw [e3 r, ix_nI (show 3 + r < 2 ^ 31 by omega), N.2 r hr, nI_1, show b = K.sz r by omega]
    exact ⟨in7 (by omega), pc_t (nle' (Nat.le_refl _) (by omega)) k⟩
  | succ d ih =>
    intro b hb hab
    have hb2 : b < K.sz r := by omega
    have pa := W.od_lt hr ha
    have pb := W.od_lt hr hb2
    have e := ih (b + 1) (by omega) (by omega)
    rw [sm_s] at e
    unfold PL_crosses_23
    rw [e3 r, ix_nI (show 3 + r < 2 ^ 31 by omega), N.2 r hr, e6 r a, e6 r b, ix_nI (show 6 * r + a < 2 ^ 31 by omega), ix_nI (show 6 * r + b < 2 ^ 31 by omega), Q r a hr ha, Q r b hr hb2, e2s, e2s, ix_nI (show 2 * K.od r a + 1 < 2 ^ 31 by omega), ix_nI (show 2 * K.od r b + 1 < 2 ^ 31 by omega), (P _ pa).2, (P _ pb).2, nI_1 b]
    refine ⟨in7 (by omega), pc_f (nle hb2 (by omega)) ⟨in24 (by omega), in40 (by omega), fun q8 e8 => ⟨in24 (by omega), in40 (by omega), fun q11 e11 => ?_⟩⟩⟩
    subst e8; subst e11
    have hz : ∀ q, K.T r a b = 0 → q = nI (c0 + sm (K.T r a) b) + 0 → PL_crosses_23 ap ac aq an post K6 (d + 1) (nI r) q (nI a) (nI (b + 1)) := fun q hT hq => by
      rw [hq, add0]; rw [hT, Nat.add_zero] at e; exact e
    cases ea : K.par (K.od r a) with
    | none => exact pc_t i_m1_lt0 fun q hq => hz q (by unfold Kr.T; rw [up_none ea]; rfl) hq
    | some x =>
      have hx := W.par_c pa ea
      have h10 := W.nc10
      refine pc_f (nI_lt0 (show x < 2 ^ 31 by omega)) ?_
      cases eb : K.par (K.od r b) with
      | none => exact pc_t i_m1_lt0 fun q hq => hz q (by unfold Kr.T; rw [up_none eb, up_some ea]; rfl) hq
      | some y =>
        have hy := W.par_c pb eb
        refine pc_f (nI_lt0 (show y < 2 ^ 31 by omega)) (l_middle P C Q W hx (l_middle P C Q W hy ?_))
        have m1 := WF.mid11 K x
        have m2 := WF.mid11 K y
        by_cases g : K.mid x ≤ K.mid y
        · exact pc_t (nle' g (by omega)) fun q hq => hz q (by unfold Kr.T; rw [up_some ea, up_some eb]; exact if_neg (by omega)) hq
        · refine pc_f (nle (by omega) (by omega)) fun q hq => ?_
          have hT : K.T r a b = 1 := by unfold Kr.T; rw [up_some ea, up_some eb]; exact if_pos ⟨hab, by omega⟩
          rw [hq, nI_1]; rw [hT] at e; exact e
theorem l_cr_out {ap ac aq an : Mem} {K : Kr} (P : rP ap K) (C : rC ac K) (Q : rQ aq K) (N : rN an K) (W : WF K) {r : Nat} (hr : r < 4) {post : Int32 → Prop} (k : post (nI (K.X r))) : ∀ d a : Nat, a + d = K.sz r → PL_crosses_6 ap ac aq an post (d + 1) (nI r) (nI (sm (fun a => sm (K.T r a) (K.sz r)) a)) (nI a) := by
  have h6 := W.sz6 hr
  intro d
  induction d with
  | zero =>
    intro a ha
    unfold PL_crosses_6
    rw [e3 r, ix_nI (show 3 + r < 2 ^ 31 by omega), N.2 r hr, show a = K.sz r by omega]
    refine ⟨in7 (by omega), pc_t (nle' (Nat.le_refl _) (by omega)) ?_⟩
    rw [show sm (fun a => sm (K.T r a) (K.sz r)) (K.sz r) = K.X r from X_T K r]; exact k
  | succ d ih =>
    intro a ha
    unfold PL_crosses_6
    rw [e3 r, ix_nI (show 3 + r < 2 ^ 31 by omega), N.2 r hr]
    refine ⟨in7 (by omega), pc_f (nle (show a < K.sz r by omega) (by omega)) fun q3 e3 => ⟨K.sz r - (a + 1) + 1, ?_⟩⟩
    subst e3
    rw [nI_1]
    have h0 : sm (K.T r a) (a + 1) = 0 := sm_none fun b hb => T_0 K (by omega)
    have hle : sm (fun a => sm (K.T r a) (K.sz r)) a ≤ 36 := by
      have e := X_T K r
      have f := X_le W hr
      have g := sm_mono (fun a => sm (K.T r a) (K.sz r)) (show a ≤ K.sz r by omega)
      have e' : sm (fun a => sm (K.T r a) (K.sz r)) (K.sz r) = K.X r := e
      omega
    have e := l_cr_in P C Q N W hr (show a < K.sz r by omega) (c0 := sm (fun a => sm (K.T r a) (K.sz r)) a) hle (post := post) (K6 := PL_crosses_6 ap ac aq an post (d + 1)) (by
      have f := ih (a + 1) (by omega)
      rw [sm_s] at f; exact f) (K.sz r - (a + 1)) (a + 1) (by omega) (by omega)
    rw [h0, Nat.add_zero] at e
    exact e
theorem l_crosses {ap ac aq an : Mem} {K : Kr} (P : rP ap K) (C : rC ac K) (Q : rQ aq K) (N : rN an K) (W : WF K) {r : Nat} (hr : r < 4) {post : Int32 → Prop} (k : post (nI (K.X r))) : PL_crosses ap ac aq an (nI r) post := ⟨_, l_cr_out P C Q N W hr k (K.sz r) 0 (by omega)⟩
theorem X_0 {K : Kr} (W : WF K) : K.X 0 = 0 := by
  rw [← X_T]
  refine sm_none fun a ha => sm_none fun b hb => ?_
  have hp := W.od_lt (show (0 : Nat) < 4 by decide) ha
  have hr := W.od_row (show (0 : Nat) < 4 by decide) ha
  unfold Kr.T
  cases e : K.par (K.od 0 a) with
  | none => rw [up_none e]; rfl
  | some c => have := W.par_row hp e; omega
theorem l_all {ap ac aq an : Mem} {K : Kr} (P : rP ap K) (C : rC ac K) (Q : rQ aq K) (N : rN an K) (W : WF K) {post : Int32 → Prop} (k : post (nI K.XA)) : PL_all ap ac aq an post := by
  refine l_crosses P C Q N W (r := 1) (by decide) (l_crosses P C Q N W (r := 2) (by decide) (l_crosses P C Q N W (r := 3) (by decide) ?_))
  rw [nI_add, nI_add]
  have e : K.XA = K.X 1 + K.X 2 + K.X 3 := by
    unfold Kr.XA
    rw [sm_s, sm_s, sm_s, sm_s, sm_0, X_0 W]; omega
  rw [← e]; exact k
theorem l_ofTwo {ap ac aq an : Mem} {K : Kr} (P : rP ap K) (C : rC ac K) (Q : rQ aq K) (N : rN an K) (W : WF K) {r : Nat} (hr : r < 4) {post : Int32 → Prop} (k : post (nI (K.X r + (if r < 3 then K.X (r + 1) else 0)))) : PL_ofTwo ap ac aq an (nI r) post := by
  refine l_crosses P C Q N W hr ?_
  by_cases g : r = 3
  · subst g
    refine pd_t rfl ?_
    rw [add0]; exact k
  · refine pd_f (nne (b := 3) (by omega) (by decide) g) ?_
    rw [nI_1]
    rw [if_pos (by omega)] at k
    exact l_crosses P C Q N W (r := r + 1) (by omega) (by rw [nI_add]; exact k)
theorem l_couples_l {ac an : Mem} {K : Kr} (C : rC ac K) (N : rN an K) (W : WF K) {p : Nat} (hp : p < 20) {post : Int32 → Prop} (k : post (nI (K.ct p))) : ∀ d c : Nat, c + d = K.nc → PL_couples_5 ac an post (2 * d + 1) (nI p) (nI (sm (fun c => K.has c p) c)) (nI (2 * c)) := by
  have hc := W.nc10
  have hn := W.np20
  intro d
  induction d with
  | zero =>
    intro c hi
    unfold PL_couples_5
    rw [show ix 1 = 1 from rfl, N.1.2.1, e2, show c = K.nc by omega]
    exact ⟨in7 (n := 1) (by decide), pc_t (nle' (Nat.le_refl _) (by omega)) k⟩
  | succ d ih =>
    intro c hi
    have h2 : c < K.nc := by omega
    have l1 := W.lo_np h2
    have l2 := W.hi_np h2
    have l3 := W.lo_hi h2
    have e := ih (c + 1) (by omega)
    rw [sm_s, show 2 * (c + 1) = 2 * c + 1 + 1 by omega] at e
    rw [show 2 * (d + 1) + 1 = 2 * d + 1 + 1 + 1 by omega]
    unfold PL_couples_5
    rw [show ix 1 = 1 from rfl, N.1.2.1, e2, ix_nI (show 2 * c < 2 ^ 31 by omega), (C c h2).1, nI_1]
    refine ⟨in7 (n := 1) (by decide), pc_f (nle (by omega) (by omega)) ⟨in20 (by omega), ?_⟩⟩
    have sec : ∀ t, t ≤ 40 → (K.hi c = p → PL_couples_5 ac an post (2 * d + 1) (nI p) (nI (t + 1)) (nI (2 * c + 1 + 1))) → (K.hi c ≠ p → PL_couples_5 ac an post (2 * d + 1) (nI p) (nI t) (nI (2 * c + 1 + 1))) → PL_couples_5 ac an post (2 * d + 1 + 1) (nI p) (nI t) (nI (2 * c + 1)) := fun t ht y n => by
      unfold PL_couples_5
      rw [show ix 1 = 1 from rfl, N.1.2.1, e2, ix_nI (show 2 * c + 1 < 2 ^ 31 by omega), (C c h2).2, nI_1 (2 * c + 1)]
      refine ⟨in7 (n := 1) (by decide), pc_f (nle (by omega) (by omega)) ⟨in20 (by omega), ?_⟩⟩
      by_cases g : K.hi c = p
      · rw [g]; exact pd_t rfl fun q hq => by rw [hq, nI_1]; exact y g
      · exact pd_f (nne (by omega) (by omega) g) fun q hq => by rw [hq, add0]; exact n g
    have hle : sm (fun c => K.has c p) c ≤ c := sm_01 (fun i => has1 K i p) c
    by_cases g : K.lo c = p
    · rw [g]
      have hh : K.has c p = 1 := if_pos (Or.inl g)
      rw [hh] at e
      refine pd_t rfl fun q hq => ?_
      rw [hq, nI_1]
      exact sec _ (by omega) (fun h => by omega) (fun _ => e)
    · refine pd_f (nne (by omega) (by omega) g) fun q hq => ?_
      rw [hq, add0]
      refine sec _ (by omega) (fun h => ?_) (fun h => ?_)
      · have hh : K.has c p = 1 := if_pos (Or.inr h)
        rw [hh] at e; exact e
      · have hh : K.has c p = 0 := if_neg fun x => x.elim g h
        rw [hh, Nat.add_zero] at e; exact e
theorem l_couples {ac an : Mem} {K : Kr} (C : rC ac K) (N : rN an K) (W : WF K) {p : Nat} (hp : p < 20) {post : Int32 → Prop} (k : post (nI (K.ct p))) : PL_couples ac an (nI p) post := ⟨_, l_couples_l C N W hp k K.nc 0 (by omega)⟩
theorem l_copy_l {aq : Mem} {post : Mem → Prop} (k : ∀ ar : Mem, (∀ i, i < 24 → ar 0 i = aq 0 i) → post ar) : ∀ (d i : Nat) (ar : Mem), i + d = 24 → (∀ j, j < i → ar 0 j = aq 0 j) → PL_copy_2 aq post (d + 1) ar (nI i) := by
  intro d
  induction d with
  | zero =>
    intro i ar hi h
    unfold PL_copy_2
    rw [show i = 24 by omega]
    exact pc_t (nle' (a := 24) (b := 24) (by decide) (by decide)) (k ar fun j hj => h j (by omega))
  | succ d ih =>
    intro i ar hi h
    unfold PL_copy_2
    rw [ix_nI (show i < 2 ^ 31 by omega), nI_1]
    refine pc_f (nle (a := 24) (b := i) (by omega) (by decide)) ⟨in24 (by omega), in24 (by omega), fun ar4 e => ih (i + 1) ar4 (by omega) fun j hj => ?_⟩
    rw [e, mset_a]
    rcases Nat.lt_succ_iff_lt_or_eq.mp hj with g | g
    · rw [upd_o _ _ (by omega)]; exact h j g
    · rw [g, upd_a]
theorem l_copy {aq ar : Mem} {post : Mem → Prop} (k : ∀ ar : Mem, (∀ i, i < 24 → ar 0 i = aq 0 i) → post ar) : PL_copy aq ar post := ⟨25, l_copy_l k 24 0 ar (by omega) fun j h => absurd h (by omega)⟩
