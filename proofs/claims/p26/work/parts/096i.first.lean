/-! the crossings of the first ones of an order -/
def cA (K : Kr) (o : Nat → Nat) (t : Nat) : Nat := sm (fun k => sm (fun q => if gtU (K.up (o q)) (K.up (o k)) = true then 1 else 0) k) t
def prs (K : Kr) (cc o : Nat → Nat) (t j : Nat) : Prop := plOf o (K.lo (cc j)) < t ∧ plOf o (K.hi (cc j)) < t
def md (K : Kr) (cc o : Nat → Nat) (j : Nat) : Nat := plOf o (K.lo (cc j)) + plOf o (K.hi (cc j))
def wpr (K : Kr) (r : Nat) (cc o : Nat → Nat) (i j : Nat) : Nat := if md K cc o j < md K cc o i then CI K r cc j i else if md K cc o i < md K cc o j then CI K r cc i j else 0
def wt (K : Kr) (r : Nat) (cc o : Nat → Nat) (t i j : Nat) : Nat := if plOf o (K.lo (cc i)) < t ∧ plOf o (K.hi (cc i)) < t ∧ plOf o (K.lo (cc j)) < t ∧ plOf o (K.hi (cc j)) < t then wpr K r cc o i j else 0
def cB (K : Kr) (r m : Nat) (cc o : Nat → Nat) (t : Nat) : Nat := sm (fun i => sm (fun j => wt K r cc o t i j) i) m
def pcs (K : Kr) (r m : Nat) (cc o : Nat → Nat) (t : Nat) : Nat := cA K o t + cB K r m cc o t
theorem pl_o {K : Kr} {r : Nat} {o : Nat → Nat} (h6 : K.sz r ≤ 6) (O : isO K r o) {p : Nat} (hp : p < K.np) (hr : K.row p = r) : plOf o p < K.sz r ∧ o (plOf o p) = p := by
  obtain ⟨k, hk, e⟩ := O.2.2 p hp hr
  rw [plOf_of h6 hk e O.2.1]
  exact ⟨hk, e⟩
theorem pl_ok {K : Kr} {r : Nat} {o : Nat → Nat} (h6 : K.sz r ≤ 6) (O : isO K r o) {k : Nat} (hk : k < K.sz r) : plOf o (o k) = k := plOf_of h6 hk rfl O.2.1
theorem pl_in {K : Kr} {r : Nat} {o : Nat → Nat} (h6 : K.sz r ≤ 6) (O : isO K r o) {p t : Nat} (ht : t ≤ K.sz r) (hp : p < K.np) (hr : K.row p = r) : (∃ q, q < t ∧ o q = p) ↔ plOf o p < t := by
  constructor
  · rintro ⟨q, hq, rfl⟩
    rw [pl_ok h6 O (by omega)]; exact hq
  · exact fun h => ⟨_, h, (pl_o h6 O hp hr).2⟩
theorem pcn_cnt {K : Kr} {r p k : Nat} {o : Nat → Nat} (hn : K.np ≤ 20) (O : isO K r o) (hk : k ≤ K.sz r) {y : Int32} (hy : BS y (fun i => (∃ q, q < k ∧ o q = i) ∧ XL3 K r p i)) : pcn y 20 = sm (fun q => if gtU (K.up (o q)) (K.up p) = true then 1 else 0) k := by
  have h1 : pcn y 20 = sm (fun i => sm (fun q => if o q = i then (if gtU (K.up (o q)) (K.up p) = true then 1 else 0) else 0) k) 20 := sm_congr fun i hi => by
    have b := hy i (by omega)
    by_cases g : bt y i = true
    · rw [if_pos g]
      obtain ⟨⟨q0, hq, e⟩, x1, x2, x3⟩ := b.mp g
      rw [sm_single (a := q0) hq (fun q h2 hne => if_neg fun e2 => hne (O.2.1 q q0 (by omega) (by omega) (by rw [e, e2]))), if_pos e, e, if_pos x3]
    · rw [if_neg g]
      refine (sm_none fun q hq => ?_).symm
      by_cases e : o q = i
      · rw [if_pos e]
        refine if_neg fun x => g (b.mpr ⟨⟨q, hq, e⟩, ?_⟩)
        have h := O.1 q (by omega)
        rw [← e]
        exact ⟨h.1, h.2, x⟩
      · exact if_neg e
  rw [h1, sm_swap]
  refine sm_congr fun q hq => ?_
  have h := (O.1 q (by omega)).1
  rw [sm_single (a := o q) (by omega) (fun i _ hne => if_neg fun e => hne e.symm), if_pos rfl]
theorem b_sub {x : Int32} {S : Nat → Prop} (hx : BS x S) {a b : Nat} (ha : a < 32) (hb : b < 32) : (x &&& ((1 <<< (nI a &&& 31)) ||| (1 <<< (nI b &&& 31))) = ((1 <<< (nI a &&& 31)) ||| (1 <<< (nI b &&& 31)))) ↔ (S a ∧ S b) := by
  have hab := (BS.one ha).or (BS.one hb)
  have hxab := hx.and hab
  constructor
  · intro e
    rw [e] at hxab
    have i1 := (hxab a ha).mp ((hab a ha).mpr (Or.inl rfl))
    have i2 := (hxab b hb).mp ((hab b hb).mpr (Or.inr rfl))
    exact ⟨i1.1, i2.1⟩
  · rintro ⟨h1, h2⟩
    refine (hxab.cg fun i _ => ⟨fun h => h.2, fun h => ⟨?_, h⟩⟩).eq hab
    rcases h with rfl | rfl
    · exact h1
    · exact h2
/-- the middle of a couple, as noted -/
def mI (K : Kr) (cc o : Nat → Nat) (t j : Nat) : Int32 := if plOf o (K.lo (cc j)) < t ∧ plOf o (K.hi (cc j)) < t then nI (md K cc o j) else -1
theorem md_lt (K : Kr) (cc o : Nat → Nat) (j : Nat) : md K cc o j < 11 := by
  have a := plOf_lt o (K.lo (cc j))
  have b := plOf_lt o (K.hi (cc j))
  unfold md; omega
theorem c_from_in {K : Kr} {r m t i c0 : Nat} {cc o : Nat → Nat} {x : Mem} (P : PR x K r m cc) (hi : i < m) (h7 : ∀ j, j < i + 1 → x 7 j = mI K cc o t j) {x1 : Int32} {post : Int32 → Mem → Prop} {K4 : Mem → Int32 → Int32 → Int32 → Prop} (k : K4 x x1 (nI (c0 + sm (fun j => wt K r cc o t i j) i)) (nI (i + 1))) : ∀ d j : Nat, j + d = i → PX3_crossingsFrom_76 post K4 (d + 1) x x1 (nI (c0 + sm (fun j => wt K r cc o t i j) j)) (nI i) (nI j) := by
  have hm := P.2.2.1.1
  have hC := P.2.2.2.2.2.2
  intro d
  induction d with
  | zero =>
    intro j hj
    unfold PX3_crossingsFrom_76
    rw [nI_1]
    refine pc_t (nle' (by omega) (by omega)) ?_
    rw [show j = i by omega]; exact k
  | succ d ih =>
    intro j hj
    have e := ih (j + 1) (by omega)
    rw [sm_s] at e
    have m1 := md_lt K cc o i
    have m2 := md_lt K cc o j
    unfold PX3_crossingsFrom_76
    rw [ix_nI (show i < 2 ^ 31 by omega), ix_nI (show j < 2 ^ 31 by omega), h7 i (by omega), h7 j (by omega), nI_1, nI_1]
    refine pc_f (nle (by omega) (by omega)) ⟨in_nI (by omega) (by omega), ?_⟩
    by_cases g : plOf o (K.lo (cc i)) < t ∧ plOf o (K.hi (cc i)) < t
    · rw [show mI K cc o t i = nI (md K cc o i) from if_pos g]
      refine pc_f (nI_ne_m1 (by omega)) ⟨in_nI (by omega) (by omega), ?_⟩
      by_cases g2 : plOf o (K.lo (cc j)) < t ∧ plOf o (K.hi (cc j)) < t
      · rw [show mI K cc o t j = nI (md K cc o j) from if_pos g2]
        have ew : wt K r cc o t i j = wpr K r cc o i j := if_pos ⟨g.1, g.2, g2.1, g2.2⟩
        rw [ew] at e
        refine pd_f (nI_ne_m1 (by omega)) ⟨in_nI (by omega) (by omega), in_nI (by omega) (by omega), ?_⟩
        by_cases g3 : md K cc o j < md K cc o i
        · rw [show wpr K r cc o i j = CI K r cc j i from if_pos g3] at e
          refine pc_f (nle g3 (by omega)) ⟨in_nI (by omega) (by omega), in_nI (by omega) (by omega), fun q24 e24 => ?_⟩
          rw [e24, hC j i (by omega) hi, nI_add, Nat.add_assoc]; exact e
        · refine pc_t (nI_leq (by omega) (by omega) g3) ⟨in_nI (by omega) (by omega), in_nI (by omega) (by omega), ?_⟩
          by_cases g4 : md K cc o i < md K cc o j
          · rw [show wpr K r cc o i j = CI K r cc i j by unfold wpr; rw [if_neg g3, if_pos g4]] at e
            refine pc_f (nle g4 (by omega)) ⟨in_nI (by omega) (by omega), in_nI (by omega) (by omega), fun q21 e21 => ?_⟩
            rw [e21, hC i j hi (by omega), nI_add, Nat.add_assoc]; exact e
          · rw [show wpr K r cc o i j = 0 by unfold wpr; rw [if_neg g3, if_neg g4]] at e
            exact pc_t (nI_leq (by omega) (by omega) g4) e
      · rw [show mI K cc o t j = -1 from if_neg g2]
        have ew : wt K r cc o t i j = 0 := if_neg fun q => g2 ⟨q.2.2.1, q.2.2.2⟩
        rw [ew] at e
        exact pd_t rfl e
    · rw [show mI K cc o t i = -1 from if_neg g]
      refine pc_t rfl ?_
      have ez : ∀ j2, wt K r cc o t i j2 = 0 := fun j2 => if_neg fun q => g ⟨q.1, q.2.1⟩
      rw [sm_none (fun j2 _ => ez j2)] at k ⊢
      exact k
theorem PR.s27 {x x2 : Mem} {K : Kr} {r m : Nat} {cc : Nat → Nat} (P : PR x K r m cc) (f : ∀ j, j ≠ 0 → j ≠ 1 → j ≠ 2 → j ≠ 7 → j ≠ 12 → x2 j = x j) : PR x2 K r m cc := by
  obtain ⟨p1, p2, p3, p4, p5, p6, p7⟩ := P
  refine ⟨?_, fun p a b => ?_, ⟨p3.1, ?_⟩, fun j hj => ?_, p5, p6, fun i j hi hj => ?_⟩
  · rw [f 10 (by decide) (by decide) (by decide) (by decide) (by decide)]; exact p1
  · rw [f 3 (by decide) (by decide) (by decide) (by decide) (by decide)]; exact p2 p a b
  · rw [f 11 (by decide) (by decide) (by decide) (by decide) (by decide)]; exact p3.2
  · rw [f 5 (by decide) (by decide) (by decide) (by decide) (by decide), f 6 (by decide) (by decide) (by decide) (by decide) (by decide)]; exact p4 j hj
  · rw [f _ (by omega) (by omega) (by omega) (by omega) (by omega)]; exact p7 i j hi hj
theorem c_from_out {K : Kr} (W : WF K) {r m t : Nat} (hr : r < 4) {cc o : Nat → Nat} (O : isO K r o) (ht : t ≤ K.sz r) {x0 : Mem} (P : PR x0 K r m cc) (h2 : ∀ q, q < t → x0 2 (o q) = nI q) {x1 : Int32} (hx : BS x1 (fun i => ∃ q, q < t ∧ o q = i)) {post : Int32 → Mem → Prop} (k : ∀ x, (∀ j, j ≠ 7 → x j = x0 j) → post (nI (cB K r m cc o t)) x) : ∀ (d i : Nat) (x : Mem), i + d = m → (∀ j, j ≠ 7 → x j = x0 j) → (∀ j, j < i → x 7 j = mI K cc o t j) → PX3_crossingsFrom_4 post (d + 1) x x1 (nI (sm (fun i => sm (fun j => wt K r cc o t i j) i) i)) (nI i) := by
  have h6 := W.sz6 hr
  have hn := W.np20
  have hm := P.2.2.1.1
  intro d
  induction d with
  | zero =>
    intro i x hi f h7
    unfold PX3_crossingsFrom_4
    rw [f 11 (by decide), P.2.2.1.2]
    refine pc_t (nle' (by omega) (by omega)) ?_
    rw [show i = m by omega]; exact k x f
  | succ d ih =>
    intro i x hi f h7
    have hi2 : i < m := by omega
    have p4 := P.2.2.2.1 i hi2
    have l1 := W.lo_np p4.1
    have l2 := W.hi_np p4.1
    have l3 := W.row_eq p4.1
    have q1 := pl_in h6 O ht l1 p4.2.1
    have q2 := pl_in h6 O ht l2 (by omega)
    have o1 := pl_o h6 O l1 p4.2.1
    have o2 := pl_o h6 O l2 (by omega)
    have step : ∀ z : Int32, z = mI K cc o t i → PX3_crossingsFrom_72 post (PX3_crossingsFrom_4 post (d + 1)) x x1 (nI (sm (fun i => sm (fun j => wt K r cc o t i j) i) i)) (nI i) z (nI i) := fun z hz => by
      unfold PX3_crossingsFrom_72
      rw [ix_nI (show i < 2 ^ 31 by omega)]
      refine ⟨in_nI (by omega) (by omega), fun x7 e7 => ?_⟩
      have f7 : ∀ j, j ≠ 7 → x7 j = x0 j := fun j a => by rw [e7, mset_o _ _ _ a]; exact f j a
      have g7 : ∀ j, j < i + 1 → x7 7 j = mI K cc o t j := fun j hj => by
        rw [e7, mset_a]
        rcases Nat.lt_succ_iff_lt_or_eq.mp hj with g | rfl
        · rw [upd_o _ _ (by omega)]; exact h7 j g
        · rw [upd_a]; exact hz
      have e := ih (i + 1) x7 (by omega) f7 g7
      rw [sm_s] at e
      exact ⟨_, c_from_in (c0 := sm (fun i => sm (fun j => wt K r cc o t i j) i) i) (P.s27 fun j _ _ _ d _ => f7 j d) hi2 g7 e i 0 (by omega)⟩
    unfold PX3_crossingsFrom_4
    rw [f 11 (by decide), P.2.2.1.2, ix_nI (show i < 2 ^ 31 by omega), f 5 (by decide), f 6 (by decide), p4.2.2.1, p4.2.2.2]
    refine pc_f (nle hi2 (by omega)) ⟨in_nI (by omega) (by omega), in_nI (by omega) (by omega), fun q4 e4 => ?_⟩
    rw [e4]
    have bs := b_sub hx (show K.lo (cc i) < 32 by omega) (show K.hi (cc i) < 32 by omega)
    by_cases g : plOf o (K.lo (cc i)) < t ∧ plOf o (K.hi (cc i)) < t
    · refine pd_t (bs.mpr ⟨q1.mpr g.1, q2.mpr g.2⟩) ⟨in_nI (by omega) (by omega), in_nI (by omega) (by omega), in_nI (by omega) (by omega), in_nI (by omega) (by omega), step _ ?_⟩
      rw [ix_nI (show K.lo (cc i) < 2 ^ 31 by omega), ix_nI (show K.hi (cc i) < 2 ^ 31 by omega), f 2 (by decide)]
      have a1 := h2 _ g.1
      have a2 := h2 _ g.2
      rw [o1.2] at a1
      rw [o2.2] at a2
      rw [a1, a2, nI_add]
      exact (if_pos g).symm
    · exact pd_f (fun q => g ⟨q1.mp (bs.mp q).1, q2.mp (bs.mp q).2⟩) (step _ (if_neg g).symm)
theorem c_first_l {K : Kr} (W : WF K) {r m t : Nat} (hr : r < 4) {cc o : Nat → Nat} (O : isO K r o) (ht : t ≤ K.sz r) {x0 : Mem} (P : PR x0 K r m cc) (h0 : ∀ q, q < K.sz r → x0 0 q = nI (o q)) {post : Int32 → Mem → Prop} (k : ∀ x, (∀ j, j ≠ 2 → j ≠ 7 → x j = x0 j) → post (nI (pcs K r m cc o t)) x) : ∀ (d i : Nat) (x : Mem) (th : Int32), i + d = t → (∀ j, j ≠ 2 → x j = x0 j) → (∀ q, q < i → x 2 (o q) = nI q) → BS th (fun p => ∃ q, q < i ∧ o q = p) → PX3_crossingsOfFirst_7 post (d + 1) x (nI t) (nI (cA K o i)) th (nI i) := by
  have h6 := W.sz6 hr
  have hn := W.np20
  intro d
  induction d with
  | zero =>
    intro i x th hi f h2 hb
    have ei : i = t := by omega
    subst ei
    unfold PX3_crossingsOfFirst_7
    refine pc_t (nle' (by omega) (by omega)) ⟨_, c_from_out W hr O ht (P.s27 fun j _ _ c _ _ => f j c) h2 hb (fun x4 f4 => ?_) m 0 x (by omega) (fun _ _ => rfl) (fun j h => absurd h (by omega))⟩
    rw [nI_add]
    exact k x4 fun j a b => by rw [f4 j b, f j a]
  | succ d ih =>
    intro i x th hi f h2 hb
    have hi2 : i < K.sz r := by omega
    have oi := O.1 i hi2
    unfold PX3_crossingsOfFirst_7
    rw [ix_nI (show i < 2 ^ 31 by omega), f 0 (by decide), h0 i hi2, nI_1]
    refine pc_f (nle (by omega) (by omega)) ⟨in_nI (by omega) (by omega), fun q6 e6 => ?_⟩
    subst e6
    rw [ix_nI (show o i < 2 ^ 31 by omega), f 3 (by decide)]
    have b3 := P.2.1 (o i) oi.1 oi.2
    have hand := hb.and b3
    refine ⟨in_nI (by omega) (by omega), bitCount_of (fun q h20 h32 => hand.f h32 fun z => by have := z.2.1; omega) fun q10 e10 q11 e11 => ⟨in_nI (by omega) (by omega), fun x13 e13 => ?_⟩⟩
    rw [pcn_cnt hn O (by omega) hand, nI_add] at e10
    rw [e10, e11]
    refine ih (i + 1) x13 _ (by omega) (fun j a => by rw [e13, mset_o _ _ _ a]; exact f j a) (fun q hq => ?_) ?_
    · rw [e13, mset_a]
      rcases Nat.lt_succ_iff_lt_or_eq.mp hq with g | rfl
      · rw [upd_o _ _ (fun e => by have := O.2.1 q i (by omega) hi2 e; omega)]; exact h2 q g
      · rw [upd_a]
    · refine (hb.or (BS.one (a := o i) (by omega))).cg fun p _ => ⟨?_, ?_⟩
      · rintro (⟨q, hq, e⟩ | e)
        · exact ⟨q, by omega, e⟩
        · exact ⟨i, by omega, e.symm⟩
      · rintro ⟨q, hq, e⟩
        rcases Nat.lt_succ_iff_lt_or_eq.mp hq with g | rfl
        · exact Or.inl ⟨q, g, e⟩
        · exact Or.inr e.symm
theorem c_first {K : Kr} (W : WF K) {r m t : Nat} (hr : r < 4) {cc o : Nat → Nat} (O : isO K r o) (ht : t ≤ K.sz r) {x : Mem} (P : PR x K r m cc) (h0 : ∀ q, q < K.sz r → x 0 q = nI (o q)) {post : Int32 → Mem → Prop} (k : ∀ x2, (∀ j, j ≠ 2 → j ≠ 7 → x2 j = x j) → post (nI (pcs K r m cc o t)) x2) : PX3_crossingsOfFirst x (nI t) post :=
  ⟨_, c_first_l W hr O ht P h0 k t 0 x 0 (by omega) (fun _ _ => rfl) (fun q h => absurd h (by omega)) (BS.zero.cg fun i _ => ⟨fun h => h.elim, fun ⟨q, hq, _⟩ => absurd hq (by omega)⟩)⟩
/-! these are the crossings, and they grow -/
theorem up_setO {K : Kr} {r : Nat} {o : Nat → Nat} {p : Nat} (h : ∀ c, K.par p = some c → K.row (K.lo c) ≠ r ∧ K.row (K.hi c) ≠ r) : (K.setO r o).up p = K.up p := by
  show (K.par p).map (K.setO r o).mid = (K.par p).map K.mid
  cases e : K.par p with
  | none => rfl
  | some c =>
    have a := h c e
    show some (((K.setO r o).pl (K.lo c)) + ((K.setO r o).pl (K.hi c))) = some (K.pl (K.lo c) + K.pl (K.hi c))
    rw [setO_pl a.1, setO_pl a.2]
theorem cA_X {K : Kr} (W : WF K) {r : Nat} (hr : r < 4) {o : Nat → Nat} (O : isO K r o) : cA K o (K.sz r) = (K.setO r o).X r := by
  have up : ∀ q, q < K.sz r → (K.setO r o).up ((K.setO r o).od r q) = K.up (o q) := fun q hq => by
    rw [setO_od]
    have h := O.1 q hq
    refine up_setO fun c e => ?_
    have a := W.par_row h.1 e
    have b := W.row_eq (W.par_c h.1 e)
    omega
  unfold cA Kr.X
  refine sm_congr fun q hq => ?_
  show _ = og _ q ((K.setO r o).up ((K.setO r o).od r q))
  rw [up q hq]
  have cut : sm (fun q2 => if q2 < q ∧ gtU (K.up (o q2)) (K.up (o q)) = true then 1 else 0) (K.sz r) = sm (fun q2 => if gtU (K.up (o q2)) (K.up (o q)) = true then 1 else 0) q := by
    rw [sm_cut (a := q) (by omega) (fun i h1 h2 => if_neg fun z => by omega)]
    refine sm_congr fun i hi => ?_
    by_cases g : gtU (K.up (o i)) (K.up (o q)) = true
    · rw [if_pos ⟨hi, g⟩, if_pos g]
    · rw [if_neg (fun z => g z.2), if_neg g]
  rw [← cut]
  cases hu : K.up (o q) with
  | none =>
    show _ = 0
    refine sm_none fun i hi => if_neg fun z => ?_
    have := z.2
    cases h : K.up (o i) <;> rw [h] at this <;> cases this
  | some x =>
    show _ = sm (fun q2 => og (fun q2 x2 => xx q x q2 x2) q2 ((K.setO r o).up ((K.setO r o).od r q2))) (K.sz r)
    refine sm_congr fun i hi => ?_
    rw [up i hi]
    cases h : K.up (o i) with
    | none => exact if_neg fun z => by cases z.2
    | some x2 =>
      show _ = xx q x i x2
      unfold xx
      have e : (gtU (some x2) (some x) = true) = (x < x2) := by show (decide (x < x2) = true) = _; rw [decide_eq_true_eq]
      by_cases g : i < q ∧ x < x2
      · rw [if_pos ⟨g.1, by rw [e]; exact g.2⟩, if_pos ⟨g.2, g.1⟩]
      · rw [if_neg (fun z => g ⟨z.1, by have := z.2; rw [e] at this; exact this⟩), if_neg (fun z => g ⟨z.2, z.1⟩)]
theorem sm_tri (T : Nat → Nat → Nat) (hd : ∀ i, T i i = 0) : ∀ m, sm (fun i => sm (fun j => T i j) m) m = sm (fun i => sm (fun j => T i j + T j i) i) m
  | 0 => rfl
  | m + 1 => by
    rw [sm_s, sm_s, sm_s, ← sm_tri T hd m, hd m]
    have h1 : sm (fun i => sm (fun j => T i j) (m + 1)) m = sm (fun i => sm (fun j => T i j) m) m + sm (fun i => T i m) m := by
      rw [← sm_add]; rfl
    have h2 : sm (fun j => T m j + T j m) m = sm (fun j => T m j) m + sm (fun j => T j m) m := sm_add _ _ _
    rw [h1, h2]; omega
theorem cB_X {K : Kr} (W : WF K) {r m : Nat} (hr : r < 4) {cc o : Nat → Nat} (O : isO K r o) {x : Mem} (P : PR x K r m cc) : cB K r m cc o (K.sz r) = if r < 3 then (K.setO r o).X (r + 1) else 0 := by
  obtain ⟨_, _, _, p4, p5, p6, _⟩ := P
  have h6 := W.sz6 hr
  -- all couples are there
  have full : cB K r m cc o (K.sz r) = sm (fun i => sm (fun j => wpr K r cc o i j) i) m := sm_congr fun i hi => sm_congr fun j hj => if_pos (by
    have a := p4 i hi
    have b := p4 j (by omega)
    have l3 := W.row_eq a.1
    have l4 := W.row_eq b.1
    exact ⟨(pl_o h6 O (W.lo_np a.1) a.2.1).1, (pl_o h6 O (W.hi_np a.1) (by omega)).1, (pl_o h6 O (W.lo_np b.1) b.2.1).1, (pl_o h6 O (W.hi_np b.1) (by omega)).1⟩)
  rw [full]
  by_cases g : r < 3
  · rw [if_pos g]
    have eb : K.szb r = K.sz (r + 1) := if_pos g
    have mid : ∀ j, j < m → (K.setO r o).mid (cc j) = md K cc o j := fun j hj => by
      have a := p4 j hj
      have l3 := W.row_eq a.1
      show plOf (fup K.od r o (K.row (K.lo (cc j)))) _ + plOf (fup K.od r o (K.row (K.hi (cc j)))) _ = _
      rw [show K.row (K.hi (cc j)) = r by omega, a.2.1, fup_a]; rfl
    have tri : sm (fun i => sm (fun j => wpr K r cc o i j) i) m = sm (fun i => sm (fun j => if md K cc o i < md K cc o j then CI K r cc i j else 0) m) m := by
      rw [sm_tri (fun i j => if md K cc o i < md K cc o j then CI K r cc i j else 0) (fun i => if_neg (by omega))]
      refine sm_congr fun i _ => sm_congr fun j _ => ?_
      unfold wpr
      rcases Nat.lt_trichotomy (md K cc o j) (md K cc o i) with q | q | q
      · rw [if_pos q, if_neg (show ¬ md K cc o i < md K cc o j by omega), if_pos q, Nat.zero_add]
      · rw [if_neg (show ¬ md K cc o j < md K cc o i by omega), if_neg (show ¬ md K cc o i < md K cc o j by omega), if_neg (show ¬ md K cc o j < md K cc o i by omega)]
      · rw [if_neg (show ¬ md K cc o j < md K cc o i by omega), if_pos q, if_neg (show ¬ md K cc o j < md K cc o i by omega), Nat.add_zero]
    rw [tri]
    have od1 : (K.setO r o).od (r + 1) = K.od (r + 1) := fup_o _ _ (by omega)
    have F : ∀ q q2, q < K.szb r → q2 < K.szb r → og (fun q x => og (fun q2 x2 => xx q x q2 x2) q2 ((K.setO r o).up (K.od (r + 1) q2))) q ((K.setO r o).up (K.od (r + 1) q)) = sm (fun i => sm (fun j => if md K cc o i < md K cc o j then cI1 K r cc i j q2 q else 0) m) m := fun q q2 hq hq2 => by
      have zero : (K.par (K.od (r + 1) q) = none ∨ K.par (K.od (r + 1) q2) = none) → sm (fun i => sm (fun j => if md K cc o i < md K cc o j then cI1 K r cc i j q2 q else 0) m) m = 0 := fun z => sm_none fun i _ => sm_none fun j _ => by
        have : cI1 K r cc i j q2 q = 0 := if_neg fun y => by
          rcases z with z | z
          · rw [z] at y; cases y.2.1
          · rw [z] at y; cases y.2.2
        rw [this]; split <;> rfl
      cases e1 : K.par (K.od (r + 1) q) with
      | none =>
        rw [zero (Or.inl e1), up_none (K := K.setO r o) e1]; rfl
      | some c =>
        obtain ⟨i0, hi0, ei⟩ := p6 q c hq e1
        rw [up_some (K := K.setO r o) e1]
        show og _ q2 ((K.setO r o).up (K.od (r + 1) q2)) = _
        cases e2 : K.par (K.od (r + 1) q2) with
        | none => rw [zero (Or.inr e2), up_none (K := K.setO r o) e2]; rfl
        | some c2 =>
          obtain ⟨j0, hj0, ej⟩ := p6 q2 c2 hq2 e2
          rw [up_some (K := K.setO r o) e2]
          show xx q ((K.setO r o).mid c) q2 ((K.setO r o).mid c2) = _
          have v : ∀ i j, i < m → j < m → cI1 K r cc i j q2 q = if i = i0 ∧ j = j0 ∧ q2 < q then 1 else 0 := fun i j hi hj => by
            unfold cI1
            by_cases y : i = i0 ∧ j = j0 ∧ q2 < q
            · rw [if_pos y, if_pos ⟨y.2.2, by rw [y.1, ei]; exact e1, by rw [y.2.1, ej]; exact e2⟩]
            · rw [if_neg y, if_neg fun z => y ⟨?_, ?_, z.1⟩]
              · have := z.2.1; rw [e1, ← ei] at this; exact (p5 i0 i hi0 hi (Option.some.inj this)).symm
              · have := z.2.2; rw [e2, ← ej] at this; exact (p5 j0 j hj0 hj (Option.some.inj this)).symm
          have z1 : ∀ i j, i < m → j < m → i ≠ i0 → cI1 K r cc i j q2 q = 0 := fun i j hi hj hne => by rw [v i j hi hj]; exact if_neg (fun z => hne z.1)
          have z2 : ∀ j, j < m → j ≠ j0 → cI1 K r cc i0 j q2 q = 0 := fun j hj hne => by rw [v i0 j hi0 hj]; exact if_neg (fun z => hne z.2.1)
          rw [sm_single (a := i0) hi0 (fun i hi hne => sm_none fun j hj => by rw [z1 i j hi hj hne]; split <;> rfl), sm_single (a := j0) hj0 (fun j hj hne => by rw [z2 j hj hne]; split <;> rfl), v i0 j0 hi0 hj0, ← ei, ← ej, mid i0 hi0, mid j0 hj0]
          unfold xx
          by_cases y1 : md K cc o i0 < md K cc o j0
          · rw [if_pos y1]
            by_cases y2 : q2 < q
            · rw [if_pos ⟨y1, y2⟩, if_pos ⟨rfl, rfl, y2⟩]
            · rw [if_neg (fun z => y2 z.2), if_neg (fun z => y2 z.2.2)]
          · rw [if_neg y1, if_neg (fun z => y1 z.1)]
    have EX : (K.setO r o).X (r + 1) = sm (fun q => sm (fun q2 => sm (fun i => sm (fun j => if md K cc o i < md K cc o j then cI1 K r cc i j q2 q else 0) m) m) (K.szb r)) (K.szb r) := by
      unfold Kr.X
      rw [od1, show (K.setO r o).sz (r + 1) = K.szb r from eb.symm]
      refine sm_congr fun q hq => ?_
      rw [← sm_congr (fun q2 hq2 => F q q2 hq hq2)]
      cases (K.setO r o).up (K.od (r + 1) q) with
      | none => exact (sm_none fun _ _ => rfl).symm
      | some x => rfl
    rw [EX]
    have s1 : ∀ q, sm (fun q2 => sm (fun i => sm (fun j => if md K cc o i < md K cc o j then cI1 K r cc i j q2 q else 0) m) m) (K.szb r) = sm (fun i => sm (fun j => sm (fun q2 => if md K cc o i < md K cc o j then cI1 K r cc i j q2 q else 0) (K.szb r)) m) m := fun q => by
      rw [sm_swap (fun q2 i => sm (fun j => if md K cc o i < md K cc o j then cI1 K r cc i j q2 q else 0) m)]
      exact sm_congr fun i _ => sm_swap _ _ _
    rw [sm_congr (fun q _ => s1 q), sm_swap (fun q i => sm (fun j => sm (fun q2 => if md K cc o i < md K cc o j then cI1 K r cc i j q2 q else 0) (K.szb r)) m)]
    refine sm_congr fun i _ => ?_
    rw [sm_swap (fun q j => sm (fun q2 => if md K cc o i < md K cc o j then cI1 K r cc i j q2 q else 0) (K.szb r))]
    refine sm_congr fun j _ => ?_
    by_cases y : md K cc o i < md K cc o j
    · rw [if_pos y]
      unfold CI
      rw [sm_swap (fun a b => cI1 K r cc i j a b)]
      exact sm_congr fun q _ => sm_congr fun q2 _ => (if_pos y).symm
    · rw [if_neg y]
      exact (sm_none fun q _ => sm_none fun q2 _ => if_neg y).symm
  · rw [if_neg g]
    have e0 : K.szb r = 0 := if_neg g
    have z : ∀ i j, CI K r cc i j = 0 := fun i j => by unfold CI; rw [e0]; rfl
    refine sm_none fun i _ => sm_none fun j _ => ?_
    unfold wpr
    rw [z, z]
    repeat' split
    all_goals rfl
theorem pcs_Y {K : Kr} (W : WF K) {r m : Nat} (hr : r < 4) {cc o : Nat → Nat} (O : isO K r o) {x : Mem} (P : PR x K r m cc) : pcs K r m cc o (K.sz r) = K.Yo r o := by
  unfold pcs Kr.Yo
  rw [cA_X W hr O, cB_X W hr O P]
theorem pcs_le (K : Kr) (r m : Nat) (cc o : Nat → Nat) {t t2 : Nat} (h : t ≤ t2) : pcs K r m cc o t ≤ pcs K r m cc o t2 := by
  have a : cA K o t ≤ cA K o t2 := sm_mono _ h
  have b : cB K r m cc o t ≤ cB K r m cc o t2 := sm_le fun i _ => sm_le fun j _ => by
    unfold wt
    by_cases g : plOf o (K.lo (cc i)) < t ∧ plOf o (K.hi (cc i)) < t ∧ plOf o (K.lo (cc j)) < t ∧ plOf o (K.hi (cc j)) < t
    · rw [if_pos g, if_pos (by omega)]; exact Nat.le_refl _
    · rw [if_neg g]; exact Nat.zero_le _
  unfold pcs; omega
theorem pcs_cg {K : Kr} (W : WF K) {r m t : Nat} (hr : r < 4) {cc o o2 : Nat → Nat} (O : isO K r o) (O2 : isO K r o2) (ht : t ≤ K.sz r) (h : ∀ k, k < t → o k = o2 k) {x : Mem} (P : PR x K r m cc) : pcs K r m cc o t = pcs K r m cc o2 t := by
  have h6 := W.sz6 hr
  have a : cA K o t = cA K o2 t := sm_congr fun k hk => sm_congr fun q hq => by rw [h k hk, h q (by omega)]
  have one : ∀ p, p < K.np → K.row p = r → (plOf o p < t ↔ plOf o2 p < t) ∧ (plOf o p < t → plOf o p = plOf o2 p) := fun p hp hrow => by
    have e1 := pl_o h6 O hp hrow
    have e2 := pl_o h6 O2 hp hrow
    have f : plOf o p < t → plOf o p = plOf o2 p := fun g => by
      have := h _ g
      rw [e1.2] at this
      exact (plOf_of h6 e1.1 this.symm O2.2.1).symm
    have f2 : plOf o2 p < t → plOf o p = plOf o2 p := fun g => by
      have := h _ g
      rw [e2.2] at this
      exact plOf_of h6 e2.1 this O.2.1
    exact ⟨⟨fun g => by rw [← f g]; exact g, fun g => by rw [f2 g]; exact g⟩, f⟩
  have b : cB K r m cc o t = cB K r m cc o2 t := sm_congr fun i hi => sm_congr fun j hj => by
    have ai := P.2.2.2.1 i hi
    have aj := P.2.2.2.1 j (by omega)
    have ri := W.row_eq ai.1
    have rj := W.row_eq aj.1
    have q1 := one _ (W.lo_np ai.1) ai.2.1
    have q2 := one _ (W.hi_np ai.1) (by omega)
    have q3 := one _ (W.lo_np aj.1) aj.2.1
    have q4 := one _ (W.hi_np aj.1) (by omega)
    unfold wt
    by_cases g : plOf o (K.lo (cc i)) < t ∧ plOf o (K.hi (cc i)) < t ∧ plOf o (K.lo (cc j)) < t ∧ plOf o (K.hi (cc j)) < t
    · rw [if_pos g, if_pos ⟨q1.1.mp g.1, q2.1.mp g.2.1, q3.1.mp g.2.2.1, q4.1.mp g.2.2.2⟩]
      unfold wpr md
      rw [q1.2 g.1, q2.2 g.2.1, q3.2 g.2.2.1, q4.2 g.2.2.2]
    · rw [if_neg g, if_neg fun z => g ⟨q1.1.mpr z.1, q2.1.mpr z.2.1, q3.1.mpr z.2.2.1, q4.1.mpr z.2.2.2⟩]
  unfold pcs
  rw [a, b]
