/-! a row by parents: in both the one stable order -/
theorem sm_lt {f g : Nat → Nat} {a : Nat} : ∀ {n : Nat}, a < n → (∀ i, i < n → f i ≤ g i) → f a < g a → sm f n < sm g n
  | 0, h, _, _ => absurd h (by omega)
  | n + 1, h, hl, hs => by
    rw [sm_s, sm_s]
    have l := hl n (by omega)
    by_cases e : n = a
    · subst e
      have := sm_le (f := f) (g := g) (n := n) (fun i hi => hl i (by omega))
      omega
    · have := sm_lt (f := f) (g := g) (a := a) (n := n) (by omega) (fun i hi => hl i (by omega)) hs
      omega
/-- one-to-one within n: everything is met -/
theorem pig : ∀ (n : Nat) (f : Nat → Nat), (∀ i, i < n → f i < n) → (∀ i j, i < n → j < n → f i = f j → i = j) → ∀ b, b < n → ∃ i, i < n ∧ f i = b
  | 0, _, _, _, b, hb => absurd hb (by omega)
  | n + 1, f, h1, h2, b, hb => by
    have hfn := h1 n (by omega)
    have g1 : ∀ i, i < n → (if f i = n then f n else f i) < n := fun i hi => by
      have a1 := h1 i (by omega)
      split
      · rename_i e
        rcases Nat.lt_or_ge (f n) n with q | q
        · exact q
        · have := h2 i n (by omega) (by omega) (by omega)
          omega
      · omega
    have g2 : ∀ i j, i < n → j < n → (if f i = n then f n else f i) = (if f j = n then f n else f j) → i = j := fun i j hi hj => by
      by_cases e1 : f i = n
      · by_cases e2 : f j = n
        · intro _; exact h2 i j (by omega) (by omega) (by omega)
        · rw [if_pos e1, if_neg e2]; intro e
          have := h2 n j (by omega) (by omega) e
          omega
      · by_cases e2 : f j = n
        · rw [if_neg e1, if_pos e2]; intro e
          have := h2 i n (by omega) (by omega) e
          omega
        · rw [if_neg e1, if_neg e2]; exact h2 i j (by omega) (by omega)
    have ih := pig n (fun i => if f i = n then f n else f i) g1 g2
    rcases Nat.lt_or_ge b n with q | q
    · obtain ⟨i, hi, e⟩ := ih b q
      have e' : (if f i = n then f n else f i) = b := e
      by_cases e1 : f i = n
      · rw [if_pos e1] at e'; exact ⟨n, by omega, e'⟩
      · rw [if_neg e1] at e'; exact ⟨i, by omega, e'⟩
    · have eb : b = n := by omega
      rcases Nat.lt_or_ge (f n) n with q2 | q2
      · obtain ⟨i, hi, e⟩ := ih (f n) q2
        have e' : (if f i = n then f n else f i) = f n := e
        by_cases e1 : f i = n
        · exact ⟨i, by omega, by omega⟩
        · rw [if_neg e1] at e'
          have := h2 i n (by omega) (by omega) e'
          omega
      · exact ⟨n, by omega, by omega⟩
theorem incr_id {n : Nat} {f : Nat → Nat} (h1 : ∀ i, i < n → f i < n) (h2 : ∀ a b, a < b → b < n → f a < f b) : ∀ i, i < n → f i = i := by
  have lo : ∀ i, i < n → i ≤ f i := by
    intro i
    induction i with
    | zero => intro _; exact Nat.zero_le _
    | succ i ih => intro hi; have := ih (by omega); have := h2 i (i + 1) (by omega) hi; omega
  have up : ∀ d i, i + d < n → f i + d ≤ f (i + d) := by
    intro d
    induction d with
    | zero => intro i _; exact Nat.le_refl _
    | succ d ih => intro i hi; have := ih i (by omega); have := h2 (i + d) (i + (d + 1)) (by omega) hi; omega
  intro i hi
  have a := lo i hi
  have b := up (n - 1 - i) i (by omega)
  have c := h1 (i + (n - 1 - i)) (by omega)
  omega
def kyO : Option Nat → Nat
  | none => 1000
  | some m => m
/-- by what a person is ordered -/
def Kr.ky (K : Kr) (p : Nat) : Nat := kyO (K.up p)
theorem ky_le (K : Kr) (p : Nat) : K.ky p ≤ 1000 := by
  unfold Kr.ky
  cases h : K.up p with
  | none => exact Nat.le_refl _
  | some m => have := up11 K h; show m ≤ 1000; omega
def Kr.ck (K : Kr) (r k : Nat) : Nat := 6 * K.ky (K.od r k) + k
/-- where the one at place k comes to stand -/
def Kr.to (K : Kr) (r k : Nat) : Nat := sm (fun j => if K.ck r j < K.ck r k then 1 else 0) (K.sz r)
def Kr.inv (K : Kr) (r i : Nat) : Nat := sm (fun k => if K.to r k = i then k else 0) (K.sz r)
def Kr.bp (K : Kr) (r i : Nat) : Nat := K.od r (K.inv r i)
def Kr.mv (K : Kr) (r : Nat) : Nat := sm (fun k => if K.to r k = k then 0 else 1) (K.sz r)
theorem to_mono (K : Kr) (r : Nat) {a b : Nat} (ha : a < K.sz r) (h : K.ck r a < K.ck r b) : K.to r a < K.to r b := by
  refine sm_lt (a := a) ha (fun i hi => ?_) ?_
  · by_cases e : K.ck r i < K.ck r a
    · rw [if_pos e, if_pos (by omega)]; exact Nat.le_refl _
    · rw [if_neg e]; exact Nat.zero_le _
  · show (if K.ck r a < K.ck r a then 1 else 0) < (if K.ck r a < K.ck r b then 1 else 0)
    rw [if_neg (by omega), if_pos h]; decide
theorem to_lt (K : Kr) (r : Nat) {a : Nat} (ha : a < K.sz r) : K.to r a < K.sz r := by
  have h := sm_lt (f := fun j => if K.ck r j < K.ck r a then 1 else 0) (g := fun _ => 1) (a := a) (n := K.sz r) ha (fun i _ => by show (if _ then 1 else 0) ≤ 1; split <;> decide) (by show (if K.ck r a < K.ck r a then 1 else 0) < 1; rw [if_neg (by omega)]; decide)
  have h2 := sm_01 (f := fun _ => 1) (fun _ => Nat.le_refl _) (K.sz r)
  unfold Kr.to; omega
theorem ck_ne (K : Kr) {r a b : Nat} (ha : a < 6) (hb : b < 6) (h : K.ck r a = K.ck r b) : a = b := by unfold Kr.ck at h; omega
theorem to_inj {K : Kr} (W : WF K) {r : Nat} (hr : r < 4) {a b : Nat} (ha : a < K.sz r) (hb : b < K.sz r) (h : K.to r a = K.to r b) : a = b := by
  have h6 := W.sz6 hr
  rcases Nat.lt_trichotomy (K.ck r a) (K.ck r b) with g | g | g
  · have := to_mono K r ha g; omega
  · exact ck_ne K (by omega) (by omega) g
  · have := to_mono K r hb g; omega
theorem inv_to {K : Kr} (W : WF K) {r : Nat} (hr : r < 4) {k : Nat} (hk : k < K.sz r) : K.inv r (K.to r k) = k := by
  unfold Kr.inv
  rw [sm_single (a := k) hk (fun i hi hne => if_neg fun q => hne (to_inj W hr hi hk q)), if_pos rfl]
theorem to_inv {K : Kr} (W : WF K) {r : Nat} (hr : r < 4) {i : Nat} (hi : i < K.sz r) : K.inv r i < K.sz r ∧ K.to r (K.inv r i) = i := by
  obtain ⟨k, hk, e⟩ := pig (K.sz r) (K.to r) (fun a ha => to_lt K r ha) (fun a b ha hb => to_inj W hr ha hb) i hi
  rw [← e, inv_to W hr hk]
  exact ⟨hk, rfl⟩
theorem bp_isO {K : Kr} (W : WF K) {r : Nat} (hr : r < 4) : isO K r (K.bp r) := by
  refine ⟨fun k hk => ?_, fun i j hi hj e => ?_, fun p hp e => ?_⟩
  · have h := to_inv W hr hk
    exact W.2.2.1 r _ hr h.1
  · have h1 := to_inv W hr hi
    have h2 := to_inv W hr hj
    have h3 := W.2.2.2.1 r hr _ _ h1.1 h2.1 e
    rw [← h1.2, ← h2.2, h3]
  · have h := W.pl_sz hp
    rw [e] at h
    refine ⟨K.to r (K.pl p), to_lt K r h.1, ?_⟩
    show K.od r (K.inv r _) = p
    rw [inv_to W hr h.1]; exact h.2
theorem c_pbk_l {op : Mem} {K : Kr} {r n p : Nat} (hn : n ≤ 6) (hp : p < n) (h0 : ∀ k, k < n → op 0 k = nI (K.ky (K.od r k))) {post : Int32 → Prop} (k : post (nI (sm (fun j => if K.ck r j < K.ck r p then 1 else 0) n))) : ∀ d i : Nat, i + d = n → PX1_placeByKey_5 op post (d + 1) (nI p) (nI n) (nI (sm (fun j => if K.ck r j < K.ck r p then 1 else 0) i)) (nI i) := by
  intro d
  induction d with
  | zero =>
    intro i hi
    unfold PX1_placeByKey_5
    refine pc_t (nle' (by omega) (by omega)) ?_
    rw [show i = n by omega]; exact k
  | succ d ih =>
    intro i hi
    have e := ih (i + 1) (by omega)
    rw [sm_s] at e
    have b1 := ky_le K (K.od r i)
    have b2 := ky_le K (K.od r p)
    have c1 : K.ck r i = 6 * K.ky (K.od r i) + i := rfl
    have c2 : K.ck r p = 6 * K.ky (K.od r p) + p := rfl
    unfold PX1_placeByKey_5
    rw [ix_nI (show i < 2 ^ 31 by omega), ix_nI (show p < 2 ^ 31 by omega), h0 i (by omega), h0 p hp, nI_1, nI_1]
    refine pc_f (nle (by omega) (by omega)) ⟨in_nI (by omega) (by omega), in_nI (by omega) (by omega), ?_⟩
    by_cases g : K.ky (K.od r i) < K.ky (K.od r p)
    · rw [if_pos (by omega)] at e
      exact pc_t (nI_lt g (by omega)) e
    · refine pc_f (nI_nlt (by omega) (by omega)) ⟨in_nI (by omega) (by omega), in_nI (by omega) (by omega), ?_⟩
      by_cases g2 : K.ky (K.od r i) = K.ky (K.od r p)
      · refine pd_t (by rw [g2]) ?_
        by_cases g3 : p ≤ i
        · rw [if_neg (by omega)] at e
          exact pc_t (nle' g3 (by omega)) e
        · rw [if_pos (by omega)] at e
          exact pc_f (nle (by omega) (by omega)) e
      · rw [if_neg (by omega)] at e
        exact pd_f (nne (by omega) (by omega) g2) e
theorem c_lay66 {K : Kr} (W : WF K) {r : Nat} (hr : r < 4) {v : Mem} (C : CS v K) {post : Int32 → Mem → Mem → Prop} (k : ∀ op v2, CS v2 (K.setO r (K.bp r)) → post (nI (K.mv r)) op v2) : ∀ (d i : Nat) (op : Mem), i + d = K.sz r → (∀ q, q < K.sz r → op 0 q = nI (K.ky (K.od r q))) → (∀ q, q < i → op 1 (K.to r q) = nI (K.od r q)) → PX1_lay_66 post (d + 1) op v (nI r) (nI (K.sz r)) (nI (sm (fun k => if K.to r k = k then 0 else 1) i)) (nI i) := by
  have h6 := W.sz6 hr
  intro d
  induction d with
  | zero =>
    intro i op hi h0 h1
    have ei : i = K.sz r := by omega
    unfold PX1_lay_66
    refine pc_t (nle' (by omega) (by omega)) ⟨_, c_layAll_l C W hr (bp_isO W hr) (fun q hq => ?_) (fun v2 C2 => ?_) (K.sz r) 0 v (by omega) (LIv_0 _ _ _)⟩
    · have t := to_inv W hr hq
      have := h1 (K.inv r q) (by omega)
      rw [t.2] at this
      exact this
    · rw [ei]; exact k op v2 C2
  | succ d ih =>
    intro i op hi h0 h1
    have tl := to_lt K r (show i < K.sz r by omega)
    unfold PX1_lay_66
    refine pc_f (nle (by omega) (by omega)) ⟨_, c_pbk_l (r := r) h6 (show i < K.sz r by omega) h0 ?_ (K.sz r) 0 (by omega)⟩
    show PX5_personAt v (nI r) (nI i) _
    refine c_personAt C W hr (by omega) ⟨in_nI (show K.to r i < 6 by omega) (by omega), fun o16 e16 => ?_⟩
    have e16' : o16 = mset op 1 (K.to r i) (nI (K.od r i)) := by rw [e16, ix_nI (show sm (fun j => if K.ck r j < K.ck r i then 1 else 0) (K.sz r) < 2 ^ 31 from (show K.to r i < 2 ^ 31 by omega))]; rfl
    have e := ih (i + 1) o16 (by omega) (fun q hq => by rw [e16', mset_o _ _ _ (by decide)]; exact h0 q hq) (fun q hq => by
      rw [e16', mset_a]
      by_cases g : q = i
      · subst g; rw [upd_a]
      · rw [upd_o _ _ (fun x => g (to_inj W hr (by omega) (by omega) x))]; exact h1 q (by omega))
    rw [sm_s] at e
    show (nI (K.to r i) = nI i → _) ∧ _
    rw [nI_1 i, nI_1]
    by_cases g : K.to r i = i
    · rw [if_pos g] at e
      exact pc_t (by rw [g]) e
    · rw [if_neg g] at e
      exact pc_f (nne (by omega) (by omega) g) e
theorem c_lay14 {K : Kr} (W : WF K) {r : Nat} (hr : r < 4) {v : Mem} (C : CS v K) {post : Int32 → Mem → Mem → Prop} (k : ∀ op v2, CS v2 (K.setO r (K.bp r)) → post (nI (K.mv r)) op v2) : ∀ (d i : Nat) (op : Mem), i + d = K.sz r → (∀ q, q < i → op 0 q = nI (K.ky (K.od r q))) → PX1_lay_14 post (d + 1) op v (nI r) (nI (K.sz r)) (nI i) := by
  have h6 := W.sz6 hr
  intro d
  induction d with
  | zero =>
    intro i op hi h0
    unfold PX1_lay_14
    exact pc_t (nle' (by omega) (by omega)) ⟨_, c_lay66 W hr C k (K.sz r) 0 op (by omega) (fun q hq => h0 q (by omega)) (fun q h => absurd h (by omega))⟩
  | succ d ih =>
    intro i op hi h0
    have step : ∀ x : Nat, K.ky (K.od r i) = x → PX1_lay_53 post (PX1_lay_14 post (d + 1)) op v (nI r) (nI (K.sz r)) (nI i) (nI x) (nI i) := fun x hx => by
      unfold PX1_lay_53
      rw [ix_nI (by omega), nI_1]
      refine ⟨in_nI (by omega) (by omega), fun o25 e25 => ih (i + 1) o25 (by omega) fun q hq => ?_⟩
      rw [e25, mset_a]
      by_cases g : q = i
      · subst g; rw [upd_a, hx]
      · rw [upd_o _ _ g]; exact h0 q (by omega)
    unfold PX1_lay_14
    refine pc_f (nle (by omega) (by omega)) (c_personAt C W hr (by omega) (c_middleAbove C W (W.od_lt hr (by omega)) ?_))
    cases hu : K.up (K.od r i) with
    | none => exact pd_t rfl (step 1000 (by unfold Kr.ky; rw [hu]; rfl))
    | some m =>
      have := up11 K hu
      exact pd_f (nI_ne_m1 (by omega)) (step m (by unfold Kr.ky; rw [hu]; rfl))
theorem c_byParents {op v : Mem} {K : Kr} (C : CS v K) (W : WF K) {r : Nat} (hr : r < 4) {post : Int32 → Mem → Mem → Prop} (k : ∀ op v2, CS v2 (K.setO r (K.bp r)) → post (nI (K.mv r)) op v2) : PX1_lay op v (nI r) post := by
  have h6 := W.sz6 hr
  refine c_sizeOf C hr fun q3 e3 => ?_
  rw [n6I, if_neg (nI_nlt (by omega) (by omega))] at e3
  rw [e3]
  exact ⟨_, c_lay14 W hr C k (K.sz r) 0 op (by omega) (fun q h => absurd h (by omega))⟩
/-- the first n laid: p of them, by the order -/
def INS (w : Mem) (K : Kr) (r n : Nat) (p : Nat → Nat) : Prop := (∀ j, j < n → p j < n ∧ w 9 j = nI (K.od r (p j))) ∧ (∀ i j, i < n → j < n → p i = p j → i = j) ∧ ∀ a b, a < b → b < n → K.ck r (p a) < K.ck r (p b)
theorem ins_bp {w : Mem} {K : Kr} (W : WF K) {r : Nat} (hr : r < 4) {p : Nat → Nat} (h : INS w K r (K.sz r) p) : ∀ i, i < K.sz r → p i = K.inv r i := by
  have t := incr_id (n := K.sz r) (f := fun i => K.to r (p i)) (fun i hi => to_lt K r (h.1 i hi).1) (fun a b hab hb => to_mono K r (h.1 a (by omega)).1 (h.2.2 a b hab hb))
  intro i hi
  have e := t i hi
  have e' : K.to r (p i) = i := e
  have := inv_to W hr (h.1 i hi).1
  rw [e'] at this
  exact this.symm
