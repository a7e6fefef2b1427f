/-! a row by parents: in both the one stable order -/
theorem sm_lt {f g : Nat → Nat} {a : Nat} : ∀ {n : Nat}, a < n → (∀ i, i < n → f i ≤ g i) → f a < g a → sm f n < sm g n
  | 0, h, _, _ => absurd h (by omega)
  | n + 1, h, hl, hs => by
    rw [sm_s, sm_s]
    have l := hl n (by omega)
    by_cases e : n = a
    · subst e
      have := sm_le (f := f) (g := g) (n := n) (fun i hi => hl i (by omega))
      omega
    · have := sm_lt (f := f) (g := g) (a := a) (n := n) (by omega) (fun i hi => hl i (by omega)) hs
      omega
/-- one-to-one within n: everything is met -/
theorem pig : ∀ (n : Nat) (f : Nat → Nat), (∀ i, i < n → f i < n) → (∀ i j, i < n → j < n → f i = f j → i = j) → ∀ b, b < n → ∃ i, i < n ∧ f i = b
  | 0, _, _, _, b, hb => absurd hb (by omega)
  | n + 1, f, h1, h2, b, hb => by
    have hfn := h1 n (by omega)
    have g1 : ∀ i, i < n → (if f i = n then f n else f i) < n := fun i hi => by
      have a1 := h1 i (by omega)
      split
      · rename_i e
        rcases Nat.lt_or_ge (f n) n with q | q
        · exact q
        · have := h2 i n (by omega) (by omega) (by omega)
          omega
      · omega
    have g2 : ∀ i j, i < n → j < n → (if f i = n then f n else f i) = (if f j = n then f n else f j) → i = j := fun i j hi hj => by
      by_cases e1 : f i = n
      · by_cases e2 : f j = n
        · intro _; exact h2 i j (by omega) (by omega) (by omega)
        · rw [if_pos e1, if_neg e2]; intro e
          have := h2 n j (by omega) (by omega) e
          omega
      · by_cases e2 : f j = n
        · rw [if_neg e1, if_pos e2]; intro e
          have := h2 i n (by omega) (by omega) e
          omega
        · rw [if_neg e1, if_neg e2]; exact h2 i j (by omega) (by omega)
    have ih := pig n (fun i => if f i = n then f n else f i) g1 g2
    rcases Nat.lt_or_ge b n with q | q
    · obtain ⟨i, hi, e⟩ := ih b q
      have e' : (if f i = n then f n else f i) = b := e
      by_cases e1 : f i = n
      · rw [if_pos e1] at e'; exact ⟨n, by omega, e'⟩
      · rw [if_neg e1] at e'; exact ⟨i, by omega, e'⟩
    · have eb : b = n := by omega
      rcases Nat.lt_or_ge (f n) n with q2 | q2
      · obtain ⟨i, hi, e⟩ := ih (f n) q2
        have e' : (if f i = n then f n else f i) = f n := e
        by_cases e1 : f i = n
        · exact ⟨i, by omega, by omega⟩
        · rw [if_neg e1] at e'
          have := h2 i n (by omega) (by omega) e'
          omega
      · exact ⟨n, by omega, by omega⟩
theorem incr_id {n : Nat} {f : Nat → Nat} (h1 : ∀ i, i < n → f i < n) (h2 : ∀ a b, a < b → b < n → f a < f b) : ∀ i, i < n → f i = i := by
  have lo : ∀ i, i < n → i ≤ f i := by
    intro i
    induction i with
    | zero => intro _; exact Nat.zero_le _
    | succ i ih => intro hi; have := ih (by omega); have := h2 i (i + 1) (by omega) hi; omega
  have up : ∀ d i, i + d < n → f i + d ≤ f (i + d) := by
    intro d
    induction d with
    | zero => intro i _; exact Nat.le_refl _
    | succ d ih => intro i hi; have := ih i (by omega); have := h2 (i + d) (i + (d + 1)) (by omega) hi; omega
  intro i hi
  have a := lo i hi
  have b := up (n - 1 - i) i (by omega)
  have c := h1 (i + (n - 1 - i)) (by omega)
  omega
def kyO : Option Nat → Nat
  | none => 1000
  | some m => m
/-- by what a person is ordered -/
def Kr.ky (K : Kr) (p : Nat) : Nat := kyO (K.up p)
theorem ky_le (K : Kr) (p : Nat) : K.ky p ≤ 1000 := by
  unfold Kr.ky
  cases h : K.up p with
  | none => exact Nat.le_refl _
  | some m => have := up11 K h; show m ≤ 1000; omega
def Kr.ck (K : Kr) (r k : Nat) : Nat := 6 * K.ky (K.od r k) + k
/-- where the one at place k comes to stand -/
def Kr.to (K : Kr) (r k : Nat) : Nat := sm (fun j => if K.ck r j < K.ck r k then 1 else 0) (K.sz r)
def Kr.inv (K : Kr) (r i : Nat) : Nat := sm (fun k => if K.to r k = i then k else 0) (K.sz r)
def Kr.bp (K : Kr) (r i : Nat) : Nat := K.od r (K.inv r i)
def Kr.mv (K : Kr) (r : Nat) : Nat := sm (fun k => if K.to r k = k then 0 else 1) (K.sz r)
theorem to_mono (K : Kr) (r : Nat) {a b : Nat} (ha : a < K.sz r) (h : K.ck r a < K.ck r b) : K.to r a < K.to r b := by
  refine sm_lt (a := a) ha (fun i hi => ?_) ?_
  · by_cases e : K.ck r i < K.ck r a
    · rw [if_pos e, if_pos (by omega)]; exact Nat.le_refl _
    · rw [if_neg e]; exact Nat.zero_le _
  · show (if K.ck r a < K.ck r a then 1 else 0) < (if K.ck r a < K.ck r b then 1 else 0)
    rw [if_neg (by omega), if_pos h]; decide
theorem to_lt (K : Kr) (r : Nat) {a : Nat} (ha : a < K.sz r) : K.to r a < K.sz r := by
  have h := sm_lt (f := fun j => if K.ck r j < K.ck r a then 1 else 0) (g := fun _ => 1) (a := a) (n := K.sz r) ha (fun i _ => by show (if _ then 1 else 0) ≤ 1; split <;> decide) (by show (if K.ck r a < K.ck r a then 1 else 0) < 1; rw [if_neg (by omega)]; decide)
  have h2 := sm_01 (f := fun _ => 1) (fun _ => Nat.le_refl _) (K.sz r)
  unfold Kr.to; omega
theorem ck_ne (K : Kr) {r a b : Nat} (ha : a < 6) (hb : b < 6) (h : K.ck r a = K.ck r b) : a = b := by unfold Kr.ck at h; omega
theorem to_inj {K : Kr} (W : WF K) {r : Nat} (hr : r < 4) {a b : Nat} (ha : a < K.sz r) (hb : b < K.sz r) (h : K.to r a = K.to r b) : a = b := by
  have h6 := W.sz6 hr
  rcases Nat.lt_trichotomy (K.ck r a) (K.ck r b) with g | g | g
  · have := to_mono K r ha g; omega
  · exact ck_ne K (by omega) (by omega) g
  · have := to_mono K r hb g; omega
theorem inv_to {K : Kr} (W : WF K) {r : Nat} (hr : r < 4) {k : Nat} (hk : k < K.sz r) : K.inv r (K.to r k) = k := by
  unfold Kr.inv
  rw [sm_single (a := k) hk (fun i hi hne => if_neg fun q => hne (to_inj W hr hi hk q)), if_pos rfl]
theorem to_inv {K : Kr} (W : WF K) {r : Nat} (hr : r < 4) {i : Nat} (hi : i < K.sz r) : K.inv r i < K.sz r ∧ K.to r (K.inv r i) = i := by
  obtain ⟨k, hk, e⟩ := pig (K.sz r) (K.to r) (fun a ha => to_lt K r ha) (fun a b ha hb => to_inj W hr ha hb) i hi
  rw [← e, inv_to W hr hk]
  exact ⟨hk, rfl⟩
theorem bp_isO {K : Kr} (W : WF K) {r : Nat} (hr : r < 4) : isO K r (K.bp r) := by
  refine ⟨fun k hk => ?_, fun i j hi hj e => ?_, fun p hp e => ?_⟩
  · have h := to_inv W hr hk
    exact W.2.2.1 r _ hr h.1
  · have h1 := to_inv W hr hi
    have h2 := to_inv W hr hj
    have h3 := W.2.2.2.1 r hr _ _ h1.1 h2.1 e
    rw [← h1.2, ← h2.2, h3]
  · have h := W.pl_sz hp
    rw [e] at h
    refine ⟨K.to r (K.pl p), to_lt K r h.1, ?_⟩
    show K.od r (K.inv r _) = p
    rw [inv_to W hr h.1]; exact h.2
theorem c_pbk_l {op : Mem} {K : Kr} {r n p : Nat} (hn : n ≤ 6) (hp : p < n) (h0 : ∀ k, k < n → op 0 k = nI (K.ky (K.od r k))) {post : Int32 → Prop} (k : post (nI (sm (fun j => if K.ck r j < K.ck r p then 1 else 0) n))) : ∀ d i : Nat, i + d = n → PX1_placeByKey_5 op post (d + 1) (nI p) (nI n) (nI (sm (fun j => if K.ck r j < K.ck r p then 1 else 0) i)) (nI i) := by
  intro d
  induction d with
  | zero =>
    intro i hi
    unfold PX1_placeByKey_5
    refine pc_t (nle' (by omega) (by omega)) ?_
    rw [show i = n by omega]; exact k
  | succ d ih =>
    intro i hi
    have e := ih (i + 1) (by omega)
    rw [sm_s] at e
    have b1 := ky_le K (K.od r i)
    have b2 := ky_le K (K.od r p)
    have c1 : K.ck r i = 6 * K.ky (K.od r i) + i := rfl
    have c2 : K.ck r p = 6 * K.ky (K.od r p) + p := rfl
    unfold PX1_placeByKey_5
    rw [ix_nI (show i < 2 ^ 31 by omega), ix_nI (show p < 2 ^ 31 by omega), h0 i (by omega), h0 p hp, nI_1, nI_1]
    refine pc_f (nle (by omega) (by omega)) ⟨in_nI (by omega) (by omega), in_nI (by omega) (by omega), ?_⟩
    by_cases g : K.ky (K.od r i) < K.ky (K.od r p)
    · rw [if_pos (by omega)] at e
      exact pc_t (nI_lt g (by omega)) e
    · refine pc_f (nI_nlt (by omega) (by omega)) ⟨in_nI (by omega) (by omega), in_nI (by omega) (by omega), ?_⟩
      by_cases g2 : K.ky (K.od r i) = K.ky (K.od r p)
      · refine pd_t (by rw [g2]) ?_
        by_cases g3 : p ≤ i
        · rw [if_neg (by omega)] at e
          exact pc_t (nle' g3 (by omega)) e
        · rw [if_pos (by omega)] at e
          exact pc_f (nle (by omega) (by omega)) e
      · rw [if_neg (by omega)] at e
        exact pd_f (nne (by omega) (by omega) g2) e
theorem c_lay66 {K : Kr} (W : WF K) {r : Nat} (hr : r < 4) {v : Mem} (C : CS v K) {post : Int32 → Mem → Mem → Prop} (k : ∀ op v2, CS v2 (K.setO r (K.bp r)) → post (nI (K.mv r)) op v2) : ∀ (d i : Nat) (op : Mem), i + d = K.sz r → (∀ q, q < K.sz r → op 0 q = nI (K.ky (K.od r q))) → (∀ q, q < i → op 1 (K.to r q) = nI (K.od r q)) → PX1_lay_66 post (d + 1) op v (nI r) (nI (K.sz r)) (nI (sm (fun k => if K.to r k = k then 0 else 1) i)) (nI i) := by
  have h6 := W.sz6 hr
  intro d
  induction d with
  | zero =>
    intro i op hi h0 h1
    have ei : i = K.sz r := by omega
    unfold PX1_lay_66
    refine pc_t (nle' (by omega) (by omega)) ⟨_, c_layAll_l C W hr (bp_isO W hr) (fun q hq => ?_) (fun v2 C2 => ?_) (K.sz r) 0 v (by omega) (LIv_0 _ _ _)⟩
    · have t := to_inv W hr hq
      have := h1 (K.inv r q) (by omega)
      rw [t.2] at this
      exact this
    · rw [ei]; exact k op v2 C2
  | succ d ih =>
    intro i op hi h0 h1
    have tl := to_lt K r (show i < K.sz r by omega)
    unfold PX1_lay_66
    refine pc_f (nle (by omega) (by omega)) ⟨_, c_pbk_l (r := r) h6 (show i < K.sz r by omega) h0 ?_ (K.sz r) 0 (by omega)⟩
    show PX5_personAt v (nI r) (nI i) _
    refine c_personAt C W hr (by omega) ⟨in_nI (show K.to r i < 6 by omega) (by omega), fun o16 e16 => ?_⟩
    have e16' : o16 = mset op 1 (K.to r i) (nI (K.od r i)) := by rw [e16, ix_nI (show sm (fun j => if K.ck r j < K.ck r i then 1 else 0) (K.sz r) < 2 ^ 31 from (show K.to r i < 2 ^ 31 by omega))]; rfl
    have e := ih (i + 1) o16 (by omega) (fun q hq => by rw [e16', mset_o _ _ _ (by decide)]; exact h0 q hq) (fun q hq => by
      rw [e16', mset_a]
      by_cases g : q = i
      · subst g; rw [upd_a]
      · rw [upd_o _ _ (fun x => g (to_inj W hr (by omega) (by omega) x))]; exact h1 q (by omega))
    rw [sm_s] at e
    show (nI (K.to r i) = nI i → _) ∧ _
    rw [nI_1 i, nI_1]
    by_cases g : K.to r i = i
    · rw [if_pos g] at e
      exact pc_t (by rw [g]) e
    · rw [if_neg g] at e
      exact pc_f (nne (by omega) (by omega) g) e
theorem c_lay14 {K : Kr} (W : WF K) {r : Nat} (hr : r < 4) {v : Mem} (C : CS v K) {post : Int32 → Mem → Mem → Prop} (k : ∀ op v2, CS v2 (K.setO r (K.bp r)) → post (nI (K.mv r)) op v2) : ∀ (d i : Nat) (op : Mem), i + d = K.sz r → (∀ q, q < i → op 0 q = nI (K.ky (K.od r q))) → PX1_lay_14 post (d + 1) op v (nI r) (nI (K.sz r)) (nI i) := by
  have h6 := W.sz6 hr
  intro d
  induction d with
  | zero =>
    intro i op hi h0
    unfold PX1_lay_14
    exact pc_t (nle' (by omega) (by omega)) ⟨_, c_lay66 W hr C k (K.sz r) 0 op (by omega) (fun q hq => h0 q (by omega)) (fun q h => absurd h (by omega))⟩
  | succ d ih =>
    intro i op hi h0
    have step : ∀ x : Nat, K.ky (K.od r i) = x → PX1_lay_53 post (PX1_lay_14 post (d + 1)) op v (nI r) (nI (K.sz r)) (nI i) (nI x) (nI i) := fun x hx => by
      unfold PX1_lay_53
      rw [ix_nI (by omega), nI_1]
      refine ⟨in_nI (by omega) (by omega), fun o25 e25 => ih (i + 1) o25 (by omega) fun q hq => ?_⟩
      rw [e25, mset_a]
      by_cases g : q = i
      · subst g; rw [upd_a, hx]
      · rw [upd_o _ _ g]; exact h0 q (by omega)
    unfold PX1_lay_14
    refine pc_f (nle (by omega) (by omega)) (c_personAt C W hr (by omega) (c_middleAbove C W (W.od_lt hr (by omega)) ?_))
    cases hu : K.up (K.od r i) with
    | none => exact pd_t rfl (step 1000 (by unfold Kr.ky; rw [hu]; rfl))
    | some m =>
      have := up11 K hu
      exact pd_f (nI_ne_m1 (by omega)) (step m (by unfold Kr.ky; rw [hu]; rfl))
theorem c_byParents {op v : Mem} {K : Kr} (C : CS v K) (W : WF K) {r : Nat} (hr : r < 4) {post : Int32 → Mem → Mem → Prop} (k : ∀ op v2, CS v2 (K.setO r (K.bp r)) → post (nI (K.mv r)) op v2) : PX1_lay op v (nI r) post := by
  have h6 := W.sz6 hr
  refine c_sizeOf C hr fun q3 e3 => ?_
  rw [n6I, if_neg (nI_nlt (by omega) (by omega))] at e3
  rw [e3]
  exact ⟨_, c_lay14 W hr C k (K.sz r) 0 op (by omega) (fun q h => absurd h (by omega))⟩
theorem m_keyOf {w : Mem} {hs : Int64} {K : Kr} (M : MS (w 0) K) (W : WF K) {p : Nat} (hp : p < K.np) {post : Int32 → Prop} (k : post (nI (K.ky p))) : PX8_keyOf w hs (nI p) post := by
  have hc := W.nc10
  refine m_parentsOf M W hp ?_
  cases hu : K.par p with
  | none => exact pd_t rfl (by have : K.ky p = 1000 := by unfold Kr.ky; rw [up_none hu]; rfl
                               rw [this] at k; exact k)
  | some c =>
    have h := W.par_c hp hu
    refine pd_f (nI_ne_m1 (by omega)) (m_parentsOf M W hp ?_)
    rw [hu]
    refine m_middle M W h ?_
    have : K.ky p = K.mid c := by unfold Kr.ky; rw [up_some hu]; rfl
    rw [this] at k; exact k
/-- the first n laid: p of them, by the order -/
def INS (w : Mem) (K : Kr) (r n : Nat) (p : Nat → Nat) : Prop := (∀ j, j < n → p j < n ∧ w 9 j = nI (K.od r (p j))) ∧ (∀ i j, i < n → j < n → p i = p j → i = j) ∧ ∀ a b, a < b → b < n → K.ck r (p a) < K.ck r (p b)
theorem m_ins {hs : Int64} {K : Kr} (W : WF K) {r : Nat} (hr : r < 4) {w0 : Mem} (M : MS (w0 0) K) {i : Nat} (hi : i < K.sz r) {post : Int32 → Mem → Prop} {K17 : Mem → Int32 → Int32 → Int32 → Prop} (h10 : w0 10 i = nI (K.od r i)) (k : ∀ w p, (∀ j, j ≠ 9 → w j = w0 j) → INS w K r (i + 1) p → K17 w (nI r) (nI (K.sz r)) (nI (i + 1))) : ∀ (t : Nat) (w : Mem) (p : Nat → Nat), t ≤ i → (∀ j, j ≠ 9 → w j = w0 j) → (∀ j, j ≤ i → p j ≤ i) → (∀ a b, a ≤ i → b ≤ i → p a = p b → a = b) → p t = i → (∀ j, j ≤ i → j ≠ t → w 9 j = nI (K.od r (p j))) → (∀ a b, a < b → b ≤ i → b ≠ t → K.ck r (p a) < K.ck r (p b)) → PX8_ordered_57 hs post K17 (t + 1) w (nI r) (nI (K.sz r)) (nI i) (nI (K.ky (K.od r i))) (nI t) := by
  have h6 := W.sz6 hr
  have fin : ∀ (t : Nat) (w : Mem) (p : Nat → Nat), t ≤ i → (∀ j, j ≠ 9 → w j = w0 j) → (∀ j, j ≤ i → p j ≤ i) → (∀ a b, a ≤ i → b ≤ i → p a = p b → a = b) → p t = i → (∀ j, j ≤ i → j ≠ t → w 9 j = nI (K.od r (p j))) → (∀ a b, a < b → b ≤ i → K.ck r (p a) < K.ck r (p b)) → PX8_ordered_102 hs post K17 w (nI r) (nI (K.sz r)) (nI i) (nI t) := by
    intro t w p ht hf h1 h2 h3 h4 h5
    unfold PX8_ordered_102
    rw [ix_nI (show i < 2 ^ 31 by omega), ix_nI (show t < 2 ^ 31 by omega), hf 10 (by decide), h10, nI_1]
    refine ⟨in_nI (by omega) (by omega), in_nI (by omega) (by omega), fun w24 e24 => k w24 p (fun j a => by rw [e24, mset_o _ _ _ a]; exact hf j a) ⟨fun j hj => ⟨by have := h1 j (by omega); omega, ?_⟩, fun a b ha hb => h2 a b (by omega) (by omega), fun a b hab hb => h5 a b hab (by omega)⟩⟩
    rw [e24, mset_a]
    by_cases e : j = t
    · rw [e, upd_a, h3]
    · rw [upd_o _ _ e]; exact h4 j (by omega) e
  intro t
  induction t with
  | zero =>
    intro w p ht hf h1 h2 h3 h4 h5
    unfold PX8_ordered_57
    exact pc_t (by decide) (fin 0 w p ht hf h1 h2 h3 h4 (fun a b hab hb => h5 a b hab hb (by omega)))
  | succ t ih =>
    intro w p ht hf h1 h2 h3 h4 h5
    have pt : p t < i := by
      have a1 := h1 t (by omega)
      rcases Nat.lt_or_ge (p t) i with g | g
      · exact g
      · have := h2 t (t + 1) (by omega) ht (by omega)
        omega
    have Mw : MS (w 0) K := by rw [hf 0 (by decide)]; exact M
    have b1 := ky_le K (K.od r (p t))
    have b2 := ky_le K (K.od r i)
    have c1 : K.ck r (p t) = 6 * K.ky (K.od r (p t)) + p t := rfl
    have c2 : K.ck r i = 6 * K.ky (K.od r i) + i := rfl
    unfold PX8_ordered_57
    rw [nI_pred, ix_nI (show t < 2 ^ 31 by omega), ix_nI (show t + 1 < 2 ^ 31 by omega), h4 t (by omega) (by omega)]
    refine pc_f (nI_nle (by omega) (by omega)) ⟨in_nI (by omega) (by omega), m_keyOf Mw W (W.od_lt hr (by omega)) ?_⟩
    by_cases g : K.ky (K.od r (p t)) ≤ K.ky (K.od r i)
    · refine pc_t (nle' g (by omega)) (fin (t + 1) w p ht hf h1 h2 h3 h4 fun a b hab hb => ?_)
      by_cases e : b = t + 1
      · subst e
        rw [h3]
        rcases Nat.lt_or_ge a t with g2 | g2
        · have := h5 a t g2 (by omega) (by omega)
          omega
        · rw [show a = t by omega]; omega
      · exact h5 a b hab hb e
    · refine pc_f (nle (by omega) (by omega)) ⟨in_nI (by omega) (by omega), in_nI (by omega) (by omega), fun w31 e31 => ?_⟩
      rw [pk_m1]
      have le : ∀ j, j ≤ i → trs t (t + 1) j ≤ i := fun j hj => by have := trs_lt (a := t) (b := t + 1) (k := j) (n := i + 1) (by omega) (by omega) (by omega); omega
      refine ih w31 (fun j => p (trs t (t + 1) j)) (by omega) (fun j a => by rw [e31, mset_o _ _ _ a]; exact hf j a) (fun j hj => h1 _ (le j hj)) (fun a b ha hb e => ?_) (by show p (trs t (t + 1) t) = i; rw [trs_a]; exact h3) (fun j hj hne => ?_) (fun a b hab hb hne => ?_)
      · have := congrArg (trs t (t + 1)) (h2 _ _ (le a ha) (le b hb) e)
        rw [trs_trs, trs_trs] at this
        exact this
      · rw [e31, mset_a]
        by_cases e : j = t + 1
        · subst e; rw [upd_a, trs_b]
        · rw [upd_o _ _ e, trs_o hne e]; exact h4 j hj e
      · show K.ck r (p (trs t (t + 1) a)) < K.ck r (p (trs t (t + 1) b))
        by_cases e1 : b = t + 1
        · subst e1
          rw [trs_b]
          by_cases e2 : a = t
          · subst e2; rw [trs_a, h3]; omega
          · rw [trs_o e2 (by omega)]; exact h5 a t (by omega) (by omega) (by omega)
        · rw [trs_o hne e1]
          by_cases e2 : a = t
          · subst e2; rw [trs_a]; exact h5 (a + 1) b (by omega) hb e1
          · by_cases e3 : a = t + 1
            · subst e3; rw [trs_b]; exact h5 t b (by omega) hb e1
            · rw [trs_o e2 e3]; exact h5 a b hab hb e1
theorem ins_bp {w : Mem} {K : Kr} (W : WF K) {r : Nat} (hr : r < 4) {p : Nat → Nat} (h : INS w K r (K.sz r) p) : ∀ i, i < K.sz r → p i = K.inv r i := by
  have t := incr_id (n := K.sz r) (f := fun i => K.to r (p i)) (fun i hi => to_lt K r (h.1 i hi).1) (fun a b hab hb => to_mono K r (h.1 a (by omega)).1 (h.2.2 a b hab hb))
  intro i hi
  have e := t i hi
  have e' : K.to r (p i) = i := e
  have := inv_to W hr (h.1 i hi).1
  rw [e'] at this
  exact this.symm
theorem m_o126 {hs : Int64} {K : Kr} (W : WF K) {r : Nat} (hr : r < 4) {w0 : Mem} (M : MS (w0 0) K) {p : Nat → Nat} (hI : INS w0 K r (K.sz r) p) (h10 : ∀ q, q < K.sz r → w0 10 q = nI (K.od r q)) {post : Int32 → Mem → Prop} (k : ∀ w, FR0 w0 w → MS (w 0) (K.setO r (K.bp r)) → post (nI (K.mv r)) w) : ∀ (d i : Nat) (w : Mem), i + d = K.sz r → FR0 w0 w → (∀ q, (q < 67 + 6 * r ∨ 67 + 6 * r + 6 ≤ q) → w 0 q = w0 0 q) → (∀ q, q < i → w 0 (67 + 6 * r + q) = nI (K.bp r q)) → PX8_ordered_126 hs post (d + 1) w (nI r) (nI (K.sz r)) (nI (sm (fun k => if K.to r k = k then 0 else 1) i)) (nI i) := by
  have h6 := W.sz6 hr
  have hn := W.np20
  intro d
  induction d with
  | zero =>
    intro i w hi hf h0 h1
    have ei : i = K.sz r := by omega
    unfold PX8_ordered_126
    refine pc_t (nle' (by omega) (by omega)) ?_
    rw [ei] at h1 ⊢
    exact k w hf (MS_laid M W hr h0 h1)
  | succ d ih =>
    intro i w hi hf h0 h1
    have hi2 : i < K.sz r := by omega
    have hin := hI.1 i hi2
    have ei := ins_bp W hr hI i hi2
    have tv := to_inv W hr hi2
    have l1 := W.od_lt hr hi2
    have l2 := W.od_lt hr tv.1
    have e9 : w 9 i = nI (K.bp r i) := by rw [hf 9 (by decide), hin.2, ei]; rfl
    have step : ∀ x m : Nat, m + x = sm (fun k => if K.to r k = k then 0 else 1) (i + 1) → PX8_ordered_155 hs post (PX8_ordered_126 hs post (d + 1)) w (nI r) (nI (K.sz r)) (nI i) (nI x) (nI m) := fun x m hx => by
      intro q10 e10
      rw [n67I, n6I, pk_mul, nI_add, nI_add, ix_nI (show i < 2 ^ 31 by omega), ix_nI (show 67 + 6 * r + i < 2 ^ 31 by omega), e10, nI_add, hx, nI_1, e9]
      refine ⟨in_nI (by omega) (by omega), in91 (by omega), fun w13 e13 => ih (i + 1) w13 (by omega) (fun j a => by rw [e13, mset_o _ _ _ a]; exact hf j a) (fun q hq => by rw [e13, mset_a, upd_o _ _ (by omega)]; exact h0 q hq) fun q hq => ?_⟩
      rw [e13, mset_a]
      by_cases e : q = i
      · subst e; rw [upd_a]
      · rw [upd_o _ _ (by omega)]; exact h1 q (by omega)
    unfold PX8_ordered_126
    rw [ix_nI (show i < 2 ^ 31 by omega), e9, hf 10 (by decide), h10 i hi2]
    refine pc_f (nle (by omega) (by omega)) ⟨in_nI (by omega) (by omega), in_nI (by omega) (by omega), ?_⟩
    by_cases g : K.to r i = i
    · refine pc_t ?_ (step 0 _ (by rw [sm_s, if_pos g]))
      have : K.inv r i = i := by have := inv_to W hr hi2; rw [g] at this; exact this
      unfold Kr.bp; rw [this]
    · refine pc_f (nne (by unfold Kr.bp; omega) (by omega) fun q => g ?_) (step 1 _ (by rw [sm_s, if_neg g]))
      have := W.2.2.2.1 r hr _ _ tv.1 hi2 q
      rw [this] at tv
      exact tv.2
theorem m_o17 {hs : Int64} {K : Kr} (W : WF K) {r : Nat} (hr : r < 4) {w0 : Mem} (M : MS (w0 0) K) (h10 : ∀ q, q < K.sz r → w0 10 q = nI (K.od r q)) {post : Int32 → Mem → Prop} (k : ∀ w, (∀ j, j ≠ 0 → j ≠ 9 → w j = w0 j) → MS (w 0) (K.setO r (K.bp r)) → post (nI (K.mv r)) w) : ∀ (d i : Nat) (w : Mem) (p : Nat → Nat), i + d = K.sz r → (∀ j, j ≠ 9 → w j = w0 j) → INS w K r i p → PX8_ordered_17 hs post (d + 1) w (nI r) (nI (K.sz r)) (nI i) := by
  have h6 := W.sz6 hr
  intro d
  induction d with
  | zero =>
    intro i w p hi hf hI
    have ei : i = K.sz r := by omega
    subst ei
    unfold PX8_ordered_17
    refine pc_t (nle' (by omega) (by omega)) ⟨_, m_o126 W hr (w0 := w) (by rw [hf 0 (by decide)]; exact M) hI (fun q hq => by rw [hf 10 (by decide)]; exact h10 q hq) (fun w2 f2 M2 => k w2 (fun j a b => by rw [f2 j a]; exact hf j b) M2) (K.sz r) 0 w (by omega) (fun _ _ => rfl) (fun _ _ => rfl) (fun q h => absurd h (by omega))⟩
  | succ d ih =>
    intro i w p hi hf hI
    have hi2 : i < K.sz r := by omega
    have hp := W.od_lt hr hi2
    have Mw : MS (w 0) K := by rw [hf 0 (by decide)]; exact M
    have hnc := W.nc10
    have step : ∃ n, PX8_ordered_57 hs post (PX8_ordered_17 hs post (d + 1)) n w (nI r) (nI (K.sz r)) (nI i) (nI (K.ky (K.od r i))) (nI i) := ⟨_, m_ins W hr Mw hi2 (by rw [hf 10 (by decide)]; exact h10 i hi2) (fun w2 p2 f2 I2 => ih (i + 1) w2 p2 (by omega) (fun j a => by rw [f2 j a]; exact hf j a) I2) i w (fun j => if j = i then i else p j) (Nat.le_refl _) (fun _ _ => rfl) (fun j hj => by
        show (if j = i then i else p j) ≤ i
        by_cases e : j = i
        · rw [if_pos e]; exact Nat.le_refl _
        · rw [if_neg e]; have := (hI.1 j (by omega)).1; omega) (fun a b ha hb => by
        show (if a = i then i else p a) = (if b = i then i else p b) → a = b
        by_cases e1 : a = i
        · by_cases e2 : b = i
          · intro _; omega
          · rw [if_pos e1, if_neg e2]; intro e; have := (hI.1 b (by omega)).1; omega
        · by_cases e2 : b = i
          · rw [if_neg e1, if_pos e2]; intro e; have := (hI.1 a (by omega)).1; omega
          · rw [if_neg e1, if_neg e2]; exact hI.2.1 a b (by omega) (by omega)) (if_pos rfl) (fun j hj hne => by
        show w 9 j = nI (K.od r (if j = i then i else p j))
        rw [if_neg hne]; exact (hI.1 j (by omega)).2) (fun a b hab hb hne => by
        show K.ck r (if a = i then i else p a) < K.ck r (if b = i then i else p b)
        rw [if_neg (by omega), if_neg hne]; exact hI.2.2 a b hab (by omega))⟩
    unfold PX8_ordered_17
    rw [ix_nI (show i < 2 ^ 31 by omega), hf 10 (by decide), h10 i hi2]
    refine pc_f (nle (by omega) (by omega)) ⟨in_nI (by omega) (by omega), m_parentsOf Mw W hp ?_⟩
    cases hu : K.par (K.od r i) with
    | none =>
      have : K.ky (K.od r i) = 1000 := by unfold Kr.ky; rw [up_none hu]; rfl
      rw [this] at step
      exact pd_t rfl step
    | some c =>
      have h := W.par_c hp hu
      have : K.ky (K.od r i) = K.mid c := by unfold Kr.ky; rw [up_some hu]; rfl
      rw [this] at step
      exact pd_f (nI_ne_m1 (by omega)) (m_middle Mw W h step)
theorem m_ordered {w : Mem} {hs : Int64} {K : Kr} (M : MS (w 0) K) (W : WF K) {r : Nat} (hr : r < 4) {post : Int32 → Mem → Prop} (k : ∀ w2, (∀ j, j ≠ 0 → j ≠ 9 → j ≠ 10 → w2 j = w j) → MS (w2 0) (K.setO r (K.bp r)) → post (nI (K.mv r)) w2) : PX8_ordered w hs (nI r) post := by
  have h6 := W.sz6 hr
  unfold PX8_ordered
  rw [n63I, nI_add, ix_nI (show 63 + r < 2 ^ 31 by omega), M.2.2.2.1 r hr]
  refine ⟨in91 (by omega), fun q2 e2 => m_remember hr fun w4 f4 g4 => ?_⟩
  subst e2
  refine ⟨_, m_o17 W hr (w0 := w4) (by rw [f4 0 (by decide)]; exact M) (fun q hq => by rw [g4 q (by omega)]; exact M.2.2.2.2 r q hr hq) (fun w2 f2 M2 => k w2 (fun j a b c => by rw [f2 j a b]; exact f4 j c) M2) (K.sz r) 0 w4 (fun j => j) (by omega) (fun _ _ => rfl) ⟨fun j h => absurd h (by omega), fun i j h => absurd h (by omega), fun a b _ h => absurd h (by omega)⟩⟩
