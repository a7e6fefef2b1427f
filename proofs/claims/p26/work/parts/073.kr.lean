/-- a chronicle in numbers: people, couples, refused; of each person row and parents; of each couple lesser and greater; of each row its size and who stands where -/
abbrev Kr : Type := Nat × Nat × Int32 × (Nat → Nat) × (Nat → Option Nat) × (Nat → Nat) × (Nat → Nat) × (Nat → Nat) × (Nat → Nat → Nat)
def Kr.np (K : Kr) : Nat := K.1
def Kr.nc (K : Kr) : Nat := K.2.1
def Kr.rf (K : Kr) : Int32 := K.2.2.1
def Kr.row (K : Kr) : Nat → Nat := K.2.2.2.1
def Kr.par (K : Kr) : Nat → Option Nat := K.2.2.2.2.1
def Kr.lo (K : Kr) : Nat → Nat := K.2.2.2.2.2.1
def Kr.hi (K : Kr) : Nat → Nat := K.2.2.2.2.2.2.1
def Kr.sz (K : Kr) : Nat → Nat := K.2.2.2.2.2.2.2.1
def Kr.od (K : Kr) : Nat → Nat → Nat := K.2.2.2.2.2.2.2.2
/-- the first place of six at which p stands -/
def plOf (o : Nat → Nat) (p : Nat) : Nat := if o 0 = p then 0 else if o 1 = p then 1 else if o 2 = p then 2 else if o 3 = p then 3 else if o 4 = p then 4 else 5
theorem plOf_lt (o : Nat → Nat) (p : Nat) : plOf o p < 6 := by
  unfold plOf
  repeat' split
  all_goals decide
theorem plOf_of {o : Nat → Nat} {p k n : Nat} (hn : n ≤ 6) (hk : k < n) (h : o k = p) (inj : ∀ i j, i < n → j < n → o i = o j → i = j) : plOf o p = k := by
  have H : ∀ i, i < n → o i = p → i = k := fun i hi e => inj i k hi hk (e.trans h.symm)
  unfold plOf
  by_cases h0 : o 0 = p
  · rw [if_pos h0]; exact H 0 (by omega) h0
  rw [if_neg h0]
  have k0 : k ≠ 0 := fun e => h0 (e ▸ h)
  by_cases h1 : o 1 = p
  · rw [if_pos h1]; exact H 1 (by omega) h1
  rw [if_neg h1]
  have k1 : k ≠ 1 := fun e => h1 (e ▸ h)
  by_cases h2 : o 2 = p
  · rw [if_pos h2]; exact H 2 (by omega) h2
  rw [if_neg h2]
  have k2 : k ≠ 2 := fun e => h2 (e ▸ h)
  by_cases h3 : o 3 = p
  · rw [if_pos h3]; exact H 3 (by omega) h3
  rw [if_neg h3]
  have k3 : k ≠ 3 := fun e => h3 (e ▸ h)
  by_cases h4 : o 4 = p
  · rw [if_pos h4]; exact H 4 (by omega) h4
  rw [if_neg h4]
  have k4 : k ≠ 4 := fun e => h4 (e ▸ h)
  omega
def Kr.pl (K : Kr) (p : Nat) : Nat := plOf (K.od (K.row p)) p
def Kr.mid (K : Kr) (c : Nat) : Nat := K.pl (K.lo c) + K.pl (K.hi c)
/-- the middle of a person's parents -/
def Kr.up (K : Kr) (p : Nat) : Option Nat := (K.par p).map K.mid
def Kr.has (K : Kr) (c p : Nat) : Nat := if K.lo c = p ∨ K.hi c = p then 1 else 0
def pI : Option Nat → Int32
  | none => -1
  | some c => nI c
def WF (K : Kr) : Prop := (K.np ≤ 20 ∧ K.nc ≤ 10 ∧ ∀ r, r < 4 → K.sz r ≤ 6) ∧ (∀ p, p < K.np → K.row p < 4 ∧ ∃ k, k < K.sz (K.row p) ∧ K.od (K.row p) k = p) ∧ (∀ r k, r < 4 → k < K.sz r → K.od r k < K.np ∧ K.row (K.od r k) = r) ∧ (∀ r, r < 4 → ∀ i j, i < K.sz r → j < K.sz r → K.od r i = K.od r j → i = j) ∧ (∀ p c, p < K.np → K.par p = some c → c < K.nc ∧ K.row p = K.row (K.lo c) + 1 ∧ K.hi c < p) ∧ (∀ c, c < K.nc → K.lo c < K.hi c ∧ K.hi c < K.np ∧ K.row (K.lo c) = K.row (K.hi c) ∧ K.row (K.lo c) < 3) ∧ ∀ p, sm (fun c => K.has c p) K.nc ≤ 2
/-- the memory of a state of the class holds the chronicle -/
def CS (v : Mem) (K : Kr) : Prop := (v 7 0 = nI K.np ∧ v 8 0 = nI K.nc ∧ v 9 0 = K.rf) ∧ (∀ p, p < K.np → v 0 p = nI (K.row p) ∧ v 1 p = nI (K.pl p) ∧ v 2 p = pI (K.par p)) ∧ (∀ c, c < K.nc → v 3 c = nI (K.lo c) ∧ v 4 c = nI (K.hi c)) ∧ (∀ r, r < 4 → v 6 r = nI (K.sz r)) ∧ ∀ r k, r < 4 → k < K.sz r → v 5 (6 * r + k) = nI (K.od r k)
/-- the row of numbers of the other one holds it -/
def MS (f : Nat → Int32) (K : Kr) : Prop := (f 0 = nI K.np ∧ f 1 = nI K.nc ∧ f 2 = K.rf) ∧ (∀ p, p < K.np → f (3 + 2 * p) = nI (K.row p) ∧ f (4 + 2 * p) = pI (K.par p)) ∧ (∀ c, c < K.nc → f (43 + 2 * c) = nI (K.lo c) ∧ f (44 + 2 * c) = nI (K.hi c)) ∧ (∀ r, r < 4 → f (63 + r) = nI (K.sz r)) ∧ ∀ r k, r < 4 → k < K.sz r → f (67 + 6 * r + k) = nI (K.od r k)
theorem WF.np20 {K : Kr} (W : WF K) : K.np ≤ 20 := W.1.1
theorem WF.nc10 {K : Kr} (W : WF K) : K.nc ≤ 10 := W.1.2.1
theorem WF.sz6 {K : Kr} (W : WF K) {r : Nat} (h : r < 4) : K.sz r ≤ 6 := W.1.2.2 r h
theorem WF.row4 {K : Kr} (W : WF K) {p : Nat} (h : p < K.np) : K.row p < 4 := (W.2.1 p h).1
theorem WF.od_lt {K : Kr} (W : WF K) {r k : Nat} (hr : r < 4) (hk : k < K.sz r) : K.od r k < K.np := (W.2.2.1 r k hr hk).1
theorem WF.od_row {K : Kr} (W : WF K) {r k : Nat} (hr : r < 4) (hk : k < K.sz r) : K.row (K.od r k) = r := (W.2.2.1 r k hr hk).2
theorem WF.pl_od {K : Kr} (W : WF K) {r k : Nat} (hr : r < 4) (hk : k < K.sz r) : K.pl (K.od r k) = k := by
  unfold Kr.pl
  rw [W.od_row hr hk]
  exact plOf_of (W.sz6 hr) hk rfl (W.2.2.2.1 r hr)
theorem WF.pl_sz {K : Kr} (W : WF K) {p : Nat} (h : p < K.np) : K.pl p < K.sz (K.row p) ∧ K.od (K.row p) (K.pl p) = p := by
  obtain ⟨hr, k, hk, e⟩ := W.2.1 p h
  have h1 : K.pl p = k := plOf_of (W.sz6 hr) hk e (W.2.2.2.1 _ hr)
  rw [h1]
  exact ⟨hk, e⟩
theorem WF.pl6 (K : Kr) (p : Nat) : K.pl p < 6 := plOf_lt _ _
theorem WF.mid11 (K : Kr) (c : Nat) : K.mid c < 11 := by
  have h1 := WF.pl6 K (K.lo c)
  have h2 := WF.pl6 K (K.hi c)
  unfold Kr.mid; omega
theorem WF.par_c {K : Kr} (W : WF K) {p c : Nat} (h : p < K.np) (e : K.par p = some c) : c < K.nc := (W.2.2.2.2.1 p c h e).1
theorem WF.par_row {K : Kr} (W : WF K) {p c : Nat} (h : p < K.np) (e : K.par p = some c) : K.row p = K.row (K.lo c) + 1 := (W.2.2.2.2.1 p c h e).2.1
theorem WF.par_hi {K : Kr} (W : WF K) {p c : Nat} (h : p < K.np) (e : K.par p = some c) : K.hi c < p := (W.2.2.2.2.1 p c h e).2.2
theorem WF.lo_hi {K : Kr} (W : WF K) {c : Nat} (h : c < K.nc) : K.lo c < K.hi c := (W.2.2.2.2.2.1 c h).1
theorem WF.hi_np {K : Kr} (W : WF K) {c : Nat} (h : c < K.nc) : K.hi c < K.np := (W.2.2.2.2.2.1 c h).2.1
theorem WF.lo_np {K : Kr} (W : WF K) {c : Nat} (h : c < K.nc) : K.lo c < K.np := Nat.lt_trans (W.lo_hi h) (W.hi_np h)
theorem WF.row_eq {K : Kr} (W : WF K) {c : Nat} (h : c < K.nc) : K.row (K.lo c) = K.row (K.hi c) := (W.2.2.2.2.2.1 c h).2.2.1
theorem WF.row3 {K : Kr} (W : WF K) {c : Nat} (h : c < K.nc) : K.row (K.lo c) < 3 := (W.2.2.2.2.2.1 c h).2.2.2
theorem WF.two {K : Kr} (W : WF K) (p : Nat) : sm (fun c => K.has c p) K.nc ≤ 2 := W.2.2.2.2.2.2 p
theorem pI_m1 {o : Option Nat} {K : Kr} (h : ∀ c, o = some c → c < 10) : pI o = -1 ↔ o = none := by
  cases o with
  | none => exact ⟨fun _ => rfl, fun _ => rfl⟩
  | some c => exact ⟨fun e => absurd e (nI_ne_m1 (by have := h c rfl; omega)), fun e => by cases e⟩
/-- the looks of the class -/
theorem c_isPerson {v : Mem} {K : Kr} (C : CS v K) (W : WF K) {p : Nat} (hp : p < K.np) {post : Int32 → Prop} (k : post 1) : PX5_isPerson v (nI p) post := by
  have hb := W.np20
  refine ⟨fun h => absurd h (nI_lt0 (by omega)), fun _ => ⟨fun h => ?_, fun _ => k⟩⟩
  rw [C.1.1, nI_leI (by omega) (by omega)] at h
  omega
theorem c_isCouple {v : Mem} {K : Kr} (C : CS v K) (W : WF K) {p : Nat} (hp : p < K.nc) {post : Int32 → Prop} (k : post 1) : PX5_isCouple v (nI p) post := by
  have hb := W.nc10
  refine ⟨fun h => absurd h (nI_lt0 (by omega)), fun _ => ⟨fun h => ?_, fun _ => k⟩⟩
  rw [C.1.2.1, nI_leI (by omega) (by omega)] at h
  omega
theorem c_isCoupleN {v : Mem} {post : Int32 → Prop} (k : post 0) : PX5_isCouple v (-1) post := ⟨fun _ => k, fun h => absurd i_m1_lt0 h⟩
theorem c_isPersonN {v : Mem} {post : Int32 → Prop} (k : post 0) : PX5_isPerson v (-1) post := ⟨fun _ => k, fun h => absurd i_m1_lt0 h⟩
theorem i10 : ¬ (1 : Int32) = 0 := by decide
theorem c_rowOf {v : Mem} {K : Kr} (C : CS v K) (W : WF K) {p : Nat} (hp : p < K.np) {post : Int32 → Prop} (k : post (nI (K.row p))) : PX5_rowOf v (nI p) post := by
  have hb := W.np20
  refine c_isPerson C W hp ⟨fun h => absurd h i10, fun _ => ⟨in_nI (by omega) (by omega), ?_⟩⟩
  rw [ix_nI (by omega), (C.2.1 p hp).1]; exact k
theorem c_placeOf {v : Mem} {K : Kr} (C : CS v K) (W : WF K) {p : Nat} (hp : p < K.np) {post : Int32 → Prop} (k : post (nI (K.pl p))) : PX5_placeOf v (nI p) post := by
  have hb := W.np20
  refine c_isPerson C W hp ⟨fun h => absurd h i10, fun _ => ⟨in_nI (by omega) (by omega), ?_⟩⟩
  rw [ix_nI (by omega), (C.2.1 p hp).2.1]; exact k
theorem c_parentsOf {v : Mem} {K : Kr} (C : CS v K) (W : WF K) {p : Nat} (hp : p < K.np) {post : Int32 → Prop} (k : post (pI (K.par p))) : PX5_parentsOf v (nI p) post := by
  have hb := W.np20
  refine c_isPerson C W hp ⟨fun h => absurd h i10, fun _ => ⟨in_nI (by omega) (by omega), ?_⟩⟩
  rw [ix_nI (by omega), (C.2.1 p hp).2.2]; exact k
theorem c_lesserOf {v : Mem} {K : Kr} (C : CS v K) (W : WF K) {c : Nat} (hc : c < K.nc) {post : Int32 → Prop} (k : post (nI (K.lo c))) : PX5_lesserOf v (nI c) post := by
  have hb := W.nc10
  refine c_isCouple C W hc ⟨fun h => absurd h i10, fun _ => ⟨in_nI (by omega) (by omega), ?_⟩⟩
  rw [ix_nI (by omega), (C.2.2.1 c hc).1]; exact k
theorem c_greaterOf {v : Mem} {K : Kr} (C : CS v K) (W : WF K) {c : Nat} (hc : c < K.nc) {post : Int32 → Prop} (k : post (nI (K.hi c))) : PX5_greaterOf v (nI c) post := by
  have hb := W.nc10
  refine c_isCouple C W hc ⟨fun h => absurd h i10, fun _ => ⟨in_nI (by omega) (by omega), ?_⟩⟩
  rw [ix_nI (by omega), (C.2.2.1 c hc).2]; exact k
theorem c_sizeOf {v : Mem} {K : Kr} (C : CS v K) {r : Nat} (hr : r < 4) {post : Int32 → Prop} (k : post (nI (K.sz r))) : PX5_sizeOf v (nI r) post := by
  refine ⟨fun h => absurd h (nI_lt0 (by omega)), fun _ => ⟨fun h => ?_, fun _ => ⟨in_nI hr (by omega), ?_⟩⟩⟩
  · rw [n4I, nI_leI (by omega) (by omega)] at h; omega
  · rw [ix_nI (by omega), C.2.2.2.1 r hr]; exact k
theorem c_sizeOf4 {v : Mem} {post : Int32 → Prop} (k : post 0) : PX5_sizeOf v (nI 4) post := ⟨fun h => absurd h (by decide), fun _ => ⟨fun _ => k, fun h => absurd (by decide) h⟩⟩
theorem c_personAt {v : Mem} {K : Kr} (C : CS v K) (W : WF K) {r q : Nat} (hr : r < 4) (hq : q < K.sz r) {post : Int32 → Prop} (k : post (nI (K.od r q))) : PX5_personAt v (nI r) (nI q) post := by
  have hb := W.sz6 hr
  refine ⟨fun h => absurd h (nI_lt0 (by omega)), fun _ => c_sizeOf C hr ⟨fun h => ?_, fun _ => ?_⟩⟩
  · rw [nI_leI (by omega) (by omega)] at h; omega
  · rw [n6I, pk_mul, nI_add, ix_nI (by omega), Nat.mul_comm, C.2.2.2.2 r q hr hq]
    exact ⟨in_nI (by omega) (by omega), k⟩
theorem c_middleOf {v : Mem} {K : Kr} (C : CS v K) (W : WF K) {c : Nat} (hc : c < K.nc) {post : Int32 → Prop} (k : post (nI (K.mid c))) : PX5_middleOf v (nI c) post := by
  have hb := W.nc10
  refine c_isCouple C W hc ⟨fun h => absurd h i10, fun _ => ⟨in_nI (by omega) (by omega), ?_⟩⟩
  rw [ix_nI (by omega), (C.2.2.1 c hc).1, (C.2.2.1 c hc).2]
  refine c_placeOf C W (W.lo_np hc) ⟨in_nI (by omega) (by omega), c_placeOf C W (W.hi_np hc) ?_⟩
  rw [nI_add]; exact k
theorem c_middleOfN {v : Mem} {post : Int32 → Prop} (k : post (-1)) : PX5_middleOf v (-1) post := c_isCoupleN ⟨fun _ => k, fun h => absurd rfl h⟩
theorem c_middleAbove {v : Mem} {K : Kr} (C : CS v K) (W : WF K) {p : Nat} (hp : p < K.np) {post : Int32 → Prop} (k : post (pI (K.up p))) : PX5_middleAbove v (nI p) post := by
  refine c_parentsOf C W hp ?_
  unfold Kr.up at k
  cases e : K.par p with
  | none => rw [e] at k; exact c_middleOfN k
  | some c => rw [e] at k; exact c_middleOf C W (W.par_c hp e) k
