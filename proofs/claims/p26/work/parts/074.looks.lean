theorem pc_t {c A B : Prop} (h : c) (a : A) : (c → A) ∧ (¬ c → B) := ⟨fun _ => a, fun n => absurd h n⟩
theorem pc_f {c A B : Prop} (h : ¬ c) (b : B) : (c → A) ∧ (¬ c → B) := ⟨fun n => absurd n h, fun _ => b⟩
theorem pd_t {c A B : Prop} (h : c) (a : A) : (¬ c → B) ∧ (c → A) := ⟨fun n => absurd h n, fun _ => a⟩
theorem pd_f {c A B : Prop} (h : ¬ c) (b : B) : (¬ c → B) ∧ (c → A) := ⟨fun _ => b, fun n => absurd n h⟩
theorem nle {a b : Nat} (h : b < a) (hb : a < 2 ^ 31) : ¬ nI a ≤ nI b := fun e => by rw [nI_leI (by omega) (by omega)] at e; omega
theorem nne {a b : Nat} (ha : a < 2 ^ 31) (hb : b < 2 ^ 31) (h : a ≠ b) : ¬ nI a = nI b := fun e => h (nI_inj ha hb e)
theorem nle' {a b : Nat} (h : a ≤ b) (hb : b < 2 ^ 31) : nI a ≤ nI b := nI_le h hb
theorem pI_ne_c {o : Option Nat} {c : Nat} (hc : c < 2 ^ 31) (h : ∀ d, o = some d → d < 2 ^ 31) : pI o = nI c ↔ o = some c := by
  cases o with
  | none => exact ⟨fun e => absurd e.symm (nI_ne_m1 hc), fun e => by cases e⟩
  | some d => exact ⟨fun e => congrArg some (nI_inj (h d rfl) hc e), fun e => by cases e; rfl⟩
theorem pI_some {o : Option Nat} {c : Nat} (h : o = some c) : pI o = nI c := by rw [h]; rfl
theorem pI_none {o : Option Nat} (h : o = none) : pI o = -1 := by rw [h]; rfl
theorem pI_ne {o : Option Nat} {c : Nat} (hc : c < 2 ^ 31) (h : o = some c) : ¬ pI o = -1 := by rw [pI_some h]; exact nI_ne_m1 hc
/-- how many children a couple has -/
def Kr.ch (K : Kr) (c : Nat) : Nat := sm (fun p => if K.par p = some c then 1 else 0) K.np
def Kr.orph (K : Kr) : Nat := sm (fun p => if K.par p = none then 1 else 0) K.np
def Kr.lines (K : Kr) : Nat := sm (fun p => if K.par p = none then 0 else 1) K.np
def Kr.chW (K : Kr) (p : Nat) : Nat := sm (fun c => if K.lo c = p ∨ K.hi c = p then K.ch c else 0) K.nc
def Kr.dbl (K : Kr) : Nat := sm (fun p => if sm (fun c => K.has c p) K.nc = 2 then 1 else 0) K.np
def Kr.bnt (K : Kr) (p : Nat) : Nat := match K.up p with | none => 0 | some m => if m = 2 * K.pl p then 0 else 1
def Kr.bent (K : Kr) : Nat := sm K.bnt K.np
def Kr.are (K : Kr) (a b : Nat) : Prop := ∃ c, c < K.nc ∧ K.lo c = a ∧ K.hi c = b
theorem lines_orph (K : Kr) : K.lines + K.orph = K.np := by
  unfold Kr.lines Kr.orph
  rw [← sm_add]
  have h : ∀ n, sm (fun p => (if K.par p = none then 0 else 1) + (if K.par p = none then 1 else 0)) n = n := by
    intro n
    induction n with
    | zero => rfl
    | succ n ih => rw [sm_s, ih]; split <;> rfl
  exact h K.np
theorem sm_01 {f : Nat → Nat} (h : ∀ i, f i ≤ 1) (n : Nat) : sm f n ≤ n := by
  have := sm_le_mul (f := f) (k := 1) (n := n) (fun i _ => h i)
  omega
theorem has1 (K : Kr) (c p : Nat) : K.has c p ≤ 1 := by unfold Kr.has; split <;> decide
theorem c_couplesWith_l {v : Mem} {K : Kr} (C : CS v K) (W : WF K) {p : Nat} (hp : p < 20) {post : Int32 → Prop} (k : post (nI (sm (fun c => K.has c p) K.nc))) : ∀ d i : Nat, i + d = K.nc → PX5_couplesWith_4 v post (d + 1) (nI p) (nI (sm (fun c => K.has c p) i)) (nI i) := by
  have hb := W.nc10
  intro d
  induction d with
  | zero =>
    intro i hi
    unfold PX5_couplesWith_4
    rw [C.1.2.1, show i = K.nc by omega]
    exact pc_t (nle' (Nat.le_refl _) (by omega)) k
  | succ d ih =>
    intro i hi
    have hc : i < K.nc := by omega
    have l1 := W.lo_np hc
    have l2 := W.hi_np hc
    have l3 := W.np20
    unfold PX5_couplesWith_4
    rw [C.1.2.1, ix_nI (by omega), (C.2.2.1 i hc).1, (C.2.2.1 i hc).2]
    have e := ih (i + 1) (by omega)
    rw [sm_s] at e
    refine pc_f (nle (by omega) (by omega)) ⟨in_nI (by omega) (by omega), ?_⟩
    simp only [nI_1]
    by_cases h1 : K.lo i = p
    · rw [show K.has i p = 1 from if_pos (Or.inl h1)] at e
      exact pc_t (by rw [h1]) e
    · refine pc_f (nne (by omega) (by omega) h1) ⟨in_nI (by omega) (by omega), ?_⟩
      by_cases h2 : K.hi i = p
      · rw [show K.has i p = 1 from if_pos (Or.inr h2)] at e
        exact pd_t (by rw [h2]) e
      · rw [show K.has i p = 0 from if_neg (fun h => h.elim h1 h2)] at e
        exact pd_f (nne (by omega) (by omega) h2) e
theorem c_couplesWith {v : Mem} {K : Kr} (C : CS v K) (W : WF K) {p : Nat} (hp : p < 20) {post : Int32 → Prop} (k : post (nI (sm (fun c => K.has c p) K.nc))) : PX5_couplesWith v (nI p) post := ⟨_, c_couplesWith_l C W hp k K.nc 0 (by omega)⟩
theorem c_isDouble {v : Mem} {K : Kr} (C : CS v K) (W : WF K) {p : Nat} (hp : p < 20) {post : Int32 → Prop} (k : post (if sm (fun c => K.has c p) K.nc = 2 then 1 else 0)) : PX5_isDouble v (nI p) post := by
  have h2 := W.two p
  refine c_couplesWith C W hp ?_
  rw [n2I]
  by_cases h : sm (fun c => K.has c p) K.nc = 2
  · rw [if_pos h] at k; exact pc_f (by rw [h]; decide) k
  · rw [if_neg h] at k; exact pc_t (nI_lt (by omega) (by omega)) k
theorem c_areCouple_l {v : Mem} {K : Kr} (C : CS v K) (W : WF K) {a b : Nat} (ha : a < 20) (hb : b < 20) {post : Int32 → Prop} (k1 : K.are a b → post 1) (k0 : ¬ K.are a b → post 0) : ∀ d i : Nat, i + d = K.nc → (∀ c, c < i → ¬ (K.lo c = a ∧ K.hi c = b)) → PX5_areCouple_2 v post (d + 1) (nI a) (nI b) (nI i) := by
  have hn := W.nc10
  intro d
  induction d with
  | zero =>
    intro i hi hs
    unfold PX5_areCouple_2
    rw [C.1.2.1, show i = K.nc by omega]
    exact pc_t (nle' (Nat.le_refl _) (by omega)) (k0 fun ⟨c, h1, h2⟩ => hs c (by omega) h2)
  | succ d ih =>
    intro i hi hs
    have hc : i < K.nc := by omega
    have l1 := W.lo_np hc
    have l2 := W.hi_np hc
    have l3 := W.np20
    unfold PX5_areCouple_2
    rw [C.1.2.1, ix_nI (by omega), (C.2.2.1 i hc).1, (C.2.2.1 i hc).2]
    refine pc_f (nle (by omega) (by omega)) ⟨in_nI (by omega) (by omega), ?_⟩
    have e : ¬ (K.lo i = a ∧ K.hi i = b) → PX5_areCouple_2 v post (d + 1) (nI a) (nI b) (nI i + 1) := fun hne => by
      rw [nI_1]
      refine ih (i + 1) (by omega) fun c h => ?_
      rcases Nat.lt_succ_iff_lt_or_eq.mp h with h | rfl
      · exact hs c h
      · exact hne
    by_cases h1 : K.lo i = a
    · refine pd_t (by rw [h1]) ⟨in_nI (by omega) (by omega), ?_⟩
      by_cases h2 : K.hi i = b
      · exact pd_t (by rw [h2]) (k1 ⟨i, hc, h1, h2⟩)
      · exact pd_f (nne (by omega) (by omega) h2) (e fun h => h2 h.2)
    · exact pd_f (nne (by omega) (by omega) h1) (e fun h => h1 h.1)
theorem c_areCouple {v : Mem} {K : Kr} (C : CS v K) (W : WF K) {a b : Nat} (ha : a < 20) (hb : b < 20) {post : Int32 → Prop} (k1 : K.are a b → post 1) (k0 : ¬ K.are a b → post 0) : PX5_areCouple v (nI a) (nI b) post := ⟨_, c_areCouple_l C W ha hb k1 k0 K.nc 0 (by omega) (fun c h => absurd h (by omega))⟩
theorem c_childrenOf_l {v : Mem} {K : Kr} (C : CS v K) (W : WF K) {o : Option Nat} (ho : ∀ c, o = some c → c < 2 ^ 31) {post : Int32 → Prop} (k : post (nI (sm (fun p => if K.par p = o then 1 else 0) K.np))) : ∀ d i : Nat, i + d = K.np → PX5_childrenOf_4 v post (d + 1) (pI o) (nI (sm (fun p => if K.par p = o then 1 else 0) i)) (nI i) := by
  have hn := W.np20
  have hm := W.nc10
  intro d
  induction d with
  | zero =>
    intro i hi
    unfold PX5_childrenOf_4
    rw [C.1.1, show i = K.np by omega]
    exact pc_t (nle' (Nat.le_refl _) (by omega)) k
  | succ d ih =>
    intro i hi
    have hp : i < K.np := by omega
    have e := ih (i + 1) (by omega)
    rw [sm_s] at e
    unfold PX5_childrenOf_4
    rw [C.1.1, ix_nI (by omega), (C.2.1 i hp).2.2]
    refine pc_f (nle (by omega) (by omega)) ⟨in_nI (by omega) (by omega), ?_⟩
    simp only [nI_1]
    by_cases h : K.par i = o
    · rw [if_pos h] at e
      exact pd_t (by rw [h]) e
    · rw [if_neg h] at e
      refine pd_f (fun q => h ?_) e
      cases o with
      | none =>
        cases g : K.par i with
        | none => rfl
        | some c => rw [g] at q; exact absurd q (nI_ne_m1 (by have := W.par_c hp g; omega))
      | some c => exact (pI_ne_c (ho c rfl) (fun d hd => by have := W.par_c hp hd; omega)).mp q
theorem c_childrenOf {v : Mem} {K : Kr} (C : CS v K) (W : WF K) {c : Nat} (hc : c < 2 ^ 31) {post : Int32 → Prop} (k : post (nI (K.ch c))) : PX5_childrenOf v (nI c) post := ⟨_, c_childrenOf_l (o := some c) C W (fun d h => by cases h; exact hc) k K.np 0 (by omega)⟩
theorem c_lines {v : Mem} {K : Kr} (C : CS v K) (W : WF K) {post : Int32 → Prop} (k : post (nI K.lines)) : PX5_lines v post := by
  refine ⟨_, c_childrenOf_l (o := none) C W (fun d h => by cases h) ?_ K.np 0 (by omega)⟩
  have h := lines_orph K
  show post (v 7 0 - nI K.orph)
  rw [C.1.1, pk_sub (by omega), show K.np - K.orph = K.lines by omega]
  exact k
theorem c_childrenWith_l {v : Mem} {K : Kr} (C : CS v K) (W : WF K) {p : Nat} (hp : p < 20) {post : Int32 → Prop} (k : post (nI (K.chW p))) : ∀ d i : Nat, i + d = K.nc → PX5_childrenWith_4 v post (d + 1) (nI p) (nI (sm (fun c => if K.lo c = p ∨ K.hi c = p then K.ch c else 0) i)) (nI i) := by
  have hb := W.nc10
  intro d
  induction d with
  | zero =>
    intro i hi
    unfold PX5_childrenWith_4
    rw [C.1.2.1, show i = K.nc by omega]
    exact pc_t (nle' (Nat.le_refl _) (by omega)) k
  | succ d ih =>
    intro i hi
    have hc : i < K.nc := by omega
    have l1 := W.lo_np hc
    have l2 := W.hi_np hc
    have l3 := W.np20
    have e := ih (i + 1) (by omega)
    rw [sm_s] at e
    have go : (K.lo i = p ∨ K.hi i = p) → PX5_childrenWith_32 v post (PX5_childrenWith_4 v post (d + 1)) (nI p) (nI (sm (fun c => if K.lo c = p ∨ K.hi c = p then K.ch c else 0) i)) (nI i) := fun h => by
      rw [if_pos h] at e
      refine c_childrenOf C W (by omega) fun q hq => ?_
      rw [hq, nI_add, nI_1]; exact e
    unfold PX5_childrenWith_4
    rw [C.1.2.1, ix_nI (by omega), (C.2.2.1 i hc).1, (C.2.2.1 i hc).2]
    refine pc_f (nle (by omega) (by omega)) ⟨in_nI (by omega) (by omega), ?_⟩
    by_cases h1 : K.lo i = p
    · exact pc_t (by rw [h1]) (go (Or.inl h1))
    · refine pc_f (nne (by omega) (by omega) h1) ⟨in_nI (by omega) (by omega), ?_⟩
      by_cases h2 : K.hi i = p
      · exact pd_t (by rw [h2]) (go (Or.inr h2))
      · rw [if_neg (fun h => h.elim h1 h2)] at e
        rw [nI_1]
        exact pd_f (nne (by omega) (by omega) h2) e
theorem c_childrenWith {v : Mem} {K : Kr} (C : CS v K) (W : WF K) {p : Nat} (hp : p < 20) {post : Int32 → Prop} (k : post (nI (K.chW p))) : PX5_childrenWith v (nI p) post := ⟨_, c_childrenWith_l C W hp k K.nc 0 (by omega)⟩
theorem c_bentLines_l {v : Mem} {K : Kr} (C : CS v K) (W : WF K) {post : Int32 → Prop} (k : post (nI K.bent)) : ∀ d i : Nat, i + d = K.np → PX5_bentLines_4 v post (d + 1) (nI (sm K.bnt i)) (nI i) := by
  have hb := W.np20
  have hm := W.nc10
  intro d
  induction d with
  | zero =>
    intro i hi
    unfold PX5_bentLines_4
    rw [C.1.1, show i = K.np by omega]
    exact pc_t (nle' (Nat.le_refl _) (by omega)) k
  | succ d ih =>
    intro i hi
    have hp : i < K.np := by omega
    have e := ih (i + 1) (by omega)
    rw [sm_s] at e
    unfold PX5_bentLines_4
    rw [C.1.1, ix_nI (by omega), (C.2.1 i hp).2.2, (C.2.1 i hp).2.1]
    refine pc_f (nle (by omega) (by omega)) ⟨in_nI (by omega) (by omega), ?_⟩
    simp only [nI_1]
    cases g : K.par i with
    | none =>
      rw [show K.bnt i = 0 by unfold Kr.bnt Kr.up; rw [g]; rfl] at e
      exact pc_t rfl e
    | some c =>
      refine pc_f (nI_ne_m1 (by have := W.par_c hp g; omega)) (c_middleAbove C W hp ⟨in_nI (by omega) (by omega), ?_⟩)
      have hu : K.up i = some (K.mid c) := by unfold Kr.up; rw [g]; rfl
      have hm1 := WF.mid11 K c
      have hp1 := WF.pl6 K i
      rw [hu, n2I, pk_mul]
      by_cases h : K.mid c = 2 * K.pl i
      · rw [show K.bnt i = 0 by unfold Kr.bnt; rw [hu]; exact if_pos h] at e
        exact pc_t (by rw [← h]; rfl) e
      · rw [show K.bnt i = 1 by unfold Kr.bnt; rw [hu]; exact if_neg h] at e
        exact pc_f (nne (by omega) (by omega) h) e
theorem c_bentLines {v : Mem} {K : Kr} (C : CS v K) (W : WF K) {post : Int32 → Prop} (k : post (nI K.bent)) : PX5_bentLines v post := ⟨_, c_bentLines_l C W k K.np 0 (by omega)⟩
theorem c_doubles_l {v : Mem} {K : Kr} (C : CS v K) (W : WF K) {post : Int32 → Prop} (k : post (nI K.dbl)) : ∀ d i : Nat, i + d = K.np → PX5_doubles_4 v post (d + 1) (nI (sm (fun p => if sm (fun c => K.has c p) K.nc = 2 then 1 else 0) i)) (nI i) := by
  have hb := W.np20
  intro d
  induction d with
  | zero =>
    intro i hi
    unfold PX5_doubles_4
    rw [C.1.1, show i = K.np by omega]
    exact pc_t (nle' (Nat.le_refl _) (by omega)) k
  | succ d ih =>
    intro i hi
    have hp : i < K.np := by omega
    have e := ih (i + 1) (by omega)
    rw [sm_s] at e
    unfold PX5_doubles_4
    rw [C.1.1]
    refine pc_f (nle (by omega) (by omega)) (c_isDouble C W (by omega) ?_)
    simp only [nI_1]
    by_cases h : sm (fun c => K.has c i) K.nc = 2
    · rw [if_pos h] at e ⊢; exact pc_f i10 e
    · rw [if_neg h] at e ⊢; exact pc_t rfl e
theorem c_doubles {v : Mem} {K : Kr} (C : CS v K) (W : WF K) {post : Int32 → Prop} (k : post (nI K.dbl)) : PX5_doubles v post := ⟨_, c_doubles_l C W k K.np 0 (by omega)⟩
