theorem ix0 : ix 0 = 0 := rfl
theorem ix1 : ix 1 = 1 := rfl
/-- a number that holds the ancestors -/
theorem anc_ex {K : Kr} (p : Nat) : ∃ x : Int32, BS x (An K p) := by
  have h : ∀ (n : Nat) (S : Nat → Prop), ∃ x : Int32, ∀ i, i < 32 → (bt x i = true ↔ S i ∧ i < n) := by
    intro n S
    induction n with
    | zero => exact ⟨0, fun i hi => by rw [b_0]; exact ⟨fun h => (by cases h), fun h => absurd h.2 (by omega)⟩⟩
    | succ n ih =>
      obtain ⟨x, hx⟩ := ih
      rcases Classical.em (S n ∧ n < 32) with hS | hS
      · refine ⟨x ||| (1 <<< (nI n &&& 31)), fun i hi => ?_⟩
        rw [b_or, Bool.or_eq_true, hx i hi, b_one hS.2 hi, decide_eq_true_iff]
        constructor
        · rintro (h | rfl)
          · exact ⟨h.1, by omega⟩
          · exact ⟨hS.1, by omega⟩
        · rintro ⟨h1, h2⟩
          rcases Nat.lt_succ_iff_lt_or_eq.mp h2 with h | rfl
          · exact Or.inl ⟨h1, h⟩
          · exact Or.inr rfl
      · refine ⟨x, fun i hi => ?_⟩
        rw [hx i hi]
        constructor
        · rintro ⟨h1, h2⟩; exact ⟨h1, by omega⟩
        · rintro ⟨h1, h2⟩
          rcases Nat.lt_succ_iff_lt_or_eq.mp h2 with h | rfl
          · exact ⟨h1, h⟩
          · exact absurd ⟨h1, hi⟩ hS
  obtain ⟨x, hx⟩ := h 32 (An K p)
  exact ⟨x, fun i hi => (hx i hi).trans ⟨fun h => h.1, fun h => ⟨h, hi⟩⟩⟩
noncomputable def Kr.anc (K : Kr) (p : Nat) : Int32 := Classical.choose (anc_ex (K := K) p)
theorem anc_bs (K : Kr) (p : Nat) : BS (K.anc p) (An K p) := Classical.choose_spec (anc_ex p)
theorem anc_hi {K : Kr} (W : WF K) {p i : Nat} (hp : p < K.np) (h1 : 20 ≤ i) (h2 : i < 32) : bt (K.anc p) i = false := by
  have hn := W.np20
  exact (anc_bs K p).f h2 fun h => by have := An_lt W hp h; omega
theorem c_anc {v : Mem} {K : Kr} (C : CS v K) (W : WF K) {p : Nat} (hp : p < K.np) {post : Int32 → Prop} (k : post (K.anc p)) : PX0_ancestors v (nI p) post := c_ancestors C W hp fun x hx => by rw [hx.eq (anc_bs K p)]; exact k
/-- how many descend from p -/
noncomputable def Kr.desc (K : Kr) (p : Nat) : Nat := sm (fun o => if bt (K.anc o) p then 1 else 0) K.np
theorem c_desc_l {v : Mem} {K : Kr} (C : CS v K) (W : WF K) {p : Nat} (hp : p < K.np) {post : Int32 → Prop} (k : ∀ y, BS y (fun q => q < K.np ∧ An K q p) → post y) : ∀ (d u : Nat) (x : Int32), u + d = K.np → p < u → BS x (fun q => q = p ∨ q < u ∧ An K q p) → PX0_descendants_8 v post (d + 1) (nI p) x (nI u) := by
  have hn := W.np20
  intro d
  induction d with
  | zero =>
    intro u x hu hpu hx
    unfold PX0_descendants_8 PX5_people
    rw [C.1.1]
    refine pc_t (nle' (by omega) (by omega)) (k _ fun i hi => ?_)
    rw [b_and, b_xor, b_m1 i hi, b_one (by omega) hi, Bool.and_eq_true, hx i hi]
    by_cases e : i = p
    · subst e
      rw [decide_eq_true rfl]
      exact ⟨fun h => absurd h.2 (by decide), fun h => absurd (An_lt W h.1 h.2) (by omega)⟩
    · rw [decide_eq_false e, show K.np = u by omega]
      exact ⟨fun h => h.1.elim (fun q => absurd q e) (fun q => q), fun h => ⟨Or.inr h, rfl⟩⟩
  | succ d ih =>
    intro u x hu hpu hx
    have hun : u < K.np := by omega
    unfold PX0_descendants_8 PX5_people
    rw [C.1.1]
    refine pc_f (nle (by omega) (by omega)) (c_parentBits C W hun fun y hy => ?_)
    rw [nI_1]
    have key : (y &&& x) = 0 ↔ ¬ An K u p := by
      rw [b_and0]
      constructor
      · intro h hA
        rcases (An_iff W hun).mp hA with h1 | ⟨w, h1, h2⟩
        · exact h p (by omega) ⟨(hy p (by omega)).mpr h1, (hx p (by omega)).mpr (Or.inl rfl)⟩
        · have h3 := isPar_facts W hun h1
          exact h w (by omega) ⟨(hy w (by omega)).mpr h1, (hx w (by omega)).mpr (Or.inr ⟨h3.1, h2⟩)⟩
      · intro h i hi hz
        have h1 := (hy i hi).mp hz.1
        rcases (hx i hi).mp hz.2 with rfl | h2
        · exact h ((An_iff W hun).mpr (Or.inl h1))
        · exact h ((An_iff W hun).mpr (Or.inr ⟨i, h1, h2.2⟩))
    rcases Classical.em (An K u p) with hA | hA
    · refine pc_f (fun z => key.mp z hA) fun q9 e9 => ih (u + 1) q9 (by omega) (by omega) ?_
      rw [e9]
      refine (hx.or (BS.one (by omega))).cg fun i _ => ?_
      constructor
      · rintro ((h | h) | rfl)
        · exact Or.inl h
        · exact Or.inr ⟨by omega, h.2⟩
        · exact Or.inr ⟨by omega, hA⟩
      · rintro (h | ⟨h1, h2⟩)
        · exact Or.inl (Or.inl h)
        · rcases Nat.lt_succ_iff_lt_or_eq.mp h1 with h | rfl
          · exact Or.inl (Or.inr ⟨h, h2⟩)
          · exact Or.inr rfl
    · refine pc_t (key.mpr hA) (ih (u + 1) x (by omega) (by omega) (hx.cg fun i _ => ?_))
      constructor
      · rintro (h | h)
        · exact Or.inl h
        · exact Or.inr ⟨by omega, h.2⟩
      · rintro (h | ⟨h1, h2⟩)
        · exact Or.inl h
        · rcases Nat.lt_succ_iff_lt_or_eq.mp h1 with h | rfl
          · exact Or.inr ⟨h, h2⟩
          · exact absurd h2 hA
theorem c_descCount {v : Mem} {K : Kr} (C : CS v K) (W : WF K) {p : Nat} (hp : p < K.np) {post : Int32 → Prop} (k : post (nI (K.desc p))) : PX0_descendants v (nI p) (fun r => PJ6_bitCount_0f7a4 r post) := by
  have hn := W.np20
  intro q1 e1 q2 e2
  rw [e1, e2, nI_1]
  refine ⟨_, c_desc_l C W hp (fun y hy => ?_) (K.np - (p + 1)) (p + 1) _ (by omega) (by omega) ((BS.one (by omega)).cg fun i _ => ⟨fun h => Or.inl h, fun h => h.elim id fun ⟨h1, h2⟩ => ?_⟩)⟩
  · refine bitCount_of (fun i h1 h2 => hy.f h2 fun h => by omega) ?_
    have e : pcn y 20 = K.desc p := by
      unfold pcn Kr.desc
      rw [sm_cut (a := K.np) (by omega) (fun i h1 h2 => by rw [hy.f (by omega) (fun h => by omega)]; rfl)]
      refine sm_congr fun i hi => ?_
      have h1 := hy i (by omega)
      have h2 := anc_bs K i p (by omega)
      cases e1 : bt y i <;> cases e2 : bt (K.anc i) p
      · rfl
      · rw [e1] at h1; exact absurd (h1.mpr ⟨hi, h2.mp e2⟩) (by decide)
      · rw [e2] at h2; exact absurd (h2.mpr (h1.mp e1).2) (by decide)
      · rfl
    rw [e]; exact k
  · rcases Nat.lt_succ_iff_lt_or_eq.mp h1 with h | h
    · have := An_lt W (show i < K.np by omega) h2; omega
    · exact h
theorem c_ancCount {v : Mem} {K : Kr} (C : CS v K) (W : WF K) {p : Nat} (hp : p < K.np) {post : Int32 → Prop} (k : post (nI (pcn (K.anc p) 20))) : PX0_ancestors v (nI p) (fun r => PJ6_bitCount_0f7a4 r post) :=
  c_anc C W hp (bitCount_of (fun i h1 h2 => anc_hi W hp h1 h2) k)
noncomputable def Kr.com (K : Kr) (c : Nat) : Int32 := K.anc (K.lo c) &&& K.anc (K.hi c)
theorem com_hi {K : Kr} (W : WF K) {c i : Nat} (hc : c < K.nc) (h1 : 20 ≤ i) (h2 : i < 32) : bt (K.com c) i = false := by
  unfold Kr.com
  rw [b_and, anc_hi W (W.lo_np hc) h1 h2, Bool.false_and]
theorem c_common {v : Mem} {K : Kr} (C : CS v K) (W : WF K) {c : Nat} (hc : c < K.nc) {post : Int32 → Prop} (k : post (K.com c)) : PX0_commonAncestors v (nI c) post :=
  c_lesserOf C W hc (c_anc C W (W.lo_np hc) (c_greaterOf C W hc (c_anc C W (W.hi_np hc) k)))
theorem com0 {K : Kr} (W : WF K) {c : Nat} (hc : c < K.nc) : K.com c = 0 ↔ pcn (K.com c) 20 = 0 := by
  constructor
  · intro h; rw [h]; exact sm_none fun i _ => by rw [b_0]; rfl
  · intro h
    apply b_ext
    intro i hi
    rw [b_0]
    rcases Nat.lt_or_ge i 20 with h2 | h2
    · cases e : bt (K.com c) i
      · rfl
      · have h3 : sm (fun j => if j = i then 1 else 0) 20 ≤ pcn (K.com c) 20 := sm_le fun j _ => by
          by_cases g : j = i
          · subst g; rw [if_pos rfl, if_pos e]; exact Nat.le_refl _
          · rw [if_neg g]; exact Nat.zero_le _
        rw [sm_single (a := i) h2 (fun j _ g => if_neg g), if_pos rfl] at h3
        omega
    · exact com_hi W hc h2 hi
noncomputable def Kr.kin (K : Kr) : Nat := sm (fun c => if pcn (K.com c) 20 = 0 then 0 else 1) K.nc
theorem c_kin_l {v : Mem} {K : Kr} (C : CS v K) (W : WF K) {post : Int32 → Prop} (k : post (nI K.kin)) : ∀ d i : Nat, i + d = K.nc → PX0_kinCouples_4 v post (d + 1) (nI (sm (fun c => if pcn (K.com c) 20 = 0 then 0 else 1) i)) (nI i) := by
  have hb := W.nc10
  intro d
  induction d with
  | zero =>
    intro i hi
    unfold PX0_kinCouples_4 PX5_couples
    rw [C.1.2.1, show i = K.nc by omega]
    exact pc_t (nle' (Nat.le_refl _) (by omega)) k
  | succ d ih =>
    intro i hi
    have e := ih (i + 1) (by omega)
    rw [sm_s] at e
    unfold PX0_kinCouples_4 PX5_couples
    rw [C.1.2.1]
    refine pc_f (nle (by omega) (by omega)) (c_common C W (show i < K.nc by omega) ?_)
    rw [nI_1, nI_1]
    have h0 := com0 W (show i < K.nc by omega)
    by_cases h : pcn (K.com i) 20 = 0
    · rw [if_pos h] at e; exact pc_t (h0.mpr h) e
    · rw [if_neg h] at e; exact pc_f (fun z => h (h0.mp z)) e
theorem c_kin {v : Mem} {K : Kr} (C : CS v K) (W : WF K) {post : Int32 → Prop} (k : post (nI K.kin)) : PX0_kinCouples v post := ⟨_, c_kin_l C W k K.nc 0 (by omega)⟩
theorem pcn_le (x : Int32) (n : Nat) : pcn x n ≤ n := sm_01 (fun i => by split <;> decide) n
