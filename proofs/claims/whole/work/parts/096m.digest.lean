/-! the hash, value by value -/
def fo (h : Int64) (f : Nat → Int64) : Nat → Int64
  | 0 => h
  | n + 1 => 31 * fo h f n + f n
theorem fo_s (h : Int64) (f : Nat → Int64) (n : Nat) : fo h f (n + 1) = 31 * fo h f n + f n := rfl
noncomputable def pF (K : Kr) (k : Nat) : Int64 := (K.pv (k / 7) (k % 7)).toInt64
noncomputable def cF (K : Kr) (k : Nat) : Int64 := (K.cv (k / 6) (k % 6)).toInt64
def rvv (K : Kr) (r i : Nat) : Int32 := if i < 6 then K.atv r i else nI (K.X r)
def rF (K : Kr) (k : Nat) : Int64 := (rvv K (k / 8) (k % 8)).toInt64
def lF (K : Kr) (k : Nat) : Int64 := (nI (K.lst (k / 2)).1).toInt64
noncomputable def nF (K : Kr) (p : Nat) : Int64 := (K.nr 0 p K.np).toInt64
theorem pF_v (K : Kr) {p i : Nat} (h : i < 7) : pF K (7 * p + i) = (K.pv p i).toInt64 := by
  unfold pF
  rw [show (7 * p + i) / 7 = p by omega, show (7 * p + i) % 7 = i by omega]
theorem cF_v (K : Kr) {p i : Nat} (h : i < 6) : cF K (6 * p + i) = (K.cv p i).toInt64 := by
  unfold cF
  rw [show (6 * p + i) / 6 = p by omega, show (6 * p + i) % 6 = i by omega]
theorem rF_v (K : Kr) {p i : Nat} (h : i < 8) : rF K (8 * p + i) = (rvv K p i).toInt64 := by
  unfold rF
  rw [show (8 * p + i) / 8 = p by omega, show (8 * p + i) % 8 = i by omega]
theorem lF_v (K : Kr) {p i : Nat} (h : i < 2) : lF K (2 * p + i) = (nI (K.lst p).1).toInt64 := by
  unfold lF
  rw [show (2 * p + i) / 2 = p by omega]
theorem rvv_at {K : Kr} {r i : Nat} (h : i < 6) : rvv K r i = K.atv r i := if_pos h
theorem rvv_x {K : Kr} {r i : Nat} (h : 6 ≤ i) : rvv K r i = nI (K.X r) := if_neg (by omega)
/-! the class -/
theorem c_hp_in {kc v : Mem} {K : Kr} (C : CS v K) (W : WF K) {h : Int64} {p : Nat} (hp : p < K.np) {post : Int64 → Prop} {K5 : Int64 → Int32 → Prop} (k : K5 (fo h (pF K) (7 * (p + 1))) (nI (p + 1))) : ∀ d i : Nat, i + d = 7 → PX7_hashPeopleAndCouples_20 kc v post K5 (d + 1) (fo h (pF K) (7 * p + i)) (nI p) (nI i) := by
  have hn := W.np20
  intro d
  induction d with
  | zero =>
    intro i hi
    unfold PX7_hashPeopleAndCouples_20
    rw [n6I, nI_1 p, show i = 7 by omega]
    exact pc_t (nI_lt (by decide) (by decide)) k
  | succ d ih =>
    intro i hi
    unfold PX7_hashPeopleAndCouples_20
    rw [n6I, nI_1 i]
    refine pc_f (nI_nlt (by omega) (by omega)) ?_
    show PX7_personOf_x kc v (nI p) (nI i) _ (fun _ => False)
    refine c_per_x C W hp i (by omega) fun q16 e16 => ?_
    have e := ih (i + 1) (by omega)
    rw [← Nat.add_assoc, fo_s, pF_v K (by omega), ← e16] at e
    exact e
theorem c_hc_in {kc v : Mem} {K : Kr} (C : CS v K) (W : WF K) {h : Int64} {p : Nat} (hp : p < K.nc) {post : Int64 → Prop} {K5 : Int64 → Int32 → Prop} (k : K5 (fo h (cF K) (6 * (p + 1))) (nI (p + 1))) : ∀ d i : Nat, i + d = 6 → PX7_hashPeopleAndCouples_73 kc v post K5 (d + 1) (fo h (cF K) (6 * p + i)) (nI p) (nI i) := by
  have hn := W.nc10
  intro d
  induction d with
  | zero =>
    intro i hi
    unfold PX7_hashPeopleAndCouples_73
    rw [n5I, nI_1 p, show i = 6 by omega]
    exact pc_t (nI_lt (by decide) (by decide)) k
  | succ d ih =>
    intro i hi
    unfold PX7_hashPeopleAndCouples_73
    rw [n5I, nI_1 i]
    refine pc_f (nI_nlt (by omega) (by omega)) ?_
    show PX7_coupleOf_x kc v (nI p) (nI i) _ (fun _ => False)
    refine c_cpl_x C W hp i (by omega) fun q16 e16 => ?_
    have e := ih (i + 1) (by omega)
    rw [← Nat.add_assoc, fo_s, cF_v K (by omega), ← e16] at e
    exact e
theorem c_hc {kc v : Mem} {K : Kr} (C : CS v K) (W : WF K) {h : Int64} {post : Int64 → Prop} (k : post (fo h (cF K) (6 * K.nc))) : ∀ d p : Nat, p + d = K.nc → PX7_hashPeopleAndCouples_58 kc v post (d + 1) (fo h (cF K) (6 * p)) (nI p) := by
  have hn := W.nc10
  intro d
  induction d with
  | zero =>
    intro p hp
    unfold PX7_hashPeopleAndCouples_58 PX5_couples
    rw [C.1.2.1, show p = K.nc by omega]
    exact pc_t (nle' (Nat.le_refl _) (by omega)) k
  | succ d ih =>
    intro p hp
    unfold PX7_hashPeopleAndCouples_58 PX5_couples
    rw [C.1.2.1]
    exact pc_f (nle (by omega) (by omega)) ⟨_, c_hc_in C W (h := h) (show p < K.nc by omega) (ih (p + 1) (by omega)) 6 0 (by omega)⟩
theorem c_hp {kc v : Mem} {K : Kr} (C : CS v K) (W : WF K) {h : Int64} {post : Int64 → Prop} (k : post (fo (fo h (pF K) (7 * K.np)) (cF K) (6 * K.nc))) : ∀ d p : Nat, p + d = K.np → PX7_hashPeopleAndCouples_5 kc v post (d + 1) (fo h (pF K) (7 * p)) (nI p) := by
  have hn := W.np20
  intro d
  induction d with
  | zero =>
    intro p hp
    unfold PX7_hashPeopleAndCouples_5 PX5_people
    rw [C.1.1, show p = K.np by omega]
    exact pc_t (nle' (Nat.le_refl _) (by omega)) ⟨_, c_hc C W k K.nc 0 (by omega)⟩
  | succ d ih =>
    intro p hp
    unfold PX7_hashPeopleAndCouples_5 PX5_people
    rw [C.1.1]
    exact pc_f (nle (by omega) (by omega)) ⟨_, c_hp_in C W (h := h) (show p < K.np by omega) (ih (p + 1) (by omega)) 7 0 (by omega)⟩
theorem c_hr_in {kc v : Mem} {K : Kr} (C : CS v K) (W : WF K) {h : Int64} {r : Nat} (hr : r < 4) {y0 : Mem} {post : Int64 → Mem → Prop} {K5 : Mem → Int64 → Int32 → Prop} (k : ∀ y, K5 y (fo h (rF K) (8 * (r + 1))) (nI (r + 1))) : ∀ d i : Nat, i + d = 6 → PX7_hashRows_14 kc v post K5 (d + 1) y0 (fo h (rF K) (8 * r + i)) (nI r) (nI i) := by
  intro d
  induction d with
  | zero =>
    intro i hi
    unfold PX7_hashRows_14
    rw [n6I, nI_1 r, show i = 6 by omega]
    refine pc_t (nle' (Nat.le_refl _) (by decide)) ?_
    show PX7_crossings_x kc v y0 (nI r) (nI 0) _ (fun _ => False)
    refine c_crs_x C W hr 0 (by decide) fun y5 q6 e6 => ?_
    show PX7_crossings_x kc v y5 (nI r) (nI 1) _ (fun _ => False)
    refine c_crs_x C W hr 1 (by decide) fun y9 q10 e10 => ?_
    have e := k y9
    rw [show 8 * (r + 1) = 8 * r + 7 + 1 by omega, fo_s, show 8 * r + 7 = 8 * r + 6 + 1 by omega, fo_s, show 8 * r + 6 + 1 = 8 * r + 7 by omega, rF_v K (by decide), rF_v K (by decide), rvv_x (by decide), rvv_x (by decide), ← e6, ← e10] at e
    exact e
  | succ d ih =>
    intro i hi
    unfold PX7_hashRows_14
    rw [n6I, nI_1 i]
    refine pc_f (nle (by omega) (by omega)) ?_
    show PX7_at_x kc v (nI r) (nI i) _ (fun _ => False)
    refine c_at_x C W hr (by omega) fun q16 e16 => ?_
    have e := ih (i + 1) (by omega)
    rw [← Nat.add_assoc, fo_s, rF_v K (by omega), rvv_at (by omega), ← e16] at e
    exact e
theorem c_hr {kc v : Mem} {K : Kr} (C : CS v K) (W : WF K) {h : Int64} {post : Int64 → Mem → Prop} (k : ∀ y, post (fo h (rF K) 32) y) : ∀ (d r : Nat) (y : Mem), r + d = 4 → PX7_hashRows_5 kc v post (d + 1) y (fo h (rF K) (8 * r)) (nI r) := by
  intro d
  induction d with
  | zero =>
    intro r y hr
    unfold PX7_hashRows_5
    rw [n4I, show r = 4 by omega]
    exact pc_t (nle' (Nat.le_refl _) (by decide)) (k y)
  | succ d ih =>
    intro r y hr
    unfold PX7_hashRows_5
    rw [n4I]
    exact pc_f (nle (by omega) (by omega)) ⟨_, c_hr_in C W (h := h) (show r < 4 by omega) (fun y2 => ih (r + 1) y2 (by omega)) 6 0 (by omega)⟩
/-- the slots' flags and the text at the end -/
def kF (kp : Nat → Bool) (s : Nat) : Int64 := (kpI (kp s)).toInt64
def tF (c : Nat → Nat) (i : Nat) : Int64 := (nI (c i)).toInt64
def dgE (kp : Nat → Bool) (c : Nat → Nat) (L : Nat) (h : Int64) : Int64 := fo (31 * fo h (kF kp) 2 + (nI L).toInt64) (tF c) L
theorem c_d195 {kc b tx v y x : Mem} {c : Nat → Nat} {L : Nat} (T : TX tx L c) {h : Int64} {post : Int64 → Mem → Mem → Mem → Prop} (k : post (fo h (tF c) L) v y x) : ∀ d i : Nat, i + d = L → PX7_digest_195 kc b tx post (d + 1) v y x (fo h (tF c) i) (nI i) := by
  have hL := T.2.1
  intro d
  induction d with
  | zero =>
    intro i hi
    unfold PX7_digest_195 PX6_length
    rw [T.1, show i = L by omega]
    exact pc_t (nle' (Nat.le_refl _) (by omega)) k
  | succ d ih =>
    intro i hi
    unfold PX7_digest_195 PX6_length
    rw [T.1, nI_1 i]
    refine pc_f (nle (by omega) (by omega)) (c_codeAt T (by omega) (fun _ q30 e30 => ?_) (fun g => absurd g (by omega)))
    have e := ih (i + 1) (by omega)
    rw [fo_s] at e
    have e2 : q30 = 31 * fo h (tF c) i + tF c i := e30
    rw [e2]; exact e
theorem c_d145 {kc b tx v y x : Mem} {c : Nat → Nat} {L : Nat} (T : TX tx L c) {kp : Nat → Bool} (hk : ∀ s, s < 2 → kc 2 s = kpI (kp s)) {h : Int64} {post : Int64 → Mem → Mem → Mem → Prop} (k : post (dgE kp c L h) v y x) : ∀ d i : Nat, i + d = 2 → PX7_digest_145 kc b tx post (d + 1) v y x (fo h (kF kp) i) (nI i) := by
  intro d
  induction d with
  | zero =>
    intro i hi
    unfold PX7_digest_145 PX6_length
    rw [n2I, T.1, show i = 2 by omega]
    refine pc_t (nle' (Nat.le_refl _) (by decide)) fun q24 e24 => ⟨_, c_d195 T (h := q24) ?_ L 0 (by omega)⟩
    rw [e24]; exact k
  | succ d ih =>
    intro i hi
    have e := ih (i + 1) (by omega)
    rw [fo_s] at e
    unfold PX7_digest_145
    rw [n2I, nI_1 i, ix_nI (show i < 2 ^ 31 by omega), hk i (by omega)]
    refine pc_f (nle (by omega) (by omega)) ⟨in_nI (by omega) (by omega), ?_⟩
    unfold kF at e
    cases g : kp i with
    | false =>
      rw [g] at e
      refine pc_t rfl fun q34 e34 => ?_
      rw [e34]; exact e
    | true =>
      rw [g] at e
      refine pc_f i10 fun q35 e35 => ?_
      rw [e35]; exact e
noncomputable def dgN (K : Kr) (kp : Nat → Bool) (c : Nat → Nat) (L : Nat) (h : Int64) : Int64 := dgE kp c L (31 * fo h (nF K) K.np + K.share.toInt64)
theorem c_d98 {kc b tx v y x : Mem} {K : Kr} (C : CS v K) (W : WF K) {c : Nat → Nat} {L : Nat} (T : TX tx L c) {kp : Nat → Bool} (hk : ∀ s, s < 2 → kc 2 s = kpI (kp s)) {h : Int64} {post : Int64 → Mem → Mem → Mem → Prop} (k : post (dgN K kp c L h) v y x) : ∀ d p : Nat, p + d = K.np → PX7_digest_98 kc b tx post (d + 1) v y x (fo h (nF K) p) (nI p) := by
  have hn := W.np20
  intro d
  induction d with
  | zero =>
    intro p hp
    unfold PX7_digest_98 PX5_people
    rw [C.1.1, show p = K.np by omega]
    refine pc_t (nle' (Nat.le_refl _) (by omega)) (c_share C W (c_bits W fun q20 e20 => ⟨_, c_d145 T hk (h := q20) ?_ 2 0 (by omega)⟩))
    rw [e20]; exact k
  | succ d ih =>
    intro p hp
    unfold PX7_digest_98 PX5_people
    rw [C.1.1, nI_1 p]
    refine pc_f (nle (by omega) (by omega)) ?_
    show PX7_nearness_x kc v (nI 0) (nI p) _ (fun _ => False)
    refine c_nearX C W (by omega) (by omega) fun q39 e39 => ?_
    have e := ih (p + 1) (by omega)
    rw [fo_s] at e
    have e2 : q39 = 31 * fo h (nF K) p + nF K p := e39
    rw [e2]; exact e
noncomputable def dgR (K : Kr) (kp : Nat → Bool) (c : Nat → Nat) (L : Nat) (h : Int64) : Int64 := dgN K kp c L (31 * fo h (lF K) 8 + (bsA K 4).2.toInt64)
theorem c_d45 {kc b tx v y : Mem} {K : Kr} (C : CS v K) (W : WF K) {c : Nat → Nat} {L : Nat} (T : TX tx L c) {kp : Nat → Bool} (hk : ∀ s, s < 2 → kc 2 s = kpI (kp s)) {h : Int64} {post : Int64 → Mem → Mem → Mem → Prop} (k : ∀ v y x, CS v K → post (dgR K kp c L h) v y x) : ∀ (d r : Nat) (x : Mem), r + d = 4 → PX7_digest_45 kc b tx post (d + 1) v y x (fo h (lF K) (2 * r)) (nI r) := by
  intro d
  induction d with
  | zero =>
    intro r x hr
    unfold PX7_digest_45
    rw [n4I, show r = 4 by omega]
    refine pc_t (nle' (Nat.le_refl _) (by decide)) (c_bestSwap C W fun v2 y2 C2 q12 e12 => ⟨_, c_d98 C2 W T hk (h := q12) ?_ K.np 0 (by omega)⟩)
    rw [e12]; exact k v2 y2 x C2
  | succ d ih =>
    intro r x hr
    unfold PX7_digest_45
    rw [n4I, nI_1 r]
    refine pc_f (nle (by omega) (by omega)) ?_
    show PX7_least_x kc v x (nI r) (nI 0) _ (fun _ => False)
    refine c_lst_x C W (by omega) 0 (by decide) fun x2 q44 e44 => ?_
    show PX7_least_x kc v x2 (nI r) (nI 1) _ (fun _ => False)
    refine c_lst_x C W (by omega) 1 (by decide) fun x3 q48 e48 => ?_
    have e := ih (r + 1) x3 (by omega)
    rw [show 2 * (r + 1) = 2 * r + 1 + 1 by omega, fo_s, fo_s, lF_v K (i := 1) (by decide), show lF K (2 * r) = (nI (K.lst r).1).toInt64 from lF_v K (i := 0) (by decide), ← e44, ← e48] at e
    exact e
/-- all of it -/
noncomputable def dgA (K : Kr) (n : Nat) (kp : Nat → Bool) (c : Nat → Nat) (L : Nat) : Int64 := dgR K kp c L (fo (fo (fo (fo 3727 (fun i => (K.kv n i).toInt64) 9) (pF K) (7 * K.np)) (cF K) (6 * K.nc)) (rF K) 32)
theorem cnt_nt {kc v b y : Mem} {p1 : Int32} {post : Int32 → Mem → Prop} (h : PX7_count_x kc v b y p1 post (fun _ => False)) : PX7_count_nt kc v b y p1 post := h
theorem c_digest {kc v b tx y x : Mem} {K : Kr} {n : Nat} (C : CS v K) (W : WF K) (hb : b 2 0 = nI n) {c : Nat → Nat} {L : Nat} (T : TX tx L c) {kp : Nat → Bool} (hk : ∀ s, s < 2 → kc 2 s = kpI (kp s)) {post : Int64 → Mem → Mem → Mem → Prop} (k : ∀ v y x, CS v K → post (dgA K n kp c L) v y x) : PX7_digest kc v b tx y x post := by
  have h8 : (8 : Int32) = nI 8 := rfl
  have go : ∀ (d i : Nat) (y : Mem), i + d = 9 → PX7_digest_6 kc b tx post (d + 1) v y x (fo 3727 (fun i => (K.kv n i).toInt64) i) (nI i) := by
    intro d
    induction d with
    | zero =>
      intro i y hi
      unfold PX7_digest_6
      rw [h8, show i = 9 by omega]
      exact pc_t (nI_lt (by decide) (by decide)) ⟨_, c_hp C W ⟨_, c_hr C W (fun y2 => ⟨_, c_d45 C W T hk k 4 0 x (by omega)⟩) 4 0 y (by omega)⟩ K.np 0 (by omega)⟩
    | succ d ih =>
      intro i y hi
      unfold PX7_digest_6
      rw [h8, nI_1 i]
      refine pc_f (nI_nlt (by omega) (by omega)) ?_
      refine cnt_nt (c_cnt_x C W hb i (by omega) fun y2 q53 e53 => ?_)
      have e := ih (i + 1) y2 (by omega)
      rw [fo_s] at e
      rw [e53]; exact e
  exact ⟨_, go 9 0 y (by omega)⟩
/-! the other one -/
def FRD (w w2 : Mem) : Prop := ∀ j, j ≠ 0 → j ≠ 5 → j ≠ 6 → j ≠ 7 → j ≠ 8 → j ≠ 10 → j ≠ 11 → w2 j = w j
theorem FRD.rf (w : Mem) : FRD w w := fun _ _ _ _ _ _ _ _ => rfl
theorem FRD.tr {a b c : Mem} (h : FRD a b) (g : FRD b c) : FRD a c := fun j x y z t u p q => (g j x y z t u p q).trans (h j x y z t u p q)
theorem FR.tod {a b : Mem} (h : FR a b) : FRD a b := fun j _ _ x y z _ _ => h j x y z
theorem FRD.hk {a b : Mem} (h : FRD a b) : HK a b := fun j hj => h j (by omega) (by omega) (by omega) (by omega) (by omega) (by omega) (by omega)
theorem m_d212 {w : Mem} {c : Nat → Nat} {L : Nat} (T : TXM w L c) (hL : L ≤ 60) {h : Int64} {post : Int64 → Mem → Int64 → Prop} (k : post (fo h (tF c) L) w (fo h (tF c) L)) : ∀ d i : Nat, i + d = L → PX8_digest_212 post (d + 1) w (fo h (tF c) i) (nI i) := by
  intro d
  induction d with
  | zero =>
    intro i hi
    unfold PX8_digest_212
    rw [T.1, show i = L by omega]
    exact pc_t (nle' (Nat.le_refl _) (by omega)) k
  | succ d ih =>
    intro i hi
    unfold PX8_digest_212
    rw [T.1, nI_1 i, ix_nI (show i < 2 ^ 31 by omega), T.2 i (by omega)]
    refine pc_f (nle (by omega) (by omega)) ⟨in_nI (by omega) (by omega), fun q eq => ?_⟩
    have e := ih (i + 1) (by omega)
    rw [fo_s] at e
    have e2 : q = 31 * fo h (tF c) i + tF c i := eq
    rw [e2]; exact e
theorem m_dgE {w : Mem} {hs : Int64} {c : Nat → Nat} {L : Nat} (T : TXM w L c) (hL : L ≤ 60) {kp : Nat → Bool} (h4 : ∀ s, s < 2 → w 4 s = kpI (kp s)) {post : Int64 → Mem → Int64 → Prop} (k : post (dgE kp c L hs) w (dgE kp c L hs)) : vp_in 0 2 ∧ (((w 4 (ix 0)) = 0) → PX8_digest_180 post w hs 0) ∧ ((¬ (w 4 (ix 0)) = 0) → PX8_digest_180 post w hs 1) := by
  have last : ∀ h9 : Int64, h9 = fo hs (kF kp) 2 → PX8_mix w h9 ((w 13 0).toInt64) (fun hs34 => ∃ n39, PX8_digest_212 post n39 w hs34 0) := fun h9 e9 hs34 e34 => by
    rw [T.1] at e34
    refine ⟨_, m_d212 T hL (h := hs34) ?_ L 0 (by omega)⟩
    rw [e34, e9]; exact k
  have mid : ∀ h8 : Int64, h8 = fo hs (kF kp) 1 → vp_in 1 2 ∧ (((w 4 (ix 1)) = 0) → PX8_digest_198 post w h8 0) ∧ ((¬ (w 4 (ix 1)) = 0) → PX8_digest_198 post w h8 1) := fun h8 e8 => by
    refine ⟨in_nI (n := 1) (by decide) (by decide), ?_⟩
    rw [ix1, h4 1 (by decide)]
    cases g : kp 1 with
    | false => exact pc_t rfl fun h9 e9 => last h9 (by rw [e9, e8]; show _ = 31 * fo hs (kF kp) 1 + kF kp 1; unfold kF; rw [g]; rfl)
    | true => exact pc_f i10 fun h9 e9 => last h9 (by rw [e9, e8]; show _ = 31 * fo hs (kF kp) 1 + kF kp 1; unfold kF; rw [g]; rfl)
  refine ⟨in_nI (n := 0) (by decide) (by decide), ?_⟩
  rw [ix0, h4 0 (by decide)]
  cases g : kp 0 with
  | false => exact pc_t rfl fun h8 e8 => mid h8 (by rw [e8]; show _ = 31 * hs + kF kp 0; unfold kF; rw [g]; rfl)
  | true => exact pc_f i10 fun h8 e8 => mid h8 (by rw [e8]; show _ = 31 * hs + kF kp 0; unfold kF; rw [g]; rfl)
theorem m_d127 {K : Kr} (W : WF K) {c : Nat → Nat} {L : Nat} (hL : L ≤ 60) {kp : Nat → Bool} {h : Int64} {w : Mem} (M : MS (w 0) K) (T : TXM w L c) (h4 : ∀ s, s < 2 → w 4 s = kpI (kp s)) {post : Int64 → Mem → Int64 → Prop} (k : ∀ w2, FRD w w2 → MS (w2 0) K → post (dgN K kp c L h) w2 (dgN K kp c L h)) : ∀ d p : Nat, p + d = K.np → PX8_digest_127 post (d + 1) w (fo h (nF K) p) (nI p) := by
  have hn := W.np20
  intro d
  induction d with
  | zero =>
    intro p hp
    unfold PX8_digest_127
    rw [ix0, M.1.1, show p = K.np by omega]
    refine ⟨in91 (n := 0) (by decide), pc_t (nle' (Nat.le_refl _) (by omega)) (m_share M W fun w20 f20 => m_bits W fun hs24 e24 => ?_)⟩
    refine m_dgE (T.cg (f20 12 (by decide) (by decide) (by decide)) (f20 13 (by decide) (by decide) (by decide))) hL (fun s hs => by rw [f20 4 (by decide) (by decide) (by decide)]; exact h4 s hs) ?_
    rw [e24]; exact k w20 f20.tod (f20.ms M)
  | succ d ih =>
    intro p hp
    unfold PX8_digest_127
    rw [ix0, M.1.1, nI_1 p]
    refine ⟨in91 (n := 0) (by decide), pc_f (nle (by omega) (by omega)) ?_⟩
    show PX8_near w _ (nI 0) (nI p) _
    refine m_near M W (by omega) (by omega) fun q39 e39 => ?_
    have e := ih (p + 1) (by omega)
    rw [fo_s] at e
    have e2 : q39 = 31 * fo h (nF K) p + nF K p := e39
    rw [e2]; exact e
theorem m_mr60 {K : Kr} (W : WF K) {w0 : Mem} {h : Int64} {post : Mem → Int64 → Prop} (k : ∀ w, FRD w0 w → MS (w 0) K → post w (fo h (lF K) 8)) : ∀ (d r : Nat) (w : Mem), r + d = 4 → FRD w0 w → MS (w 0) K → PX8_mixRows_60 post (d + 1) w (fo h (lF K) (2 * r)) (nI r) := by
  intro d
  induction d with
  | zero =>
    intro r w hr f M
    unfold PX8_mixRows_60
    rw [n4I, show r = 4 by omega]
    exact pc_t (nle' (Nat.le_refl _) (by decide)) (k w f M)
  | succ d ih =>
    intro r w hr f M
    unfold PX8_mixRows_60
    rw [n4I, nI_1 r]
    refine pc_f (nle (by omega) (by omega)) (m_leastOf M W (by omega) fun w5 f5 M5 _ hs7 e7 => m_leastOf M5 W (by omega) fun w10 f10 M10 _ hs12 e12 => ?_)
    have e := ih (r + 1) w10 (by omega) (f.tr fun j a b c d e g h => by rw [f10 j a c d e g h, f5 j a c d e g h]) M10
    rw [show 2 * (r + 1) = 2 * r + 1 + 1 by omega, fo_s, fo_s, lF_v K (i := 1) (by decide), show lF K (2 * r) = (nI (K.lst r).1).toInt64 from lF_v K (i := 0) (by decide), ← e7, ← e12] at e
    exact e
theorem m_mr9 {K : Kr} (W : WF K) {w0 : Mem} {h : Int64} {r : Nat} (hr : r < 4) {post : Mem → Int64 → Prop} {K2 : Mem → Int64 → Int32 → Prop} (k : ∀ w, FRD w0 w → MS (w 0) K → K2 w (fo h (rF K) (8 * (r + 1))) (nI (r + 1))) : ∀ (d i : Nat) (w : Mem), i + d = 6 → FRD w0 w → MS (w 0) K → PX8_mixRows_9 post K2 (d + 1) w (fo h (rF K) (8 * r + i)) (nI r) (nI i) := by
  intro d
  induction d with
  | zero =>
    intro i w hi f M
    unfold PX8_mixRows_9
    rw [n6I, nI_1 r, show i = 6 by omega]
    refine pc_t (nle' (Nat.le_refl _) (by decide)) (m_crossingsTo M W hr fun w17 f17 hs19 e19 => m_crossingsTo (f17.ms M) W hr fun w22 f22 hs24 e24 => ?_)
    have e := k w22 (f.tr (f17.tr f22).tod) (f22.ms (f17.ms M))
    rw [show 8 * (r + 1) = 8 * r + 7 + 1 by omega, fo_s, show 8 * r + 7 = 8 * r + 6 + 1 by omega, fo_s, show 8 * r + 6 + 1 = 8 * r + 7 by omega, rF_v K (by decide), rF_v K (by decide), rvv_x (by decide), rvv_x (by decide), ← e19, ← e24] at e
    exact e
  | succ d ih =>
    intro i w hi f M
    unfold PX8_mixRows_9
    rw [n6I, nI_1 i]
    refine pc_f (nle (by omega) (by omega)) (m_at M W hr (by omega) fun q16 e16 => ?_)
    have e := ih (i + 1) w (by omega) f M
    rw [← Nat.add_assoc, fo_s, rF_v K (by omega), rvv_at (by omega), ← e16] at e
    exact e
theorem m_mr {K : Kr} (W : WF K) {w0 : Mem} {h : Int64} {post : Mem → Int64 → Prop} (k : ∀ w, FRD w0 w → MS (w 0) K → post w (fo (fo h (rF K) 32) (lF K) 8)) : ∀ (d r : Nat) (w : Mem), r + d = 4 → FRD w0 w → MS (w 0) K → PX8_mixRows_2 post (d + 1) w (fo h (rF K) (8 * r)) (nI r) := by
  intro d
  induction d with
  | zero =>
    intro r w hr f M
    unfold PX8_mixRows_2
    rw [n4I, show r = 4 by omega]
    exact pc_t (nle' (Nat.le_refl _) (by decide)) ⟨_, m_mr60 W (w0 := w0) k 4 0 w (by omega) f M⟩
  | succ d ih =>
    intro r w hr f M
    unfold PX8_mixRows_2
    rw [n4I]
    exact pc_f (nle (by omega) (by omega)) ⟨_, m_mr9 W (w0 := w0) (h := h) (show r < 4 by omega) (fun w2 f2 M2 => ih (r + 1) w2 (by omega) f2 M2) 6 0 w (by omega) f M⟩
theorem m_d76 {K : Kr} (W : WF K) {c : Nat → Nat} {L : Nat} (hL : L ≤ 60) {kp : Nat → Bool} {h : Int64} {w : Mem} (M : MS (w 0) K) (T : TXM w L c) (h4 : ∀ s, s < 2 → w 4 s = kpI (kp s)) {post : Int64 → Mem → Int64 → Prop} {D : Int64} (hD : D = dgR K kp c L (fo (fo h (cF K) (6 * K.nc)) (rF K) 32)) (k : ∀ w2, FRD w w2 → MS (w2 0) K → post D w2 D) : ∀ d q : Nat, q + d = 6 * K.nc → PX8_digest_76 post (d + 1) w (fo h (cF K) q) (nI q) := by
  have hn := W.nc10
  intro d
  induction d with
  | zero =>
    intro q hq
    unfold PX8_digest_76
    rw [ix1, M.1.2.1, n6I, pk_mul, show q = 6 * K.nc by omega]
    refine ⟨in91 (n := 1) (by decide), pc_t (nle' (Nat.le_refl _) (by omega)) ⟨_, m_mr W (w0 := w) (fun w9 f9 M9 => m_bestOfAll M9 W fun w13 f13 M13 hs15 e15 => ?_) 4 0 w (by omega) (FRD.rf w) M⟩⟩
    have F : FRD w w13 := f9.tr fun j a _ b c d _ _ => f13 j a b c d
    refine ⟨_, m_d127 W hL (h := hs15) (kp := kp) M13 (T.cg (F.hk 12 (by decide)) (F.hk 13 (by decide))) (fun s hs => by rw [F.hk 4 (by decide)]; exact h4 s hs) (fun w2 f2 M2 => ?_) K.np 0 (by omega)⟩
    have ed : dgN K kp c L hs15 = D := by rw [hD, e15]; rfl
    rw [ed]; exact k w2 (F.tr f2) M2
  | succ d ih =>
    intro q hq
    unfold PX8_digest_76
    rw [ix1, M.1.2.1, n6I, pk_mul, nI_1 q, pk_rem (show q < 2 ^ 31 by omega) (by decide) (by decide), pk_div (show q < 2 ^ 31 by omega) (by decide) (by decide)]
    refine ⟨in91 (n := 1) (by decide), pc_f (nle (by omega) (by omega)) (m_ofCpl M W (show q / 6 < K.nc by omega) (q % 6) (by omega) fun q45 e45 => ?_)⟩
    have e := ih (q + 1) (by omega)
    rw [fo_s] at e
    have e2 : q45 = 31 * fo h (cF K) q + cF K q := e45
    rw [e2]; exact e
theorem m_d38 {K : Kr} (W : WF K) {c : Nat → Nat} {L : Nat} (hL : L ≤ 60) {kp : Nat → Bool} {h : Int64} {w : Mem} (M : MS (w 0) K) (T : TXM w L c) (h4 : ∀ s, s < 2 → w 4 s = kpI (kp s)) {post : Int64 → Mem → Int64 → Prop} {D : Int64} (hD : D = dgR K kp c L (fo (fo (fo h (pF K) (7 * K.np)) (cF K) (6 * K.nc)) (rF K) 32)) (k : ∀ w2, FRD w w2 → MS (w2 0) K → post D w2 D) : ∀ d q : Nat, q + d = 7 * K.np → PX8_digest_38 post (d + 1) w (fo h (pF K) q) (nI q) := by
  have hn := W.np20
  intro d
  induction d with
  | zero =>
    intro q hq
    unfold PX8_digest_38
    rw [ix0, M.1.1, n7I, pk_mul, show q = 7 * K.np by omega]
    exact ⟨in91 (n := 0) (by decide), pc_t (nle' (Nat.le_refl _) (by omega)) ⟨_, m_d76 W hL M T h4 hD k (6 * K.nc) 0 (by omega)⟩⟩
  | succ d ih =>
    intro q hq
    unfold PX8_digest_38
    rw [ix0, M.1.1, n7I, pk_mul, nI_1 q, pk_rem (show q < 2 ^ 31 by omega) (by decide) (by decide), pk_div (show q < 2 ^ 31 by omega) (by decide) (by decide)]
    refine ⟨in91 (n := 0) (by decide), pc_f (nle (by omega) (by omega)) (m_ofPer M W (show q / 7 < K.np by omega) (q % 7) (by omega) fun q45 e45 => ?_)⟩
    have e := ih (q + 1) (by omega)
    rw [fo_s] at e
    have e2 : q45 = 31 * fo h (pF K) q + pF K q := e45
    rw [e2]; exact e
theorem m_digest {w : Mem} {hs : Int64} {K : Kr} {n : Nat} (M : MS (w 0) K) (W : WF K) (h2 : w 2 0 = nI n) {c : Nat → Nat} {L : Nat} (T : TXM w L c) (hL : L ≤ 60) {kp : Nat → Bool} (h4 : ∀ s, s < 2 → w 4 s = kpI (kp s)) {post : Int64 → Mem → Int64 → Prop} (k : ∀ w2, FRD w w2 → MS (w2 0) K → post (dgA K n kp c L) w2 (dgA K n kp c L)) : PX8_digest w hs post := by
  intro w1 e1 hs2 e2
  subst e2
  have f1 : FRD w w1 := fun j _ b _ _ _ _ _ => by rw [e1, mset_o _ _ _ b]
  have go : ∀ (d i : Nat) (w : Mem), i + d = 9 → FRD w1 w → MS (w 0) K → PX8_digest_14 post (d + 1) w (fo 3727 (fun i => (K.kv n i).toInt64) i) (nI i) := by
    intro d
    induction d with
    | zero =>
      intro i w3 hi f M3
      have F := f1.tr f
      unfold PX8_digest_14
      rw [n9I, show i = 9 by omega]
      exact pc_t (nle' (Nat.le_refl _) (by decide)) ⟨_, m_d38 W hL M3 (T.cg (F.hk 12 (by decide)) (F.hk 13 (by decide))) (fun s hs => by rw [F.hk 4 (by decide)]; exact h4 s hs) rfl (fun w2 f2 M2 => k w2 (F.tr f2) M2) (7 * K.np) 0 (by omega)⟩
    | succ d ih =>
      intro i w3 hi f M3
      have F := f1.tr f
      unfold PX8_digest_14
      rw [n9I, nI_1 i]
      refine pc_f (nle (by omega) (by omega)) (m_cnt0 M3 W (by rw [F.hk 2 (by decide)]; exact h2) i (by omega) fun w57 f57 hs59 e59 => ?_)
      have e := ih (i + 1) w57 (by omega) (f.tr f57.tod) (f57.ms M3)
      rw [fo_s] at e
      rw [e59]; exact e
  exact ⟨_, go 9 0 w1 (by omega) (FRD.rf _) (by rw [e1, mset_o _ _ _ (by decide)]; exact M)⟩
