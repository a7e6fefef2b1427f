/-! the law: forty calls on both -/
def K0 : Kr := (0, 0, 0, fun _ => 0, fun _ => none, fun _ => 0, fun _ => 0, fun _ => 0, fun _ _ => 0)
theorem K0_wf : WF K0 := by
  have h1 : K0.np = 0 := rfl
  have h2 : K0.nc = 0 := rfl
  have h3 : ∀ r, K0.sz r = 0 := fun _ => rfl
  refine ⟨⟨by rw [h1]; omega, by rw [h2]; omega, fun r _ => by rw [h3]; omega⟩, fun p hp => ?_, fun r k _ hk => ?_, fun r _ i j hi => ?_, fun p c hp => ?_, fun c hc => ?_, fun p => ?_⟩
  · rw [h1] at hp; omega
  · rw [h3] at hk; omega
  · rw [h3] at hi; omega
  · rw [h1] at hp; omega
  · rw [h2] at hc; omega
  · rw [h2]; exact Nat.zero_le _
theorem LK_0 : LK K0 zeroM zeroM (fun _ => zeroM) zeroM zeroM zeroM zeroM := by
  have h1 : K0.np = 0 := rfl
  have h2 : K0.nc = 0 := rfl
  have h3 : ∀ r, K0.sz r = 0 := fun _ => rfl
  refine ⟨⟨⟨rfl, rfl, rfl⟩, fun p hp => ?_, fun c hc => ?_, fun r _ => rfl, fun r k _ hk => ?_⟩, K0_wf, ⟨0, fun _ => K0, 0, by decide, by decide, rfl, rfl, fun i h => absurd h (by omega)⟩, fun p hp => ?_, fun c hc => ?_, fun r k _ hk => ?_, ⟨⟨rfl, rfl, rfl⟩, fun r _ => rfl⟩⟩
  · rw [h1] at hp; omega
  · rw [h2] at hc; omega
  · rw [h3] at hk; omega
  · rw [h1] at hp; omega
  · rw [h2] at hc; omega
  · rw [h3] at hk; omega
theorem l_cell {xs : Nat → Int32} {L i : Nat} (hL : L ≤ 260) (hi : i < 2 ^ 31) {post : Int32 → Prop} (k : ∀ x, post x) : PL_cell xs L (nI i) post := by
  unfold PL_cell
  refine ⟨fun _ => k _, fun h => ⟨in_nI ?_ (by omega), k _⟩⟩
  rcases Nat.lt_or_ge i L with g | g
  · exact g
  · exact absurd (nle' g hi) h
theorem law_l (xs : Nat → Int32) (L : Nat) (hL : L ≤ 260) : ∀ (d i : Nat) (K : Kr) (kc v b : Mem) (r : Nat → Mem) (y o x ap ac aq an : Mem), i + d = 40 → LK K v b r ap ac aq an → (0 < i → 1 ≤ K.np) → PL_law_83 xs L (d + 1) kc v b r y o x ap ac aq an 1 (nI i) := by
  intro d
  induction d with
  | zero =>
    intro i K kc v b r y o x ap ac aq an hi H h1
    unfold PL_law_83
    exact pc_t (nle' (a := 40) (by omega) (by omega)) rfl
  | succ d ih =>
    intro i K kc v b r y o x ap ac aq an hi H h1
    have next : ∀ K2 v b r y o x ap ac aq an, LK K2 v b r ap ac aq an → 1 ≤ K2.np → PL_law_83 xs L (d + 1) kc v b r y o x ap ac aq an 1 (nI i + 1) := fun K2 v b r y o x ap ac aq an H2 h2 => by
      rw [nI_1]
      exact ih (i + 1) K2 kc v b r y o x ap ac aq an (by omega) H2 fun _ => h2
    have s156 : ∀ x8 z0 z1, PL_law_156 xs L (PL_law_83 xs L (d + 1)) kc v b r y o x ap ac aq an (nI i) x8 z0 z1 := fun x8 z0 z1 => by
      unfold PL_law_156
      refine l_acts H fun K2 v2 b2 r2 y2 o2 x2 ap2 ac2 aq2 an2 H2 h2 => ?_
      have H3 := H2
      obtain ⟨S, W, R, P, C, Q, N⟩ := H2
      refine pc_f i10 (l_people S W R.n P C Q N fun y3 => pc_f i10 (l_rows S W R.n P C Q N fun y4 => pc_f i10 ?_))
      refine ⟨fun _ => next K2 _ _ _ _ _ _ _ _ _ _ H3 h2, fun _ => l_low (n := 4) (by decide) (by decide) fun q hq => l_isLeast S P C Q N W h2 hq fun v5 y5 x5 S5 => pc_f i10 (next K2 _ _ _ _ _ _ _ _ _ _ ⟨S5, W, R, P, C, Q, N⟩ h2)⟩
    have s130 : ∀ x8 z0, PL_law_130 xs L (PL_law_83 xs L (d + 1)) kc v b r y o x ap ac aq an (nI i) x8 z0 := fun x8 z0 => by
      unfold PL_law_130
      exact ⟨fun _ => s156 _ _ _, fun _ => l_low (n := 2) (by decide) (by decide) fun q _ => s156 _ _ _⟩
    unfold PL_law_83
    refine pc_f (nle (a := 40) (by omega) (by decide)) (pc_f i10 (l_cell hL (by omega) fun x7 => ⟨fun _ => l_low (n := 14) (by decide) (by decide) fun q _ => s130 _ _, fun _ => s130 _ _⟩))
theorem pure_law (xs : Nat → Int32) (L : Nat) (hL : L ≤ 260) : PL_law xs L := by
  have H := LK_0
  obtain ⟨S, W, R, P, C, Q, N⟩ := H
  unfold PL_law PL_law_30
  refine l_people S W R.n P C Q N fun y3 => pc_f i10 (l_rows S W R.n P C Q N fun y4 => pc_f i10 (c_bestSwap S W fun v5 y5 S5 => ?_))
  have e : (bsA K0 4).2 = -1 := rfl
  rw [e]
  refine pd_t rfl (n_lst S5 W (r := 3) (by decide) 1 (by decide) fun x5 => ?_)
  have e2 : (K0.lst 3).1 = 0 := by
    have h := (lst_f W (show 3 < 4 by decide)).2.1
    rw [h]
    have hz : ∀ K : Kr, ∀ r, K.sz r = 0 → K.X r = 0 := fun K r e => by unfold Kr.X; rw [e]; rfl
    unfold Kr.fY Kr.Yo
    rw [if_neg (by decide), hz _ _ rfl]
  rw [e2]
  exact pd_t rfl (law_l xs L hL 40 0 K0 _ _ _ _ _ _ _ _ _ _ _ (by omega) ⟨S5, W, R, P, C, Q, N⟩ fun h => absurd h (by decide))
