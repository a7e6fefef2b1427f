/-! the law: every answer of every run of calls is alike -/
def K0 : Kr := (0, 0, 0, fun _ => 0, fun _ => none, fun _ => 0, fun _ => 0, fun _ => 0, fun _ _ => 0)
theorem K0_wf : WF K0 := by
  have h1 : K0.np = 0 := rfl
  have h2 : K0.nc = 0 := rfl
  have h3 : ∀ r, K0.sz r = 0 := fun _ => rfl
  refine ⟨⟨by rw [h1]; omega, by rw [h2]; omega, fun r _ => by rw [h3]; omega⟩, fun p hp => ?_, fun r k _ hk => ?_, fun r _ i j hi => ?_, fun p c hp => ?_, fun c hc => ?_, fun p => ?_⟩
  · rw [h1] at hp; omega
  · rw [h3] at hk; omega
  · rw [h3] at hi; omega
  · rw [h1] at hp; omega
  · rw [h2] at hc; omega
  · rw [h2]; exact Nat.zero_le _
theorem INV_0 : INV zeroM zeroM (fun _ => zeroM) zeroM (fun _ => zeroM) zeroM zeroM := by
  have h1 : K0.np = 0 := rfl
  have h2 : K0.nc = 0 := rfl
  have h3 : ∀ r, K0.sz r = 0 := fun _ => rfl
  refine ⟨K0, 0, fun _ => K0, fun _ => false, fun _ => K0, 0, fun _ => 0, ⟨⟨rfl, rfl, rfl⟩, fun p hp => ?_, fun c hc => ?_, fun r _ => rfl, fun r k _ hk => ?_⟩, K0_wf, ⟨⟨rfl, rfl, rfl⟩, fun p hp => ?_, fun c hc => ?_, fun r _ => rfl, fun r k _ hk => ?_⟩, ⟨0, by decide, by decide, rfl, rfl, fun i h => absurd h (by omega)⟩, fun s _ => ⟨rfl, fun h => (by cases h)⟩, ⟨rfl, by decide, fun i h => absurd h (by omega)⟩, ⟨by decide, rfl, fun i h => absurd h (by omega)⟩, fun s _ => ⟨rfl, fun h => (by cases h)⟩, rfl, fun i h => absurd h (by omega)⟩
  · rw [h1] at hp; omega
  · rw [h2] at hc; omega
  · rw [h3] at hk; omega
  · rw [h1] at hp; omega
  · rw [h2] at hc; omega
  · rw [h3] at hk; omega
theorem ml3 {L i : Nat} (hL : L ≤ 1536) (hi : i < 2 ^ 31) : (nI L - 3 < nI i ↔ L < i + 3) := by
  rw [n3I, Int32.lt_iff_toInt_lt, pk_sub_toInt (by omega) (by omega), nI_toInt hi]
  omega
set_option maxHeartbeats 8000000 in
set_option maxRecDepth 20000 in
theorem law_l (xs : Nat → Int32) (L : Nat) (hL : L ≤ 1536) : ∀ (n i : Nat) (kc v : Mem) (sl : Nat → Mem) (b : Mem) (r : Nat → Mem) (tx y o x w : Mem) (hs : Int64) (ou : Nat → Int64), L + 3 ≤ i + 3 * n → i ≤ L → INV kc v sl b r tx w → PL_law_23 xs L n kc v sl b r tx y o x w hs ou (nI i) := by
  intro n
  induction n with
  | zero => intro i kc v sl b r tx y o x w hs ou h1 h2; omega
  | succ n ih =>
    intro i kc v sl b r tx y o x w hs ou h1 h2 I
    unfold PL_law_23
    refine ⟨fun _ => trivial, fun hne => ?_⟩
    have h3 : i + 3 ≤ L := by
      rcases Nat.lt_or_ge L (i + 3) with g | g
      · exact absurd ((ml3 hL (by omega)).mpr g) hne
      · exact g
    have v0 : vp_in (nI i) L := in_nI (by omega) (by omega)
    have v1 : vp_in (nI i + 1) L := by rw [nI_1]; exact in_nI (by omega) (by omega)
    have v2 : vp_in (nI i + 2) L := by rw [n2I, nI_add]; exact in_nI (by omega) (by omega)
    have e3 : nI i + 3 = nI (i + 3) := by rw [n3I, nI_add]
    have IH : ∀ (kc v : Mem) (sl : Nat → Mem) (b : Mem) (r : Nat → Mem) (tx y o x w : Mem) (hs : Int64) (ou : Nat → Int64), INV kc v sl b r tx w → PL_law_23 xs L n kc v sl b r tx y o x w hs ou (nI i + 3) := fun kc v sl b r tx y o x w hs ou J => by
      rw [e3]; exact ih (i + 3) kc v sl b r tx y o x w hs ou (by omega) (by omega) J
    refine ⟨v0, fun _ => ⟨v1, arm_person I _ v1 (N := fun v b r w ou => PL_law_23 xs L n kc v sl b r tx y o x w hs ou (nI i + 3)) (fun v b r w ou J => IH kc v sl b r tx y o x w hs ou J)⟩, fun _ => ?_⟩
    refine ⟨fun _ => ⟨v1, v2, arm_marry I _ _ v1 v2 (N := fun v b r w ou => PL_law_23 xs L n kc v sl b r tx y o x w hs ou (nI i + 3)) (fun v b r w ou J => IH kc v sl b r tx y o x w hs ou J)⟩, fun _ => ?_⟩
    refine ⟨fun _ => ⟨v1, arm_child I _ v1 (N := fun v b r w ou => PL_law_23 xs L n kc v sl b r tx y o x w hs ou (nI i + 3)) (fun v b r w ou J => IH kc v sl b r tx y o x w hs ou J)⟩, fun _ => ?_⟩
    refine ⟨fun _ => ⟨v1, v2, arm_swap I _ _ v1 v2 (N := fun v b r y w ou => PL_law_23 xs L n kc v sl b r tx y o x w hs ou (nI i + 3)) (fun v b r y w ou J => IH kc v sl b r tx y o x w hs ou J)⟩, fun _ => ?_⟩
    refine ⟨fun _ => ⟨v1, arm_byParents I _ v1 (N := fun v b r o w ou => PL_law_23 xs L n kc v sl b r tx y o x w hs ou (nI i + 3)) (fun v b r o w ou J => IH kc v sl b r tx y o x w hs ou J)⟩, fun _ => ?_⟩
    refine ⟨fun _ => ⟨v1, arm_untangle I _ v1 (N := fun v b r x w ou => PL_law_23 xs L n kc v sl b r tx y o x w hs ou (nI i + 3)) (fun v b r x w ou J => IH kc v sl b r tx y o x w hs ou J)⟩, fun _ => ?_⟩
    refine ⟨fun _ => ⟨v1, arm_append I _ v1 (N := fun tx w ou => PL_law_23 xs L n kc v sl b r tx y o x w hs ou (nI i + 3)) (fun tx w ou J => IH kc v sl b r tx y o x w hs ou J)⟩, fun _ => ?_⟩
    refine ⟨fun _ => arm_clear I (N := fun tx w => PL_law_23 xs L n kc v sl b r tx y o x w hs ou (nI i + 3)) (fun tx w J => IH kc v sl b r tx y o x w hs ou J), fun _ => ?_⟩
    refine ⟨fun _ => arm_first I (N := fun w => PL_law_23 xs L n kc v sl b r tx y o x w hs ou (nI i + 3)) (fun w J => IH kc v sl b r tx y o x w hs ou J), fun _ => ?_⟩
    refine ⟨fun _ => arm_run I (N := fun v b r tx w ou => PL_law_23 xs L n kc v sl b r tx y o x w hs ou (nI i + 3)) (fun v b r tx w ou J => IH kc v sl b r tx y o x w hs ou J), fun _ => ?_⟩
    refine ⟨fun _ => ⟨v1, arm_keep I _ v1 (N := fun kc sl w ou => PL_law_23 xs L n kc v sl b r tx y o x w hs ou (nI i + 3)) (fun kc sl w ou J => IH kc v sl b r tx y o x w hs ou J)⟩, fun _ => ?_⟩
    refine ⟨fun _ => ⟨v1, arm_goBack I _ v1 (N := fun v b r w ou => PL_law_23 xs L n kc v sl b r tx y o x w hs ou (nI i + 3)) (fun v b r w ou J => IH kc v sl b r tx y o x w hs ou J)⟩, fun _ => ?_⟩
    refine ⟨fun _ => arm_undo I (N := fun v b w ou => PL_law_23 xs L n kc v sl b r tx y o x w hs ou (nI i + 3)) (fun v b w ou J => IH kc v sl b r tx y o x w hs ou J), fun _ => ?_⟩
    refine ⟨fun _ => ⟨v1, v2, arm_personOf I _ _ v1 v2 (N := fun w ou => PL_law_23 xs L n kc v sl b r tx y o x w hs ou (nI i + 3)) (fun w ou J => IH kc v sl b r tx y o x w hs ou J)⟩, fun _ => ?_⟩
    refine ⟨fun _ => ⟨v1, v2, arm_coupleOf I _ _ v1 v2 (N := fun w ou => PL_law_23 xs L n kc v sl b r tx y o x w hs ou (nI i + 3)) (fun w ou J => IH kc v sl b r tx y o x w hs ou J)⟩, fun _ => ?_⟩
    refine ⟨fun _ => ⟨v1, v2, arm_at I _ _ v1 v2 (N := fun w ou => PL_law_23 xs L n kc v sl b r tx y o x w hs ou (nI i + 3)) (fun w ou J => IH kc v sl b r tx y o x w hs ou J)⟩, fun _ => ?_⟩
    refine ⟨fun _ => ⟨v1, v2, arm_crossings I _ _ v1 v2 (N := fun y w ou => PL_law_23 xs L n kc v sl b r tx y o x w hs ou (nI i + 3)) (fun y w ou J => IH kc v sl b r tx y o x w hs ou J)⟩, fun _ => ?_⟩
    refine ⟨fun _ => ⟨v1, arm_count I _ v1 (N := fun y w ou => PL_law_23 xs L n kc v sl b r tx y o x w hs ou (nI i + 3)) (fun y w ou J => IH kc v sl b r tx y o x w hs ou J)⟩, fun _ => ?_⟩
    refine ⟨fun _ => ⟨v1, v2, arm_least I _ _ v1 v2 (N := fun x w ou => PL_law_23 xs L n kc v sl b r tx y o x w hs ou (nI i + 3)) (fun x w ou J => IH kc v sl b r tx y o x w hs ou J)⟩, fun _ => ?_⟩
    refine ⟨fun _ => arm_bestSwap I (N := fun v y w => PL_law_23 xs L n kc v sl b r tx y o x w hs ou (nI i + 3)) (fun v y w J => IH kc v sl b r tx y o x w hs ou J), fun _ => ?_⟩
    refine ⟨fun _ => ⟨v1, v2, arm_near I _ _ v1 v2 (N := fun w ou => PL_law_23 xs L n kc v sl b r tx y o x w hs ou (nI i + 3)) (fun w ou J => IH kc v sl b r tx y o x w hs ou J)⟩, fun _ => ?_⟩
    refine ⟨fun _ => arm_share I (N := fun w => PL_law_23 xs L n kc v sl b r tx y o x w hs ou (nI i + 3)) (fun w J => IH kc v sl b r tx y o x w hs ou J), fun _ => ?_⟩
    refine ⟨fun _ => arm_digest I (N := fun v y x w hs => PL_law_23 xs L n kc v sl b r tx y o x w hs ou (nI i + 3)) (fun v y x w hs J => IH kc v sl b r tx y o x w hs ou J), fun _ => ?_⟩
    exact IH kc v sl b r tx y o x w hs ou I
theorem pure_law (xs : Nat → Int32) (L : Nat) (hL : L ≤ 1536) : PL_law xs L :=
  law_l xs L hL 513 0 zeroM zeroM (fun _ => zeroM) zeroM (fun _ => zeroM) zeroM zeroM zeroM zeroM zeroM 0 (fun _ => 0) (by omega) (Nat.zero_le _) INV_0
