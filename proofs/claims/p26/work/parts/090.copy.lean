theorem mrow_a (v : Mem) (j : Nat) (f : Nat → Int32) : mrow v j f j = f := if_pos rfl
theorem mrow_o (v : Mem) {j i : Nat} (f : Nat → Int32) (h : i ≠ j) : mrow v j f i = v i := if_neg h
theorem cpy_lt (f g : Nat → Int32) {n i : Nat} (h : i < n) : va_cpy f g 0 0 n i = f i := by
  unfold va_cpy
  simp [h]
/-- a state of the class copied -/
theorem c_copyFrom {v vo : Mem} {K : Kr} (C : CS vo K) (W : WF K) {post : Mem → Prop} (k : ∀ v2, CS v2 K → post v2) : PX5_copyFrom v vo post := by
  have hn := W.np20
  have hc := W.nc10
  intro v1 e1 v2 e2 v3 e3 v4 e4 v5 e5 v6 e6 v7 e7 v8 e8 v9 e9 v10 e10
  refine k v10 ?_
  have r0 : v10 0 = va_cpy (vo 0) (v 0) 0 0 20 := by rw [e10, mset_o _ _ _ (by decide), e9, mset_o _ _ _ (by decide), e8, mset_o _ _ _ (by decide), e7, mrow_o _ _ (by decide), e6, mrow_o _ _ (by decide), e5, mrow_o _ _ (by decide), e4, mrow_o _ _ (by decide), e3, mrow_o _ _ (by decide), e2, mrow_o _ _ (by decide), e1, mrow_a]
  have r1 : v10 1 = va_cpy (vo 1) (v1 1) 0 0 20 := by rw [e10, mset_o _ _ _ (by decide), e9, mset_o _ _ _ (by decide), e8, mset_o _ _ _ (by decide), e7, mrow_o _ _ (by decide), e6, mrow_o _ _ (by decide), e5, mrow_o _ _ (by decide), e4, mrow_o _ _ (by decide), e3, mrow_o _ _ (by decide), e2, mrow_a]
  have r2 : v10 2 = va_cpy (vo 2) (v2 2) 0 0 20 := by rw [e10, mset_o _ _ _ (by decide), e9, mset_o _ _ _ (by decide), e8, mset_o _ _ _ (by decide), e7, mrow_o _ _ (by decide), e6, mrow_o _ _ (by decide), e5, mrow_o _ _ (by decide), e4, mrow_o _ _ (by decide), e3, mrow_a]
  have r3 : v10 3 = va_cpy (vo 3) (v3 3) 0 0 10 := by rw [e10, mset_o _ _ _ (by decide), e9, mset_o _ _ _ (by decide), e8, mset_o _ _ _ (by decide), e7, mrow_o _ _ (by decide), e6, mrow_o _ _ (by decide), e5, mrow_o _ _ (by decide), e4, mrow_a]
  have r4 : v10 4 = va_cpy (vo 4) (v4 4) 0 0 10 := by rw [e10, mset_o _ _ _ (by decide), e9, mset_o _ _ _ (by decide), e8, mset_o _ _ _ (by decide), e7, mrow_o _ _ (by decide), e6, mrow_o _ _ (by decide), e5, mrow_a]
  have r5 : v10 5 = va_cpy (vo 5) (v5 5) 0 0 24 := by rw [e10, mset_o _ _ _ (by decide), e9, mset_o _ _ _ (by decide), e8, mset_o _ _ _ (by decide), e7, mrow_o _ _ (by decide), e6, mrow_a]
  have r6 : v10 6 = va_cpy (vo 6) (v6 6) 0 0 4 := by rw [e10, mset_o _ _ _ (by decide), e9, mset_o _ _ _ (by decide), e8, mset_o _ _ _ (by decide), e7, mrow_a]
  refine ⟨⟨?_, ?_, ?_⟩, fun p hp => ?_, fun c hcc => ?_, fun r hr => ?_, fun r q hr hq => ?_⟩
  · rw [e10, mset_o _ _ _ (by decide), e9, mset_o _ _ _ (by decide), e8, mset_a, upd_a]; exact C.1.1
  · rw [e10, mset_o _ _ _ (by decide), e9, mset_a, upd_a]; exact C.1.2.1
  · rw [e10, mset_a, upd_a]; exact C.1.2.2
  · rw [r0, r1, r2, cpy_lt _ _ (by omega), cpy_lt _ _ (by omega), cpy_lt _ _ (by omega)]; exact C.2.1 p hp
  · rw [r3, r4, cpy_lt _ _ (by omega), cpy_lt _ _ (by omega)]; exact C.2.2.1 c hcc
  · rw [r6, cpy_lt _ _ hr]; exact C.2.2.2.1 r hr
  · have h6 := W.sz6 hr
    rw [r5, cpy_lt _ _ (by omega)]; exact C.2.2.2.2 r q hr hq
/-- the saved states of the class: the last n of the ring, the oldest first -/
def RS (b : Mem) (r : Nat → Mem) (n : Nat) (S : Nat → Kr) : Prop := ∃ o, o < 6 ∧ n ≤ 6 ∧ b 1 0 = nI o ∧ b 2 0 = nI n ∧ ∀ i, i < n → CS (r ((o + i) % 6)) (S i) ∧ WF (S i)
theorem rem6 {n : Nat} (h : n < 2 ^ 31) : nI n - nI n / 6 * 6 = nI (n % 6) := by
  rw [n6I]; exact pk_rem h (by decide) (by decide)
/-- one more saved, the oldest dropped where there are six -/
def psh (n : Nat) (S : Nat → Kr) (K : Kr) : Nat → Kr := if n < 6 then fup S n K else fup (fun i => S (i + 1)) 5 K
theorem c_push {b : Mem} {r : Nat → Mem} {v : Mem} {n : Nat} {S : Nat → Kr} {K : Kr} (R : RS b r n S) (C : CS v K) (W : WF K) {post : Mem → (Nat → Mem) → Prop} (k : ∀ b2 r2, RS b2 r2 (if n < 6 then n + 1 else 6) (psh n S K) → post b2 r2) : PX4_push b r v post := by
  obtain ⟨o, ho, hn, h1, h2, hR⟩ := R
  unfold PX4_push
  rw [h1, h2, nI_add, rem6 (by omega), ix_nI (show (o + n) % 6 < 2 ^ 31 by omega), n6I]
  refine ⟨in_nI (by omega) (by omega), c_copyFrom C W fun v2 C2 r35 e35 => ?_⟩
  have same : ∀ i, i < n → (o + i) % 6 ≠ (o + n) % 6 → r35 ((o + i) % 6) = r ((o + i) % 6) := fun i hi hne => by rw [e35]; exact if_neg hne
  have here : r35 ((o + n) % 6) = v2 := by rw [e35]; exact if_pos rfl
  by_cases h : n < 6
  · refine pc_f (nle h (by omega)) fun b38 e38 => k b38 r35 ?_
    rw [if_pos h]
    refine ⟨o, ho, by omega, by rw [e38, mset_o _ _ _ (by decide)]; exact h1, by rw [e38, mset_a, upd_a, nI_1], fun i hi => ?_⟩
    unfold psh
    rw [if_pos h]
    rcases Nat.lt_succ_iff_lt_or_eq.mp hi with g | rfl
    · rw [fup_o _ _ (by omega), same i g (by omega)]; exact hR i g
    · rw [fup_a, here]; exact ⟨C2, W⟩
  · have hn6 : n = 6 := by omega
    subst hn6
    refine pc_t (nle' (by omega) (by omega)) fun b37 e37 => k b37 r35 ?_
    rw [if_neg h]
    refine ⟨(o + 1) % 6, by omega, by omega, ?_, by rw [e37, mset_o _ _ _ (by decide)]; exact h2, fun i hi => ?_⟩
    · rw [e37, mset_a, upd_a, nI_1, ← n6I, rem6 (by omega)]
    · unfold psh
      rw [if_neg h]
      by_cases g : i = 5
      · subst g
        rw [fup_a, show ((o + 1) % 6 + 5) % 6 = (o + 6) % 6 by omega, here]; exact ⟨C2, W⟩
      · rw [fup_o _ _ g, show ((o + 1) % 6 + i) % 6 = (o + (i + 1)) % 6 by omega, same (i + 1) (by omega) (by omega)]
        exact hR (i + 1) (by omega)
