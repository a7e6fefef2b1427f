/-! the text: what stands behind the signs read so far -/
def dg (c : Nat) : Bool := decide (48 ≤ c ∧ c ≤ 57)
theorem n48I : (48 : Int32) = nI 48 := rfl
theorem n57I : (57 : Int32) = nI 57 := rfl
theorem n52I : (52 : Int32) = nI 52 := rfl
theorem n49I : (49 : Int32) = nI 49 := rfl
theorem n59I : (59 : Int32) = nI 59 := rfl
theorem n38I : (38 : Int32) = nI 38 := rfl
theorem n94I : (94 : Int32) = nI 94 := rfl
theorem c_isDigit {c : Nat} (hc : c < 200) {post : Int32 → Prop} (k1 : dg c = true → post 1) (k0 : dg c = false → post 0) : PX6_isDigit (nI c) post := by
  unfold PX6_isDigit
  rw [n48I, n57I]
  by_cases h1 : c < 48
  · exact pc_t (nI_lt h1 (by omega)) (k0 (decide_eq_false (by omega)))
  · refine pc_f (nI_nlt (by omega) (by omega)) ?_
    by_cases h2 : 57 < c
    · exact pc_t (nI_lt h2 (by omega)) (k0 (decide_eq_false (by omega)))
    · exact pc_f (nI_nlt (by omega) (by omega)) (k1 (decide_eq_true (by omega)))
def dl0 (c : Nat) : Nat := if 48 ≤ c ∧ c < 52 then 1 else if c = 43 then 2 else if c = 94 then 7 else 8
theorem c_start {c : Nat} (hc : c < 200) {post : Int32 → Prop} (k : post (nI (dl0 c))) : PX6_stateBehindStart (nI c) post := by
  have tail : ¬ (48 ≤ c ∧ c < 52) → PX6_stateBehindStart_14 post (nI c) := fun h => by
    unfold dl0 at k
    rw [if_neg h] at k
    unfold PX6_stateBehindStart_14
    rw [n43I, n94I]
    by_cases h1 : c = 43
    · rw [if_pos h1] at k; exact pd_t (by rw [h1]) k
    · rw [if_neg h1] at k
      refine pd_f (nne (by omega) (by omega) h1) ?_
      by_cases h2 : c = 94
      · rw [if_pos h2] at k; exact pd_t (by rw [h2]) k
      · rw [if_neg h2] at k; exact pd_f (nne (by omega) (by omega) h2) k
  unfold PX6_stateBehindStart
  rw [n48I, n52I]
  by_cases h1 : c < 48
  · exact pc_t (nI_lt h1 (by omega)) (tail (by omega))
  · refine pc_f (nI_nlt (by omega) (by omega)) ?_
    by_cases h2 : c < 52
    · unfold dl0 at k
      rw [if_pos ⟨by omega, h2⟩] at k
      exact pc_f (nle h2 (by omega)) k
    · exact pc_t (nle' (by omega) (by omega)) (tail (by omega))
theorem c_bdig {c : Nat} (hc : c < 200) {x y : Int32} {post : Int32 → Prop} (k : post (if dg c = true then (if c = 49 then x else y) else 8)) : PX6_stateBehindDigit (nI c) x y post := by
  refine c_isDigit hc (fun h => ?_) (fun h => ?_)
  · rw [if_pos h] at k
    refine pd_f i10 ?_
    rw [n49I]
    by_cases h2 : c = 49
    · rw [if_pos h2] at k; exact pd_t (by rw [h2]) k
    · rw [if_neg h2] at k; exact pd_f (nne (by omega) (by omega) h2) k
  · rw [if_neg (by rw [h]; decide)] at k; exact pd_t rfl k
