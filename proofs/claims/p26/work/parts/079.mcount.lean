theorem add0 (n : Nat) : nI n + 0 = nI n := by rw [n0I, nI_add]; rfl
def bq (q x : Nat) : Nat := if x = 2 * q then 0 else 1
def Kr.bR (K : Kr) (r : Nat) : Nat := sm (fun k => K.bnt (K.od r k)) (K.sz r)
theorem bent_rows {K : Kr} (W : WF K) : K.bR 1 + K.bR 2 + K.bR 3 = K.bent := by
  have h := sm_rows W K.bnt
  have h0 : K.bR 0 = 0 := sm_none fun q hq => by
    unfold Kr.bnt
    have hp := W.od_lt (show (0 : Nat) < 4 by decide) hq
    have hr := W.od_row (show (0 : Nat) < 4 by decide) hq
    cases e : K.par (K.od 0 q) with
    | none => rw [up_none e]
    | some c => have := W.par_row hp e; omega
  unfold Kr.bent
  rw [h, sm_s, sm_s, sm_s, sm_s, sm_0]
  unfold Kr.bR at *
  omega
