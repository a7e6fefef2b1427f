/-! what the looks tell, by what is asked -/
theorem out_ne {x : Int32} {n : Nat} (h : x < 0 ∨ nI n ≤ x) (hn : n < 2 ^ 31) : ∀ j, j < n → ¬ x = nI j := fun j hj e => by
  rw [e] at h
  rcases h with h | h
  · exact nI_lt0 (by omega) h
  · exact nle hj hn h
noncomputable def Kr.kv (K : Kr) (n : Nat) : Nat → Int32
  | 0 => nI K.np
  | 1 => nI K.nc
  | 2 => nI K.lines
  | 3 => nI K.XA
  | 4 => nI K.bent
  | 5 => nI K.dbl
  | 6 => nI K.kin
  | 7 => K.rf
  | _ => nI n
noncomputable def Kr.pv (K : Kr) (p : Nat) : Nat → Int32
  | 0 => nI (K.row p)
  | 1 => nI (K.pl p)
  | 2 => pI (K.par p)
  | 3 => nI (K.ct p)
  | 4 => nI (K.chW p)
  | 5 => nI (K.desc p)
  | _ => nI (pcn (K.anc p) 20)
noncomputable def Kr.cv (K : Kr) (c : Nat) : Nat → Int32
  | 0 => nI (K.lo c)
  | 1 => nI (K.hi c)
  | 2 => nI (K.row (K.lo c))
  | 3 => nI (K.mid c)
  | 4 => nI (K.ch c)
  | _ => nI (pcn (K.com c) 20)
def Kr.atv (K : Kr) (r q : Nat) : Int32 := if q < K.sz r then nI (K.od r q) else -1
