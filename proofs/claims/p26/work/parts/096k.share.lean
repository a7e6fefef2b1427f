/-! the share of straight lines, and its bits -/
theorem bnt_le (K : Kr) (p : Nat) : K.bnt p ≤ if K.par p = none then 0 else 1 := by
  unfold Kr.bnt
  cases e : K.par p with
  | none => rw [up_none e, if_pos rfl]; exact Nat.le_refl _
  | some c =>
    rw [up_some e, if_neg (by intro q; cases q)]
    show (if _ then 0 else 1) ≤ 1
    split <;> decide
theorem bent_le {K : Kr} (W : WF K) : K.bent ≤ K.lines ∧ K.lines ≤ 20 := by
  have h := W.np20
  have a : K.bent ≤ K.lines := sm_le fun p _ => bnt_le K p
  have b := lines_orph K
  exact ⟨a, by omega⟩
def shr (a b : Nat) : UInt64 := if a = 0 then 0x3ff0000000000000 else FP.ddiv (FP.i2d (nI a - nI b)) (FP.i2d (nI a))
def Kr.share (K : Kr) : UInt64 := shr K.lines K.bent
abbrev nzD (x : UInt64) : Prop := x &&& 0x7fffffffffffffff ≤ 0x7ff0000000000000
def bsF (x : UInt64) (e : Int32) : Option Int64 := if nzD (FP.dsub x 0x3ff0000000000000) ∧ nzD (FP.dmul (FP.dsub x 0x3ff0000000000000) 4841369599423283200) then some ((e.toInt64 <<< ((52 : Int32).toInt64 &&& 63)) ||| FP.d2l (FP.dmul (FP.dsub x 0x3ff0000000000000) 4841369599423283200)) else none
def bsE : Nat → UInt64 → Int32 → Option Int64
  | 0, _, _ => none
  | n + 1, x, e => if 0 ≤ (Op.cmpValue (FP.dcmp x 0x3ff0000000000000) .g) then bsF x e else if e ≤ 1 then bsF x e else if nzD (FP.dmul x 4611686018427387904) then bsE n (FP.dmul x 4611686018427387904) (e + (-1)) else none
theorem nzD_v {x : UInt64} (h : nzD x) : vf_n64 x := h
def bsA1 (x : UInt64) : Bool := if 0 < (Op.cmpValue (FP.dcmp x 0) .g) then decide (bsE 8 x 1023 = some x.toInt64) else decide (x.toInt64 = 0)
set_option maxRecDepth 100000 in
theorem share_k : ∀ a, a < 21 → ∀ b, b < a + 1 → (a = 0 ∨ nzD (FP.ddiv (FP.i2d (nI a - nI b)) (FP.i2d (nI a)))) ∧ (Op.cmpValue (FP.dcmp (shr a b) (shr a b)) .l) = 0 ∧ bsA1 (shr a b) = true := by decide +kernel
theorem share_f {K : Kr} (W : WF K) : (K.lines = 0 ∨ nzD (FP.ddiv (FP.i2d (nI K.lines - nI K.bent)) (FP.i2d (nI K.lines)))) ∧ (Op.cmpValue (FP.dcmp K.share K.share) .l) = 0 ∧ bsA1 K.share = true := by
  have h := bent_le W
  exact share_k K.lines (by omega) K.bent (by omega)
theorem c_share {kc v : Mem} {K : Kr} (C : CS v K) (W : WF K) {post : UInt64 → Prop} (k : post K.share) : PX7_straightShare kc v post := by
  have h := bent_le W
  have f := (share_f W).1
  unfold Kr.share shr at k
  refine c_lines C W ?_
  by_cases g : K.lines = 0
  · rw [if_pos g] at k
    exact pd_t (by rw [g]; rfl) k
  · rw [if_neg g] at k
    exact pd_f (nI_ne0 (by omega) (by omega)) (c_bentLines C W ⟨f.resolve_left g, k⟩)
