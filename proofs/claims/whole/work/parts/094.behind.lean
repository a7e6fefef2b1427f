/-- the state behind one more sign; 8: broken -/
def dl (s c : Nat) : Nat := match s with
  | 0 => dl0 c
  | 1 => if c = 59 then 0 else 8
  | 2 => if dg c = true then (if c = 49 then 3 else 4) else 8
  | 3 => if dg c = true then 4 else if c = 38 then 5 else 8
  | 4 => if c = 38 then 5 else 8
  | 5 => if dg c = true then (if c = 49 then 6 else 1) else 8
  | 6 => if dg c = true then 1 else if c = 59 then 0 else 8
  | 7 => if dg c = true then 1 else 8
  | _ => 8
theorem c_eqs {c q : Nat} (hc : c < 200) (hq : q < 200) {x y : Nat} {post : Int32 → Prop} (k : post (nI (if c = q then x else y))) : ((¬ nI c = nI q) → post (nI y)) ∧ ((nI c = nI q) → post (nI x)) := by
  by_cases h : c = q
  · rw [if_pos h] at k; exact pd_t (by rw [h]) k
  · rw [if_neg h] at k; exact pd_f (nne (by omega) (by omega) h) k
theorem if_nI (b : Bool) (x y : Nat) : (if b = true then nI x else nI y) = nI (if b = true then x else y) := by cases b <;> rfl
theorem ifp_nI (p : Prop) [Decidable p] (x y : Nat) : (if p then nI x else nI y) = nI (if p then x else y) := by split <;> rfl
theorem c_behind {c : Nat} (hc : c < 200) {post : Int32 → Prop} : ∀ s, s < 9 → post (nI (dl s c)) → PX6_stateBehind (nI s) (nI c) post
  | 0, _, k => pc_t rfl (c_start hc k)
  | 1, _, k => pc_f (by decide) (pc_t rfl (c_eqs (q := 59) (x := 0) (y := 8) hc (by decide) k))
  | 2, _, k => pc_f (by decide) (pc_f (by decide) (pc_t rfl (c_bdig hc (by
      rw [n3I, n4I, n8I, ifp_nI, ifp_nI]; exact k))))
  | 3, _, k => pc_f (by decide) (pc_f (by decide) (pc_f (by decide) (pc_t rfl (c_isDigit hc (fun h => pc_f i10 (by
      have k2 : post (nI (if dg c = true then 4 else if c = 38 then 5 else 8)) := k
      rw [if_pos h] at k2; exact k2)) (fun h => pc_t rfl (by
      have k2 : post (nI (if dg c = true then 4 else if c = 38 then 5 else 8)) := k
      rw [if_neg (by rw [h]; decide)] at k2
      exact c_eqs (q := 38) (x := 5) (y := 8) hc (by decide) k2))))))
  | 4, _, k => pc_f (by decide) (pc_f (by decide) (pc_f (by decide) (pc_f (by decide) (pc_t rfl (c_eqs (q := 38) (x := 5) (y := 8) hc (by decide) k)))))
  | 5, _, k => pc_f (by decide) (pc_f (by decide) (pc_f (by decide) (pc_f (by decide) (pc_f (by decide) (pc_t rfl (c_bdig hc (by
      rw [n6I, n1I, n8I, ifp_nI, ifp_nI]; exact k)))))))
  | 6, _, k => pc_f (by decide) (pc_f (by decide) (pc_f (by decide) (pc_f (by decide) (pc_f (by decide) (pc_f (by decide) (pc_t rfl (c_isDigit hc (fun h => pc_f i10 (by
      have k2 : post (nI (if dg c = true then 1 else if c = 59 then 0 else 8)) := k
      rw [if_pos h] at k2; exact k2)) (fun h => pc_t rfl (by
      have k2 : post (nI (if dg c = true then 1 else if c = 59 then 0 else 8)) := k
      rw [if_neg (by rw [h]; decide)] at k2
      exact c_eqs (q := 59) (x := 0) (y := 8) hc (by decide) k2)))))))))
  | 7, _, k => pc_f (by decide) (pc_f (by decide) (pc_f (by decide) (pc_f (by decide) (pc_f (by decide) (pc_f (by decide) (pc_f (by decide) (pc_t rfl (c_isDigit hc (fun h => pc_f i10 (by
      have k2 : post (nI (if dg c = true then 1 else 8)) := k
      rw [if_pos h] at k2; exact k2)) (fun h => pc_t rfl (by
      have k2 : post (nI (if dg c = true then 1 else 8)) := k
      rw [if_neg (by rw [h]; decide)] at k2; exact k2))))))))))
  | 8, _, k => pc_f (by decide) (pc_f (by decide) (pc_f (by decide) (pc_f (by decide) (pc_f (by decide) (pc_f (by decide) (pc_f (by decide) (pc_f (by decide) k)))))))
  | s + 9, h, _ => absurd h (by omega)
