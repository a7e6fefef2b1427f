/-- all of the memory of the other one, but its row of numbers, the drawn lines -/
def FR0 (w w2 : Mem) : Prop := ∀ j, j ≠ 0 → w2 j = w j
theorem MS_ref {f : Nat → Int32} {K : Kr} (M : MS f K) : MS (upd f 2 (f 2 + 1)) K.ref := by
  obtain ⟨⟨m1, m2, m3⟩, m4, m5, m6, m7⟩ := M
  refine ⟨⟨?_, ?_, ?_⟩, fun p hp => ?_, fun c hc => ?_, fun r hr => ?_, fun r k hr hk => ?_⟩
  · rw [upd_o _ _ (by decide)]; exact m1
  · rw [upd_o _ _ (by decide)]; exact m2
  · rw [upd_a, m3]; rfl
  · rw [upd_o _ _ (by omega), upd_o _ _ (by omega)]; exact m4 p hp
  · rw [upd_o _ _ (by omega), upd_o _ _ (by omega)]; exact m5 c hc
  · rw [upd_o _ _ (by omega)]; exact m6 r hr
  · rw [upd_o _ _ (by omega)]; exact m7 r k hr hk
theorem ix2 : ix 2 = 2 := rfl
