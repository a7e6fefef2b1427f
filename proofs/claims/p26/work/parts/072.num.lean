/-! Numbers, sums, and the chronicle in numbers. -/
theorem nI_ne_m1 {n : Nat} (h : n < 2 ^ 31) : ¬ nI n = -1 := fun e => by
  have h1 := congrArg Int32.toInt e
  rw [nI_toInt h] at h1
  have h2 : (-1 : Int32).toInt = -1 := rfl
  omega
theorem nI_lt0 {n : Nat} (h : n < 2 ^ 31) : ¬ nI n < 0 := nI_pos h
theorem i_m1_lt0 : (-1 : Int32) < 0 := by decide
theorem i_m1_ne0 : ¬ (-1 : Int32) = 0 := by decide
theorem n1I : (1 : Int32) = nI 1 := rfl
theorem n0I : (0 : Int32) = nI 0 := rfl
theorem n2I : (2 : Int32) = nI 2 := rfl
theorem n3I : (3 : Int32) = nI 3 := rfl
theorem n4I : (4 : Int32) = nI 4 := rfl
theorem n5I : (5 : Int32) = nI 5 := rfl
theorem n6I : (6 : Int32) = nI 6 := rfl
theorem n7I : (7 : Int32) = nI 7 := rfl
theorem n8I : (8 : Int32) = nI 8 := rfl
theorem n9I : (9 : Int32) = nI 9 := rfl
theorem n10I : (10 : Int32) = nI 10 := rfl
theorem n20I : (20 : Int32) = nI 20 := rfl
theorem n43I : (43 : Int32) = nI 43 := rfl
theorem n63I : (63 : Int32) = nI 63 := rfl
theorem n67I : (67 : Int32) = nI 67 := rfl
theorem n91I : (91 : Int32) = nI 91 := rfl
theorem n100I : (100 : Int32) = nI 100 := rfl
theorem n1000I : (1000 : Int32) = nI 1000 := rfl
theorem ix_nI {n : Nat} (h : n < 2 ^ 31) : ix (nI n) = n := nI_clamp h
theorem in_nI {n N : Nat} (h : n < N) (hN : N < 2 ^ 31) : vp_in (nI n) N := vp_in_nI h hN
theorem nI_inj {a b : Nat} (ha : a < 2 ^ 31) (hb : b < 2 ^ 31) (h : nI a = nI b) : a = b := (nI_eq ha hb).mp h
/-- the sum of f 0 .. f (n - 1) -/
def sm (f : Nat → Nat) : Nat → Nat
  | 0 => 0
  | n + 1 => sm f n + f n
theorem sm_0 (f : Nat → Nat) : sm f 0 = 0 := rfl
theorem sm_s (f : Nat → Nat) (n : Nat) : sm f (n + 1) = sm f n + f n := rfl
theorem sm_congr {f g : Nat → Nat} : ∀ {n : Nat}, (∀ i, i < n → f i = g i) → sm f n = sm g n
  | 0, _ => rfl
  | n + 1, h => by rw [sm_s, sm_s, sm_congr (fun i hi => h i (by omega)), h n (by omega)]
theorem sm_le {f g : Nat → Nat} : ∀ {n : Nat}, (∀ i, i < n → f i ≤ g i) → sm f n ≤ sm g n
  | 0, _ => Nat.le_refl _
  | n + 1, h => by
    have h1 := sm_le (f := f) (g := g) (n := n) (fun i hi => h i (by omega))
    have h2 := h n (by omega)
    rw [sm_s, sm_s]; omega
theorem sm_add (f g : Nat → Nat) : ∀ n : Nat, sm (fun i => f i + g i) n = sm f n + sm g n
  | 0 => rfl
  | n + 1 => by rw [sm_s, sm_s, sm_s, sm_add f g n]; omega
theorem sm_zero : ∀ n : Nat, sm (fun _ => 0) n = 0
  | 0 => rfl
  | n + 1 => by rw [sm_s, sm_zero n]
theorem sm_swap (f : Nat → Nat → Nat) (m : Nat) : ∀ n : Nat, sm (fun i => sm (fun j => f i j) m) n = sm (fun j => sm (fun i => f i j) n) m
  | 0 => (sm_zero m).symm
  | n + 1 => by
    rw [sm_s, sm_swap f m n, ← sm_add]
    rfl
theorem sm_le_mul {f : Nat → Nat} {k : Nat} : ∀ {n : Nat}, (∀ i, i < n → f i ≤ k) → sm f n ≤ n * k
  | 0, _ => by simp [sm]
  | n + 1, h => by
    have h1 := sm_le_mul (f := f) (k := k) (n := n) (fun i hi => h i (by omega))
    have h2 := h n (by omega)
    rw [sm_s, Nat.succ_mul]; omega
theorem sm_mono (f : Nat → Nat) {a b : Nat} (h : a ≤ b) : sm f a ≤ sm f b := by
  induction b with
  | zero => rw [Nat.le_zero.mp h]; exact Nat.le_refl _
  | succ b ih =>
    rcases Nat.lt_or_ge b a with h1 | h1
    · rw [show a = b + 1 by omega]; exact Nat.le_refl _
    · rw [sm_s]; have := ih h1; omega
