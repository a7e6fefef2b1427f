/-! the text of the other one: what it reads, told by functions of the signs; the same as the automaton -/
def cx (c : Nat → Nat) (L i : Nat) : Nat := if i < L then c i else 0
def nv (c : Nat → Nat) (L i : Nat) : Nat := if cx c L i = 49 ∧ dg (cx c L (i + 1)) = true then 10 + cx c L (i + 1) - 48 else cx c L i - 48
def nj (c : Nat → Nat) (L i : Nat) : Nat := if cx c L i = 49 ∧ dg (cx c L (i + 1)) = true then i + 2 else i + 1
def cOk (c : Nat → Nat) (L i : Nat) : Bool := dg (cx c L i) && decide (cx c L (nj c L i) = 38) && dg (cx c L (nj c L i + 1))
def cJ (c : Nat → Nat) (L i : Nat) : Nat := if dg (cx c L i) = false then i else if cx c L (nj c L i) ≠ 38 then nj c L i else if dg (cx c L (nj c L i + 1)) = false then nj c L i + 1 else nj c L (nj c L i + 1)
def pOk (c : Nat → Nat) (L i : Nat) : Bool := if 48 ≤ cx c L i ∧ cx c L i < 52 then true else if cx c L i = 43 then cOk c L (i + 1) else if cx c L i = 94 then dg (cx c L (i + 1)) else false
def pJ (c : Nat → Nat) (L i : Nat) : Nat := if 48 ≤ cx c L i ∧ cx c L i < 52 then i + 1 else if cx c L i = 43 then cJ c L (i + 1) else if cx c L i = 94 then (if dg (cx c L (i + 1)) = true then i + 2 else i + 1) else i
def pK (c : Nat → Nat) (L i : Nat) : Nat := if cx c L i = 43 then 1 else if cx c L i = 94 then 2 else 0
def pA (c : Nat → Nat) (L i : Nat) : Nat := if cx c L i = 43 then nv c L (i + 1) else if cx c L i = 94 then cx c L (i + 1) - 48 else cx c L i - 48
def pB (c : Nat → Nat) (L i : Nat) : Nat := nv c L (nj c L (i + 1) + 1)
/-- where each part begins -/
def sP (c : Nat → Nat) (L : Nat) : Nat → Nat
  | 0 => 0
  | k + 1 => pJ c L (sP c L k) + 1
theorem sP_s (c : Nat → Nat) (L k : Nat) : sP c L (k + 1) = pJ c L (sP c L k) + 1 := rfl
/-- m parts are all of the text -/
def WH (c : Nat → Nat) (L m : Nat) : Prop := 0 < m ∧ (∀ k, k < m → pOk c L (sP c L k) = true) ∧ (∀ k, k + 1 < m → cx c L (pJ c L (sP c L k)) = 59) ∧ pJ c L (sP c L (m - 1)) = L
theorem cx_lt {c : Nat → Nat} {L i : Nat} (h : i < L) : cx c L i = c i := if_pos h
theorem cx_ge {c : Nat → Nat} {L i : Nat} (h : L ≤ i) : cx c L i = 0 := if_neg (by omega)
theorem cx_ne {c : Nat → Nat} {L i x : Nat} (h : cx c L i = x) (hx : x ≠ 0) : i < L := by
  rcases Nat.lt_or_ge i L with g | g
  · exact g
  · rw [cx_ge g] at h; omega
theorem dg_iff {x : Nat} : dg x = true ↔ 48 ≤ x ∧ x ≤ 57 := decide_eq_true_iff
theorem dg_f {x : Nat} : dg x = false ↔ ¬ (48 ≤ x ∧ x ≤ 57) := decide_eq_false_iff_not
theorem dg_cx {c : Nat → Nat} {L i : Nat} (h : dg (cx c L i) = true) : i < L := by
  rcases Nat.lt_or_ge i L with g | g
  · exact g
  · rw [cx_ge g] at h; exact absurd h (by decide)
theorem cx200 {c : Nat → Nat} {L : Nat} (hc : ∀ i, i < L → c i < 200) (i : Nat) : cx c L i < 200 := by
  unfold cx
  split
  · rename_i h; exact hc i h
  · decide
theorem ds_s (c : Nat → Nat) (i : Nat) : ds c (i + 1) = dl (ds c i) (c i) := rfl
theorem ds8 {c : Nat → Nat} {i : Nat} (h : ds c i = 8) : ∀ d, ds c (i + d) = 8
  | 0 => h
  | d + 1 => by rw [← Nat.add_assoc, ds_s, ds8 h d]; rfl
theorem ds8' {c : Nat → Nat} {i j : Nat} (h : ds c i = 8) (hj : i ≤ j) : ds c j = 8 := by
  have := ds8 h (j - i)
  rw [show i + (j - i) = j by omega] at this; exact this
/-- behind the first number of a couple; behind a part -/
def Q2 (c : Nat → Nat) (L j : Nat) : Prop := ds c j = 4 ∨ ds c j = 3 ∧ dg (cx c L j) = false
def Q5 (c : Nat → Nat) (L j : Nat) : Prop := ds c j = 1 ∨ ds c j = 6 ∧ dg (cx c L j) = false
theorem Q2_8 {c : Nat → Nat} {L j : Nat} (h : Q2 c L j) : ds c j ≠ 8 := by rcases h with h | h <;> omega
theorem Q5_8 {c : Nat → Nat} {L j : Nat} (h : Q5 c L j) : ds c j ≠ 8 := by rcases h with h | h <;> omega
theorem Q2_n {c : Nat → Nat} {L j : Nat} (h : Q2 c L j) (hj : j < L) : ds c (j + 1) = if c j = 38 then 5 else 8 := by
  rw [ds_s]
  rcases h with h | ⟨h, g⟩
  · rw [h]; rfl
  · rw [h]
    rw [cx_lt hj] at g
    show (if dg (c j) = true then 4 else if c j = 38 then 5 else 8) = _
    rw [if_neg (by rw [g]; decide)]
theorem Q5_n {c : Nat → Nat} {L j : Nat} (h : Q5 c L j) (hj : j < L) : ds c (j + 1) = if c j = 59 then 0 else 8 := by
  rw [ds_s]
  rcases h with h | ⟨h, g⟩
  · rw [h]; rfl
  · rw [h]
    rw [cx_lt hj] at g
    show (if dg (c j) = true then 1 else if c j = 59 then 0 else 8) = _
    rw [if_neg (by rw [g]; decide)]
theorem nj_gt (c : Nat → Nat) (L i : Nat) : i < nj c L i := by unfold nj; split <;> omega
theorem nj_le {c : Nat → Nat} {L i : Nat} (h : i < L) : nj c L i ≤ L := by
  unfold nj
  split
  · rename_i g; have := dg_cx g.2; omega
  · omega
theorem num2 {c : Nat → Nat} {L i : Nat} (h : ds c i = 2) (hi : i < L) : (dg (cx c L i) = true → Q2 c L (nj c L i)) ∧ (dg (cx c L i) = false → ds c (i + 1) = 8) := by
  have e1 : ds c (i + 1) = if dg (c i) = true then (if c i = 49 then 3 else 4) else 8 := by rw [ds_s, h]; rfl
  rw [cx_lt hi]
  refine ⟨fun g => ?_, fun g => by rw [e1, if_neg (by rw [g]; decide)]⟩
  rw [if_pos g] at e1
  unfold nj
  rw [cx_lt hi]
  by_cases g1 : c i = 49 ∧ dg (cx c L (i + 1)) = true
  · rw [if_pos g1]
    have hl := dg_cx g1.2
    rw [if_pos g1.1] at e1
    have g2 := g1.2
    rw [cx_lt hl] at g2
    refine Or.inl ?_
    rw [ds_s, e1]
    show (if dg (c (i + 1)) = true then 4 else if c (i + 1) = 38 then 5 else 8) = 4
    rw [if_pos g2]
  · rw [if_neg g1]
    by_cases g2 : c i = 49
    · rw [if_pos g2] at e1
      refine Or.inr ⟨e1, ?_⟩
      cases e : dg (cx c L (i + 1)) with
      | false => rfl
      | true => exact absurd ⟨g2, e⟩ g1
    · rw [if_neg g2] at e1
      exact Or.inl e1
theorem num5 {c : Nat → Nat} {L i : Nat} (h : ds c i = 5) (hi : i < L) : (dg (cx c L i) = true → Q5 c L (nj c L i)) ∧ (dg (cx c L i) = false → ds c (i + 1) = 8) := by
  have e1 : ds c (i + 1) = if dg (c i) = true then (if c i = 49 then 6 else 1) else 8 := by rw [ds_s, h]; rfl
  rw [cx_lt hi]
  refine ⟨fun g => ?_, fun g => by rw [e1, if_neg (by rw [g]; decide)]⟩
  rw [if_pos g] at e1
  unfold nj
  rw [cx_lt hi]
  by_cases g1 : c i = 49 ∧ dg (cx c L (i + 1)) = true
  · rw [if_pos g1]
    have hl := dg_cx g1.2
    rw [if_pos g1.1] at e1
    have g2 := g1.2
    rw [cx_lt hl] at g2
    refine Or.inl ?_
    rw [ds_s, e1]
    show (if dg (c (i + 1)) = true then 1 else if c (i + 1) = 59 then 0 else 8) = 1
    rw [if_pos g2]
  · rw [if_neg g1]
    by_cases g2 : c i = 49
    · rw [if_pos g2] at e1
      refine Or.inr ⟨e1, ?_⟩
      cases e : dg (cx c L (i + 1)) with
      | false => rfl
      | true => exact absurd ⟨g2, e⟩ g1
    · rw [if_neg g2] at e1
      exact Or.inl e1
/-- where the reading stops: no chronicle goes on so -/
def STP (c : Nat → Nat) (L j : Nat) : Prop := j ≤ L ∧ ds c j ≠ 8 ∧ (j < L → ds c (j + 1) = 8) ∧ (j = L → ds c L ≠ 1 ∧ ds c L ≠ 6)
theorem STP_no {c : Nat → Nat} {L j : Nat} (h : STP c L j) : ds c L ≠ 1 ∧ ds c L ≠ 6 := by
  rcases Nat.lt_or_ge j L with g | g
  · have := ds8' (h.2.2.1 g) (show j + 1 ≤ L by omega)
    omega
  · exact h.2.2.2 (by have := h.1; omega)
theorem cpl_ds {c : Nat → Nat} {L i : Nat} (h : ds c i = 2) (hi : i ≤ L) : (cOk c L i = true → i < cJ c L i ∧ cJ c L i ≤ L ∧ Q5 c L (cJ c L i)) ∧ (cOk c L i = false → i ≤ cJ c L i ∧ STP c L (cJ c L i)) := by
  unfold cOk cJ
  cases g1 : dg (cx c L i) with
  | false =>
    rw [if_pos rfl]
    refine ⟨fun q => (by cases q), fun _ => ⟨Nat.le_refl _, hi, by omega, fun hl => (num2 h hl).2 g1, fun e => ?_⟩⟩
    rw [← e]; omega
  | true =>
    have hl := dg_cx g1
    have q2 := (num2 h hl).1 g1
    have a1 := nj_gt c L i
    have a2 := nj_le (c := c) hl
    rw [if_neg (by decide)]
    by_cases g2 : cx c L (nj c L i) = 38
    · have hl2 := cx_ne g2 (by decide)
      have e5 : ds c (nj c L i + 1) = 5 := by
        rw [Q2_n q2 hl2, if_pos]
        rw [cx_lt hl2] at g2; exact g2
      rw [decide_eq_true g2, if_neg (by simp [g2])]
      cases g3 : dg (cx c L (nj c L i + 1)) with
      | false =>
        rw [if_pos rfl]
        refine ⟨fun q => (by cases q), fun _ => ⟨by omega, by omega, by omega, fun hl3 => (num5 e5 hl3).2 g3, fun e => ?_⟩⟩
        rw [← e]; omega
      | true =>
        have hl3 := dg_cx g3
        have b1 := nj_gt c L (nj c L i + 1)
        have b2 := nj_le (c := c) hl3
        rw [if_neg (by decide)]
        exact ⟨fun _ => ⟨by omega, b2, (num5 e5 hl3).1 g3⟩, fun q => (by cases q)⟩
    · rw [decide_eq_false g2, if_pos g2]
      refine ⟨fun q => (by cases q), fun _ => ⟨by omega, a2, Q2_8 q2, fun hl2 => ?_, fun e => ?_⟩⟩
      · rw [Q2_n q2 hl2, if_neg]
        rw [cx_lt hl2] at g2; exact g2
      · rw [← e]; rcases q2 with q | q <;> omega
theorem prt_ds {c : Nat → Nat} {L i : Nat} (h : ds c i = 0) (hi : i ≤ L) : (pOk c L i = true → i < pJ c L i ∧ pJ c L i ≤ L ∧ Q5 c L (pJ c L i)) ∧ (pOk c L i = false → i ≤ pJ c L i ∧ STP c L (pJ c L i)) := by
  unfold pOk pJ
  by_cases g1 : 48 ≤ cx c L i ∧ cx c L i < 52
  · rw [if_pos g1, if_pos g1]
    have hl : i < L := cx_ne (x := cx c L i) rfl (by omega)
    refine ⟨fun _ => ⟨by omega, by omega, Or.inl ?_⟩, fun q => (by cases q)⟩
    rw [cx_lt hl] at g1
    rw [ds_s, h]
    show dl0 (c i) = 1
    exact if_pos g1
  · rw [if_neg g1, if_neg g1]
    by_cases g2 : cx c L i = 43
    · rw [if_pos g2, if_pos g2]
      have hl := cx_ne g2 (by decide)
      have e2 : ds c (i + 1) = 2 := by
        rw [cx_lt hl] at g2
        rw [ds_s, h, g2]; rfl
      have p := cpl_ds (L := L) e2 (by omega)
      exact ⟨fun q => ⟨by have := (p.1 q).1; omega, (p.1 q).2⟩, fun q => ⟨by have := (p.2 q).1; omega, (p.2 q).2⟩⟩
    · rw [if_neg g2, if_neg g2]
      by_cases g3 : cx c L i = 94
      · rw [if_pos g3, if_pos g3]
        have hl := cx_ne g3 (by decide)
        have e7 : ds c (i + 1) = 7 := by
          rw [cx_lt hl] at g3
          rw [ds_s, h, g3]; rfl
        have e8 : ds c (i + 1 + 1) = if dg (c (i + 1)) = true then 1 else 8 := by rw [ds_s, e7]; rfl
        cases g4 : dg (cx c L (i + 1)) with
        | false =>
          rw [if_neg (by decide)]
          refine ⟨fun q => (by cases q), fun _ => ⟨by omega, by omega, by omega, fun hl2 => ?_, fun e => ?_⟩⟩
          · rw [cx_lt hl2] at g4
            rw [e8, if_neg (by rw [g4]; decide)]
          · rw [← e]; omega
        | true =>
          have hl2 := dg_cx g4
          rw [cx_lt hl2] at g4
          rw [if_pos rfl]
          refine ⟨fun _ => ⟨by omega, by omega, Or.inl ?_⟩, fun q => (by cases q)⟩
          rw [show i + 2 = i + 1 + 1 from rfl, e8, if_pos g4]
      · rw [if_neg g3, if_neg g3]
        refine ⟨fun q => (by cases q), fun _ => ⟨Nat.le_refl _, hi, by omega, fun hl => ?_, fun e => ?_⟩⟩
        · rw [cx_lt hl] at g1 g2 g3
          rw [ds_s, h]
          show dl0 (c i) = 8
          unfold dl0
          rw [if_neg g1, if_neg g2, if_neg g3]
        · rw [← e]; omega
theorem wh_ex {c : Nat → Nat} {L : Nat} (h : ds c L = 1 ∨ ds c L = 6) : ∃ m, WH c L m := by
  have go : ∀ (d k : Nat), L + 1 - sP c L k ≤ d → sP c L k ≤ L → ds c (sP c L k) = 0 → (∀ q, q < k → pOk c L (sP c L q) = true ∧ cx c L (pJ c L (sP c L q)) = 59) → ∃ m, WH c L m := by
    intro d
    induction d with
    | zero => intro k h1 h2; omega
    | succ d ih =>
      intro k h1 h2 h3 h4
      have p := prt_ds h3 h2
      have ok : pOk c L (sP c L k) = true := by
        cases e : pOk c L (sP c L k) with
        | true => rfl
        | false => have := STP_no (p.2 e).2; omega
      have p1 := p.1 ok
      rcases Nat.lt_or_ge (pJ c L (sP c L k)) L with g | g
      · have n := Q5_n p1.2.2 g
        by_cases e : c (pJ c L (sP c L k)) = 59
        · rw [if_pos e] at n
          refine ih (k + 1) (by rw [sP_s]; omega) (by rw [sP_s]; omega) (by rw [sP_s]; exact n) fun q hq => ?_
          rcases Nat.lt_succ_iff_lt_or_eq.mp hq with hq | rfl
          · exact h4 q hq
          · exact ⟨ok, by rw [cx_lt g]; exact e⟩
        · rw [if_neg e] at n
          have := ds8' n (show _ ≤ L by omega)
          omega
      · refine ⟨k + 1, by omega, fun q hq => ?_, fun q hq => (h4 q (by omega)).2, by show pJ c L (sP c L k) = L; omega⟩
        rcases Nat.lt_succ_iff_lt_or_eq.mp hq with hq | rfl
        · exact (h4 q hq).1
        · exact ok
  exact go (L + 1) 0 (by omega) (Nat.zero_le _) rfl (fun q hq => absurd hq (by omega))
theorem wh_un {c : Nat → Nat} {L m m2 : Nat} (h : WH c L m) (h2 : WH c L m2) : m = m2 := by
  rcases Nat.lt_trichotomy m m2 with g | g | g
  · have a := h2.2.2.1 (m - 1) (by have := h.1; omega)
    rw [h.2.2.2, cx_ge (Nat.le_refl _)] at a; omega
  · exact g
  · have a := h.2.2.1 (m2 - 1) (by have := h2.1; omega)
    rw [h2.2.2.2, cx_ge (Nat.le_refl _)] at a; omega
theorem wh_ds {c : Nat → Nat} {L m : Nat} (h : WH c L m) : ∀ k, k < m → ds c (sP c L k) = 0 ∧ sP c L k ≤ L ∧ 2 * k ≤ sP c L k := by
  intro k
  induction k with
  | zero => intro _; exact ⟨rfl, Nat.zero_le _, Nat.le_refl _⟩
  | succ k ih =>
    intro hk
    have i := ih (by omega)
    have p := (prt_ds i.1 i.2.1).1 (h.2.1 k (by omega))
    have e := h.2.2.1 k hk
    have l := cx_ne e (by decide)
    have n := Q5_n p.2.2 l
    rw [cx_lt l] at e
    rw [if_pos e] at n
    rw [sP_s]
    exact ⟨n, by omega, by omega⟩
theorem wh_30 {c : Nat → Nat} {L m : Nat} (h : WH c L m) (hL : L ≤ 60) : m ≤ 30 := by
  have a := wh_ds h (m - 1) (by have := h.1; omega)
  have p := (prt_ds a.1 a.2.1).1 (h.2.1 (m - 1) (by have := h.1; omega))
  have := h.1
  omega
