/-! ===== Int32 by its bits: bt x i ===== -/
def bt (x : Int32) (i : Nat) : Bool := x.toBitVec.getLsbD i
theorem b_ext {x y : Int32} (h : ∀ i, i < 32 → bt x i = bt y i) : x = y := Int32.toBitVec_inj.mp (BitVec.eq_of_getLsbD_eq (fun i hi => h i hi))
theorem b_or (x y : Int32) (i : Nat) : bt (x ||| y) i = (bt x i || bt y i) := by unfold bt; rw [Int32.toBitVec_or, BitVec.getLsbD_or]
theorem b_and (x y : Int32) (i : Nat) : bt (x &&& y) i = (bt x i && bt y i) := by unfold bt; rw [Int32.toBitVec_and, BitVec.getLsbD_and]
theorem b_xor (x y : Int32) (i : Nat) : bt (x ^^^ y) i = (bt x i ^^ bt y i) := by unfold bt; rw [Int32.toBitVec_xor, BitVec.getLsbD_xor]
theorem b_big {x : Int32} {i : Nat} (h : 32 ≤ i) : bt x i = false := BitVec.getLsbD_of_ge _ _ h
theorem b_255 (i : Nat) : bt 255 i = decide (i < 8) := by
  rcases Nat.lt_or_ge i 32 with h | h
  · exact (by decide +kernel : ∀ i, i < 32 → bt 255 i = decide (i < 8)) i h
  · rw [b_big h, decide_eq_false (by omega)]
theorem b_65535 (i : Nat) : bt 65535 i = decide (i < 16) := by
  rcases Nat.lt_or_ge i 32 with h | h
  · exact (by decide +kernel : ∀ i, i < 32 → bt 65535 i = decide (i < 16)) i h
  · rw [b_big h, decide_eq_false (by omega)]
theorem b_m1 : ∀ i, i < 32 → bt (-1) i = true := by decide +kernel
theorem b_0 (i : Nat) : bt 0 i = false := BitVec.getLsbD_zero
theorem s_l : ∀ n, n < 32 → ((nI n &&& 31).toBitVec.smod 32).toNat = n := by decide +kernel
theorem s_u : ∀ n, n < 32 → (((nI n).toUInt32 &&& Int32.toUInt32 31).toBitVec % 32).toNat = n := by decide +kernel
theorem b_shl (n : Nat) (hn : n < 32) (x : Int32) {i : Nat} (hi : i < 32) : bt (x <<< (nI n &&& 31)) i = (decide (n ≤ i) && bt x (i - n)) := by
  unfold bt
  rw [Int32.toBitVec_shiftLeft]
  show (x.toBitVec <<< ((nI n &&& 31).toBitVec.smod 32).toNat).getLsbD i = _
  rw [s_l n hn, BitVec.getLsbD_shiftLeft]
  rcases Nat.lt_or_ge i n with h | h
  · simp [h, Nat.not_le.mpr h]
  · simp [hi, h, Nat.not_lt.mpr h]
theorem b_ushr (n : Nat) (hn : n < 32) (x : Int32) (i : Nat) : bt ((x.toUInt32 >>> ((nI n).toUInt32 &&& Int32.toUInt32 31)).toInt32) i = bt x (n + i) := by
  show (x.toUInt32 >>> ((nI n).toUInt32 &&& Int32.toUInt32 31)).toBitVec.getLsbD i = x.toUInt32.toBitVec.getLsbD (n + i)
  rw [UInt32.toBitVec_shiftRight]
  show (x.toUInt32.toBitVec >>> (((nI n).toUInt32 &&& Int32.toUInt32 31).toBitVec % 32).toNat).getLsbD i = _
  rw [s_u n hn, BitVec.getLsbD_ushiftRight]
theorem b_sshr (n : Nat) (hn : n < 32) (x : Int32) {i : Nat} (hi : i < 32) : bt (x >>> (nI n &&& 31)) i = if n + i < 32 then bt x (n + i) else bt x 31 := by
  unfold bt
  rw [Int32.toBitVec_shiftRight]
  show (x.toBitVec.sshiftRight ((nI n &&& 31).toBitVec.smod 32).toNat).getLsbD i = _
  rw [s_l n hn, BitVec.getLsbD_sshiftRight, BitVec.msb_eq_getLsbD_last]
  simp [hi]
theorem b_shl8 (x : Int32) {i : Nat} (hi : i < 32) : bt (x <<< ((8 : Int32) &&& 31)) i = (decide (8 ≤ i) && bt x (i - 8)) := b_shl 8 (by omega) x hi
theorem b_shl16 (x : Int32) {i : Nat} (hi : i < 32) : bt (x <<< ((16 : Int32) &&& 31)) i = (decide (16 ≤ i) && bt x (i - 16)) := b_shl 16 (by omega) x hi
theorem b_shl24 (x : Int32) {i : Nat} (hi : i < 32) : bt (x <<< ((24 : Int32) &&& 31)) i = (decide (24 ≤ i) && bt x (i - 24)) := b_shl 24 (by omega) x hi
theorem b_sshr8 (x : Int32) {i : Nat} (hi : i < 32) : bt (x >>> ((8 : Int32) &&& 31)) i = if 8 + i < 32 then bt x (8 + i) else bt x 31 := b_sshr 8 (by omega) x hi
/-! ===== nI under and, xor, >>>, one bit, 65535 ===== -/
theorem nx_and (a b : Nat) : nI a &&& nI b = nI (a &&& b) := by
  apply Int32.toBitVec_inj.1
  show BitVec.ofNat 32 a &&& BitVec.ofNat 32 b = BitVec.ofNat 32 (a &&& b)
  apply BitVec.eq_of_getLsbD_eq
  intro i hi
  simp [hi]
theorem nx_xor (a b : Nat) : nI a ^^^ nI b = nI (a ^^^ b) := by
  apply Int32.toBitVec_inj.1
  show BitVec.ofNat 32 a ^^^ BitVec.ofNat 32 b = BitVec.ofNat 32 (a ^^^ b)
  apply BitVec.eq_of_getLsbD_eq
  intro i hi
  simp [hi]
theorem nx_cnt : ∀ j : Fin 32, (UInt32.ofNat j.val &&& Int32.toUInt32 31).toNat % 32 = j.val := by decide +kernel
theorem nx_ush {k j : Nat} (hk : k < 65536) (hj : j < 32) : ((nI k).toUInt32 >>> ((nI j).toUInt32 &&& Int32.toUInt32 31)).toInt32 = nI (k >>> j) := by
  have hs : k >>> j ≤ k := by
    rw [Nat.shiftRight_eq_div_pow]
    exact Nat.div_le_self _ _
  have e2 : UInt32.ofNat k >>> (UInt32.ofNat j &&& Int32.toUInt32 31) = UInt32.ofNat (k >>> j) := by
    apply UInt32.toNat_inj.1
    have h1 : (UInt32.ofNat k).toNat = k := Nat.mod_eq_of_lt (by omega)
    have h2 : (UInt32.ofNat (k >>> j)).toNat = k >>> j := Nat.mod_eq_of_lt (by omega)
    rw [UInt32.toNat_shiftRight, nx_cnt ⟨j, hj⟩, h1, h2]
  show (UInt32.ofNat k >>> (UInt32.ofNat j &&& Int32.toUInt32 31)).toInt32 = _
  rw [e2]
  rfl
theorem nx_bit {k j : Nat} (hk : k < 65536) (hj : j < 16) : (((nI k).toUInt32 >>> ((nI j).toUInt32 &&& Int32.toUInt32 31)).toInt32 &&& 1) = 0 ↔ k.testBit j = false := by
  rw [nx_ush hk (by omega)]
  show nI (k >>> j) &&& nI 1 = 0 ↔ _
  rw [nx_and, Nat.and_one_is_mod, ← nI_0, nI_eq (by omega) (by omega), Nat.testBit_eq_decide_div_mod_eq, Nat.shiftRight_eq_div_pow, decide_eq_false_iff_not]
  generalize k / 2 ^ j = z
  omega
theorem nx_mod (k : Nat) : nI k &&& 65535 = nI (k % 65536) := by
  show nI k &&& nI 65535 = _
  rw [nx_and, show (65535 : Nat) = 2 ^ 16 - 1 from rfl, Nat.and_two_pow_sub_one_eq_mod]
theorem nx_m16 {k : Nat} (h : k < 65536) : nI k &&& 65535 = nI k := by rw [nx_mod, Nat.mod_eq_of_lt h]
theorem nx_mask (x : Int32) : ∃ k, k < 65536 ∧ x &&& 65535 = nI k := by
  have e : x = nI x.toBitVec.toNat := by
    apply Int32.toBitVec_inj.1
    show x.toBitVec = BitVec.ofNat 32 x.toBitVec.toNat
    simp
  refine ⟨x.toBitVec.toNat % 65536, Nat.mod_lt _ (by omega), ?_⟩
  rw [← nx_mod, ← e]
/-! the bits of a number that are set, counted as the library does it -/
theorem l3 {a b c M : Nat} (ha : a < 256) (hb : b < 256) : (a + 256 * b + 65536 * c) &&& M = (a &&& M % 256) + 256 * (b &&& M / 256 % 256) + 65536 * (c &&& M / 65536) := by
  have e1 : (a + 256 * b + 65536 * c) &&& M = ((a + 256 * b + 65536 * c) &&& M) % 2 ^ 8 + 256 * (((a + 256 * b + 65536 * c) &&& M) / 2 ^ 8 % 2 ^ 8) + 65536 * (((a + 256 * b + 65536 * c) &&& M) / 2 ^ 16) := by omega
  rw [e1]
  have e2 : ((a + 256 * b + 65536 * c) &&& M) / 2 ^ 16 = c &&& M / 65536 := by
    rw [Nat.and_div_two_pow]
    congr 1
    omega
  rw [e2, Nat.and_div_two_pow, Nat.and_mod_two_pow, Nat.and_mod_two_pow]
  have e3 : (a + 256 * b + 65536 * c) % 2 ^ 8 = a := by omega
  have e4 : (a + 256 * b + 65536 * c) / 2 ^ 8 % 2 ^ 8 = b := by omega
  rw [e3, e4]
def u1 (a : Nat) : Nat := a - (a / 2 &&& 85)
def u2 (a : Nat) : Nat := (a &&& 51) + (a / 4 &&& 51)
def u3 (a : Nat) : Nat := (a + a / 16) &&& 15
theorem u1_k : ∀ a, a < 256 → (a / 2 &&& 85) ≤ a ∧ u1 a < 256 ∧ (a / 2 + 128 &&& 85) = (a / 2 &&& 85) := by decide +kernel
theorem u2_k : ∀ a, a < 256 → u2 a < 256 ∧ (a / 4 + 64 * 0 &&& 51) = (a / 4 &&& 51) ∧ (a / 4 + 64 * 1 &&& 51) = (a / 4 &&& 51) ∧ (a / 4 + 64 * 2 &&& 51) = (a / 4 &&& 51) ∧ (a / 4 + 64 * 3 &&& 51) = (a / 4 &&& 51) := by decide +kernel
theorem u21_k : ∀ a, a < 256 → u2 (u1 a) ≤ 68 ∧ u2 (u1 a) % 16 ≤ 4 ∧ u2 (u1 a) / 16 ≤ 4 ∧ u3 (u2 (u1 a)) = sm (fun i => if a.testBit i then 1 else 0) 8 ∧ u3 (u2 (u1 a)) ≤ 8 := by decide +kernel
theorem u3_k : ∀ a, a < 73 → ∀ t, t < 5 → (a + 16 * t &&& 15) = (a &&& 15) := by decide +kernel
theorem s1_3 {a b c : Nat} (ha : a < 256) (hb : b < 256) (hc : c < 16) : (a + 256 * b + 65536 * c) - ((a + 256 * b + 65536 * c) / 2 &&& 1431655765) = u1 a + 256 * u1 b + 65536 * u1 c := by
  have ka := u1_k a ha
  have kb := u1_k b hb
  have kc := u1_k c (by omega)
  have e : (a + 256 * b + 65536 * c) / 2 = (a / 2 + 128 * (b % 2)) + 256 * (b / 2 + 128 * (c % 2)) + 65536 * (c / 2) := by omega
  have f : ∀ x y, x < 256 → ((x / 2 + 128 * (y % 2)) &&& 85) = (x / 2 &&& 85) := fun x y hx => by
    rcases Nat.mod_two_eq_zero_or_one y with h | h <;> rw [h]
    · rfl
    · exact (u1_k x hx).2.2
  rw [e, l3 (by omega) (by omega)]
  have hcc : (c / 2 &&& 1431655765 / 65536) = (c / 2 &&& 85) := (by decide +kernel : ∀ c, c < 16 → (c / 2 &&& 1431655765 / 65536) = (c / 2 &&& 85)) c hc
  rw [hcc, show 1431655765 % 256 = 85 from rfl, f a b ha, f b c hb]
  unfold u1
  omega
theorem s2_3 {a b c : Nat} (ha : a < 256) (hb : b < 256) (hc : c < 16) : ((a + 256 * b + 65536 * c) &&& 858993459) + ((a + 256 * b + 65536 * c) / 4 &&& 858993459) = u2 a + 256 * u2 b + 65536 * u2 c := by
  have e : (a + 256 * b + 65536 * c) / 4 = (a / 4 + 64 * (b % 4)) + 256 * (b / 4 + 64 * (c % 4)) + 65536 * (c / 4) := by omega
  have f : ∀ x y, x < 256 → ((x / 4 + 64 * (y % 4)) &&& 51) = (x / 4 &&& 51) := fun x y hx => by
    have k := u2_k x hx
    rcases (show y % 4 = 0 ∨ y % 4 = 1 ∨ y % 4 = 2 ∨ y % 4 = 3 by omega) with h | h | h | h <;> rw [h]
    · exact k.2.1
    · exact k.2.2.1
    · exact k.2.2.2.1
    · exact k.2.2.2.2
  rw [e, l3 ha hb, l3 (by omega) (by omega)]
  have hc1 : (c &&& 858993459 / 65536) = (c &&& 51) ∧ (c / 4 &&& 858993459 / 65536) = (c / 4 &&& 51) := (by decide +kernel : ∀ c, c < 16 → (c &&& 858993459 / 65536) = (c &&& 51) ∧ (c / 4 &&& 858993459 / 65536) = (c / 4 &&& 51)) c hc
  rw [hc1.1, hc1.2, show 858993459 % 256 = 51 from rfl, f a b ha, f b c hb]
  unfold u2
  omega
theorem s3_3 {a b c : Nat} (ha : a ≤ 68) (hb : b ≤ 68) (hc : c ≤ 68) (ma : a % 16 ≤ 4) (mb : b % 16 ≤ 4) (mc : c % 16 ≤ 4) (da : a / 16 ≤ 4) (db : b / 16 ≤ 4) (dc : c / 16 ≤ 4) : ((a + 256 * b + 65536 * c) + (a + 256 * b + 65536 * c) / 16) &&& 252645135 = u3 a + 256 * u3 b + 65536 * u3 c := by
  have e : (a + 256 * b + 65536 * c) + (a + 256 * b + 65536 * c) / 16 = (a + a / 16 + 16 * (b % 16)) + 256 * (b + b / 16 + 16 * (c % 16)) + 65536 * (c + c / 16) := by omega
  rw [e, l3 (by omega) (by omega)]
  have hc1 : (c + c / 16 &&& 252645135 / 65536) = (c + c / 16 &&& 15) := (by decide +kernel : ∀ c, c < 73 → (c &&& 252645135 / 65536) = (c &&& 15)) _ (by omega)
  rw [hc1, show 252645135 % 256 = 15 from rfl, u3_k _ (by omega) _ (by omega), u3_k _ (by omega) _ (by omega)]
  rfl
/-- of the first n bits, how many are set -/
def pcn (x : Int32) (n : Nat) : Nat := sm (fun i => if bt x i then 1 else 0) n
theorem bt_nI (n : Nat) {i : Nat} (hi : i < 32) : bt (nI n) i = n.testBit i := by
  show (BitVec.ofNat 32 n).getLsbD i = _
  rw [BitVec.getLsbD_ofNat]; simp [hi]
theorem sm_cat (f : Nat → Nat) (a : Nat) : ∀ b : Nat, sm f (a + b) = sm f a + sm (fun i => f (a + i)) b
  | 0 => rfl
  | b + 1 => by rw [← Nat.add_assoc, sm_s, sm_cat f a b, sm_s]; omega
theorem tb3 {a b c : Nat} (ha : a < 256) (hb : b < 256) : (∀ i, i < 8 → (a + 256 * b + 65536 * c).testBit i = a.testBit i) ∧ (∀ i, i < 8 → (a + 256 * b + 65536 * c).testBit (8 + i) = b.testBit i) ∧ ∀ i, (a + 256 * b + 65536 * c).testBit (16 + i) = c.testBit i := by
  refine ⟨fun i hi => ?_, fun i hi => ?_, fun i => ?_⟩
  · have h := Nat.testBit_mod_two_pow (a + 256 * b + 65536 * c) 8 i
    rw [show (a + 256 * b + 65536 * c) % 2 ^ 8 = a by omega] at h
    rw [h]; simp [hi]
  · have h := Nat.testBit_mod_two_pow ((a + 256 * b + 65536 * c) / 2 ^ 8) 8 i
    rw [show (a + 256 * b + 65536 * c) / 2 ^ 8 % 2 ^ 8 = b by omega, Nat.testBit_div_two_pow] at h
    rw [h]; simp [hi, Nat.add_comm]
  · have h : ((a + 256 * b + 65536 * c) / 2 ^ 16).testBit i = (a + 256 * b + 65536 * c).testBit (i + 16) := Nat.testBit_div_two_pow _ _
    rw [show (a + 256 * b + 65536 * c) / 2 ^ 16 = c by omega] at h
    rw [h, Nat.add_comm 16 i]
theorem bitCount_ok {n : Nat} (hn : n < 2 ^ 20) {post : Int32 → Prop} (k : post (nI (pcn (nI n) 20))) : PJ6_bitCount_0f7a4 (nI n) post := by
  obtain ⟨a, b, c, ha, hb, hc, e⟩ : ∃ a b c, a < 256 ∧ b < 256 ∧ c < 16 ∧ n = a + 256 * b + 65536 * c := ⟨n % 256, n / 256 % 256, n / 65536, by omega, by omega, by omega, by omega⟩
  have ka := u21_k a ha
  have kb := u21_k b hb
  have kc := u21_k c (by omega)
  have ua := (u1_k a ha).2.1
  have ub := (u1_k b hb).2.1
  have uc : u1 c < 16 := by unfold u1; omega
  have k24 : pcn (nI n) 20 = u3 (u2 (u1 a)) + u3 (u2 (u1 b)) + u3 (u2 (u1 c)) := by
    have t := tb3 (c := c) ha hb
    have h24 : pcn (nI n) 24 = pcn (nI n) 20 := sm_cut (by omega) fun i h1 h2 => by
      rw [bt_nI n (by omega), Nat.testBit_lt_two_pow (Nat.lt_of_lt_of_le hn (Nat.pow_le_pow_right (by decide) h1))]; rfl
    rw [← h24, ka.2.2.2.1, kb.2.2.2.1, kc.2.2.2.1]
    unfold pcn
    rw [show (24 : Nat) = 8 + 8 + 8 from rfl, sm_cat, sm_cat]
    congr 1
    · congr 1
      · exact sm_congr fun i hi => by rw [bt_nI n (by omega), e, t.1 i hi]
      · exact sm_congr fun i hi => by rw [bt_nI n (by omega), e, t.2.1 i hi]
    · exact sm_congr fun i hi => by rw [bt_nI n (by omega), e, show 8 + 8 + i = 16 + i by omega, t.2.2 i]
  intro q1 e1 q2 e2 q3 e3 q4 e4 q5 e5
  have m1 : (1431655765 : Int32) = nI 1431655765 := rfl
  have m2 : (858993459 : Int32) = nI 858993459 := rfl
  have m3 : (252645135 : Int32) = nI 252645135 := rfl
  have m4 : (63 : Int32) = nI 63 := rfl
  have d1 : q1 = nI (u1 a + 256 * u1 b + 65536 * u1 c) := by
    rw [e1, pk_ushrN (by omega) 1 1 (by decide), m1, nx_and, pk_sub (Nat.le_trans Nat.and_le_left (Nat.div_le_self _ _)), show (2 : Nat) ^ 1 = 2 from rfl, e, s1_3 ha hb hc]
  have d2 : q2 = nI (u2 (u1 a) + 256 * u2 (u1 b) + 65536 * u2 (u1 c)) := by
    rw [e2, d1, pk_ushrN (by omega) 2 2 (by decide), m2, nx_and, nx_and, nI_add, show (2 : Nat) ^ 2 = 4 from rfl, s2_3 ua ub uc]
  have d3 : q3 = nI (u3 (u2 (u1 a)) + 256 * u3 (u2 (u1 b)) + 65536 * u3 (u2 (u1 c))) := by
    rw [e3, d2, pk_ushrN (by omega) 4 4 (by decide), nI_add, m3, nx_and, show (2 : Nat) ^ 4 = 16 from rfl, s3_3 ka.1 kb.1 kc.1 ka.2.1 kb.2.1 kc.2.1 ka.2.2.1 kb.2.2.1 kc.2.2.1]
  generalize u3 (u2 (u1 a)) = x at *
  generalize u3 (u2 (u1 b)) = y at *
  generalize u3 (u2 (u1 c)) = z at *
  have d4 : q4 = nI ((x + 256 * y + 65536 * z) + (x + 256 * y + 65536 * z) / 256) := by
    rw [e4, d3, pk_ushrN (by omega) 8 8 (by decide), nI_add]
  have d5 : q5 &&& 63 = nI (x + y + z) := by
    rw [e5, d4, pk_ushrN (by omega) 16 16 (by decide), nI_add, show (2 : Nat) ^ 16 = 65536 from rfl, pk_andN (by omega) 6 (by decide), show (2 : Nat) ^ 6 = 64 from rfl]
    have g1 : (x + 256 * y + 65536 * z) / 256 = y + 256 * z := by omega
    rw [g1]
    have g2 : (x + 256 * y + 65536 * z + (y + 256 * z)) / 65536 = z := by omega
    rw [g2]
    congr 1
    omega
  rw [d5, ← k24]; exact k
