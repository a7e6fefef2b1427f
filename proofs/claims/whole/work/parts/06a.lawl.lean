set_option maxHeartbeats 20000000 in
set_option maxRecDepth 20000 in
theorem kL_arm_0 {p : Program} {l : Launch} {e : Env} {s : State} {m : MethodId} {args : Array Value} {below : List Frame} {meth : Method} {c : Code} {D : va_G} {ct : Nat → ClassId} {A : Nat → Prop} {Q : State → Prop} {sb L : Nat} {xs : Nat → Int32} {g : Nat → Nat → Nat} {am qa : Nat → Nat} (hl9 : l.stackTraces = false) (X : Cx p s m args meth c cL_law 9 RL wsL_law D (tyz ct) A s.heap ret) (XX : XL A s) (hX : va_X sb L xs s s.heap) (hbl : sb < s.heap.size) (hbA : ¬ A sb) (hend : ∀ (k j : Nat) (w : va_W) (lv : List (Nat × Value)), k ≤ 601024 → j ≤ 7293034 → GG p l e room_1 s m args below meth c D A s.heap 9 Q (w) (k) (j) lv 1325 [.int 1])  {n : Nat} (ih : n ≤ 513 → ∀ (kc : Mem) (v : Mem) (sl : Nat → Mem) (b : Mem) (r : Nat → Mem) (tx : Mem) (y : Mem) (o : Mem) (x : Mem) (w : Mem) (hs : Int64) (ou : Nat → Int64) (x4 : Int32), PL_law_23 xs L n kc v sl b r tx y o x w hs ou x4 → GG p l e room_1 s m args below meth c D A s.heap 9 Q (fl [wC ct g kc, wS ct (g 1) v, wS ct (g 2) (sl 0), wS ct (g 3) (sl 1), wV ct g b, wS ct (g 5) (r 0), wS ct (g 6) (r 1), wS ct (g 7) (r 2), wS ct (g 8) (r 3), wS ct (g 9) (r 4), wS ct (g 10) (r 5), wT ct (g 11) tx, wL ct (g 12) y, wO ct (g 13) o, wR ct (g 14) x, wM ct am w hs, wQ ct qa ou]) (117 + (513 - n)) (2344 + 6 * (513 - n)) [(0, .ref sb), (1, .ref (g 0 0)), (2, .ref (am 0)), (3, .ref (qa 0)), (4, .int x4)] 23 []) (hn9 : n + 1 ≤ 513) (kc : Mem) (v : Mem) (sl : Nat → Mem) (b : Mem) (r : Nat → Mem) (tx : Mem) (y : Mem) (o : Mem) (x : Mem) (w : Mem) (hs : Int64) (ou : Nat → Int64) (x4 : Int32) (c3 : ((xs (ix x4)) &&& 31) = 0) (hw : vp_in (x4 + 1) L ∧ PL_person kc v b r ou (xs (ix (x4 + 1))) (fun r5 v7 b8 r9 ou10 => vp_in (x4 + 1) L ∧ PX8_person w hs (xs (ix (x4 + 1))) (fun r12 w14 => PX8_thrown w14 hs (fun r15 => ((r15 = r5) → ((¬ r5 = 0) → PL_law_23 xs L n kc v7 sl b8 r9 tx y o x w14 hs ou10 (x4 + 3)) ∧ ((r5 = 0) → (((lg_cmp (ou10 0) r12.toInt64) = 0) → PL_law_23 xs L n kc v7 sl b8 r9 tx y o x w14 hs ou10 (x4 + 3)) ∧ ((¬ (lg_cmp (ou10 0) r12.toInt64) = 0) → False))) ∧ ((¬ r15 = r5) → False))))) : GG p l e room_1 s m args below meth c D A s.heap 9 Q (fl [wC ct g kc, wS ct (g 1) v, wS ct (g 2) (sl 0), wS ct (g 3) (sl 1), wV ct g b, wS ct (g 5) (r 0), wS ct (g 6) (r 1), wS ct (g 7) (r 2), wS ct (g 8) (r 3), wS ct (g 9) (r 4), wS ct (g 10) (r 5), wT ct (g 11) tx, wL ct (g 12) y, wO ct (g 13) o, wR ct (g 14) x, wM ct am w hs, wQ ct qa ou]) (117 + (513 - (n + 1))) (2344 + 6 * (513 - (n + 1))) [(0, .ref sb), (1, .ref (g 0 0)), (2, .ref (am 0)), (3, .ref (qa 0)), (4, .int x4)] 144 [] := by
  refine g_aload_n X 1 dL_law_144 rfl rfl ?_
  refine g_aload_n X 0 dL_law_145 rfl rfl ?_
  refine g_iload X 4 dL_law_146 rfl ?_
  refine g_iconst (v := 1) X rfl dL_law_148 ?_
  refine g_iadd X dL_law_149 ?_
  obtain ⟨h4, hw⟩ := hw
  refine g_sld X hX hbl hbA h4 dL_law_150 ?_
  refine g_aload_n X 3 dL_law_151 rfl rfl ?_
  refine g_chS X XX [wC ct g kc, wS ct (g 1) v, wS ct (g 2) (sl 0), wS ct (g 3) (sl 1), wV ct g b, wS ct (g 5) (r 0), wS ct (g 6) (r 1), wS ct (g 7) (r 2), wS ct (g 8) (r 3), wS ct (g 9) (r 4), wS ct (g 10) (r 5), wT ct (g 11) tx, wL ct (g 12) y, wO ct (g 13) o, wR ct (g 14) x, wM ct am w hs, wQ ct qa ou] (fun (u6 : Mem × Mem × (Nat → Mem) × (Nat → Int64)) => [wC ct g kc, wS ct (g 1) u6.1, wS ct (g 2) (sl 0), wS ct (g 3) (sl 1), wV ct g u6.2.1, wS ct (g 5) (u6.2.2.1 0), wS ct (g 6) (u6.2.2.1 1), wS ct (g 7) (u6.2.2.1 2), wS ct (g 8) (u6.2.2.1 3), wS ct (g 9) (u6.2.2.1 4), wS ct (g 10) (u6.2.2.1 5), wT ct (g 11) tx, wL ct (g 12) y, wO ct (g 13) o, wR ct (g 14) x, wM ct am w hs, wQ ct qa u6.2.2.2]) (fun (u6 : Mem × Mem × (Nat → Mem) × (Nat → Int64)) => fl [wC ct g kc, wS ct (g 1) u6.1, wS ct (g 2) (sl 0), wS ct (g 3) (sl 1), wV ct g u6.2.1, wS ct (g 5) (u6.2.2.1 0), wS ct (g 6) (u6.2.2.1 1), wS ct (g 7) (u6.2.2.1 2), wS ct (g 8) (u6.2.2.1 3), wS ct (g 9) (u6.2.2.1 4), wS ct (g 10) (u6.2.2.1 5), wT ct (g 11) tx, wL ct (g 12) y, wO ct (g 13) o, wR ct (g 14) x, wM ct am w hs, wQ ct qa u6.2.2.2]) 17 [0, 1, 4, 5, 6, 7, 8, 9, 10, 16] [2, 3, 11, 12, 13, 14, 15] (kL_person l hl9 D ct g qa kc v b r ou (xs (ix (x4 + 1))) _ hw) (vx_cwSW 3 X.1.2.2.2.2 gL_law_L_person rfl rfl rfl (by decide +kernel) ⟨Nat.le_of_ble_eq_true rfl, Nat.le_of_ble_eq_true rfl⟩) dL_law_152 rfl rfl (Nat.le_of_ble_eq_true rfl) ⟨by show _ ≤ 601024; omega, by show _ ≤ 7293034; omega⟩ rfl rfl rfl (by decide) (fun _ => rfl) (fun _ => lq_0_1_4_5_6_7_8_9_10_16) (fun _ => rfl) (fun _ => rfl) (fun r5 u6 hw => ?_)
  obtain ⟨v7, hv7⟩ : ∃ z : Mem, z = u6.1 := ⟨_, rfl⟩
  rw [← hv7] at hw
  rw [← hv7]
  obtain ⟨b8, hb8⟩ : ∃ z : Mem, z = u6.2.1 := ⟨_, rfl⟩
  rw [← hb8] at hw
  rw [← hb8]
  obtain ⟨r9, hr9⟩ : ∃ z : Nat → Mem, z = u6.2.2.1 := ⟨_, rfl⟩
  rw [← hr9] at hw
  rw [← hr9]
  obtain ⟨ou10, hou10⟩ : ∃ z : Nat → Int64, z = u6.2.2.2 := ⟨_, rfl⟩
  rw [← hou10] at hw
  rw [← hou10]
  refine g_istore X [(5, .int r5), (0, .ref sb), (1, .ref (g 0 0)), (2, .ref (am 0)), (3, .ref (qa 0)), (4, .int x4)] dL_law_155 (by decide) rfl ?_
  refine g_aload_n X 3 dL_law_157 rfl rfl ?_
  refine g_aload_n X 1 dL_law_158 rfl rfl ?_
  refine g_iload X 5 dL_law_159 rfl ?_
  refine g_iconst (v := 1) X rfl dL_law_161 ?_
  refine g_iadd X dL_law_162 ?_
  obtain ⟨h11, hw⟩ := hw
  refine g_sld X hX hbl hbA h11 dL_law_163 ?_
  refine g_ciV X [wC ct g kc, wS ct (g 1) v7, wS ct (g 2) (sl 0), wS ct (g 3) (sl 1), wV ct g b8, wS ct (g 5) (r9 0), wS ct (g 6) (r9 1), wS ct (g 7) (r9 2), wS ct (g 8) (r9 3), wS ct (g 9) (r9 4), wS ct (g 10) (r9 5), wT ct (g 11) tx, wL ct (g 12) y, wO ct (g 13) o, wR ct (g 14) x, wM ct am w hs, wQ ct qa ou10] (fun (u13 : Mem) => [wC ct g kc, wS ct (g 1) v7, wS ct (g 2) (sl 0), wS ct (g 3) (sl 1), wV ct g b8, wS ct (g 5) (r9 0), wS ct (g 6) (r9 1), wS ct (g 7) (r9 2), wS ct (g 8) (r9 3), wS ct (g 9) (r9 4), wS ct (g 10) (r9 5), wT ct (g 11) tx, wL ct (g 12) y, wO ct (g 13) o, wR ct (g 14) x, wM ct am u13 hs, wQ ct qa ou10]) (fun (u13 : Mem) => fl [wC ct g kc, wS ct (g 1) v7, wS ct (g 2) (sl 0), wS ct (g 3) (sl 1), wV ct g b8, wS ct (g 5) (r9 0), wS ct (g 6) (r9 1), wS ct (g 7) (r9 2), wS ct (g 8) (r9 3), wS ct (g 9) (r9 4), wS ct (g 10) (r9 5), wT ct (g 11) tx, wL ct (g 12) y, wO ct (g 13) o, wR ct (g 14) x, wM ct am u13 hs, wQ ct qa ou10]) 17 [15] [0, 1, 2, 3, 4, 5, 6, 7, 8, 9, 10, 11, 12, 13, 14, 16] 0 (kX8_person l D ct am w hs (xs (ix (x4 + 1))) _ hw) (cwV 1 X.1.2.2.2.2 gL_law_X8_person rfl rfl rfl (by decide +kernel) ⟨Nat.le_of_ble_eq_true rfl, Nat.le_of_ble_eq_true rfl⟩) dL_law_164 rfl rfl (Nat.le_of_ble_eq_true rfl) ⟨by show _ ≤ 601024; omega, by show _ ≤ 7293034; omega⟩ rfl rfl rfl (by decide) (fun _ => rfl) (fun _ => lq_15) (fun _ => rfl) (fun _ => rfl) rfl rfl rfl (fun r12 u13 hw => ?_)
  obtain ⟨w14, hw14⟩ : ∃ z : Mem, z = u13 := ⟨_, rfl⟩
  rw [← hw14] at hw
  rw [← hw14]
  refine g_istore X [(6, .int r12), (5, .int r5), (0, .ref sb), (1, .ref (g 0 0)), (2, .ref (am 0)), (3, .ref (qa 0)), (4, .int x4)] dL_law_167 (by decide) rfl ?_
  refine g_aload_n X 4 dL_law_169 rfl rfl ?_
  refine g_ciV X [wC ct g kc, wS ct (g 1) v7, wS ct (g 2) (sl 0), wS ct (g 3) (sl 1), wV ct g b8, wS ct (g 5) (r9 0), wS ct (g 6) (r9 1), wS ct (g 7) (r9 2), wS ct (g 8) (r9 3), wS ct (g 9) (r9 4), wS ct (g 10) (r9 5), wT ct (g 11) tx, wL ct (g 12) y, wO ct (g 13) o, wR ct (g 14) x, wM ct am w14 hs, wQ ct qa ou10] (fun (_ : Unit) => [wC ct g kc, wS ct (g 1) v7, wS ct (g 2) (sl 0), wS ct (g 3) (sl 1), wV ct g b8, wS ct (g 5) (r9 0), wS ct (g 6) (r9 1), wS ct (g 7) (r9 2), wS ct (g 8) (r9 3), wS ct (g 9) (r9 4), wS ct (g 10) (r9 5), wT ct (g 11) tx, wL ct (g 12) y, wO ct (g 13) o, wR ct (g 14) x, wM ct am w14 hs, wQ ct qa ou10]) (fun _ => fl [wC ct g kc, wS ct (g 1) v7, wS ct (g 2) (sl 0), wS ct (g 3) (sl 1), wV ct g b8, wS ct (g 5) (r9 0), wS ct (g 6) (r9 1), wS ct (g 7) (r9 2), wS ct (g 8) (r9 3), wS ct (g 9) (r9 4), wS ct (g 10) (r9 5), wT ct (g 11) tx, wL ct (g 12) y, wO ct (g 13) o, wR ct (g 14) x, wM ct am w14 hs, wQ ct qa ou10]) 17 [15] [0, 1, 2, 3, 4, 5, 6, 7, 8, 9, 10, 11, 12, 13, 14, 16] 0 (kX8_thrown l D ct am w14 hs _ hw) (cwV 0 X.1.2.2.2.2 gL_law_X8_thrown rfl rfl rfl (by decide +kernel) ⟨Nat.le_of_ble_eq_true rfl, Nat.le_of_ble_eq_true rfl⟩) dL_law_170 rfl rfl (Nat.le_of_ble_eq_true rfl) ⟨by show _ ≤ 601024; omega, by show _ ≤ 7293034; omega⟩ rfl rfl rfl (by decide) (fun _ => rfl) (fun _ => lq_15) (fun _ => rfl) (fun _ => rfl) rfl rfl rfl (fun r15 _ hw => ?_)
  refine g_iload X 1 dL_law_173 rfl ?_
  refine g_icmp_eq X 180 dL_law_175 (by decide) (fun c17 => ?_) (fun c17 => ?_)
  · replace hw := hw.1 c17
    refine g_iload X 1 dL_law_180 rfl ?_
    refine g_if_ne X 197 dL_law_182 (by decide) (fun c18 => ?_) (fun c18 => ?_)
    · replace hw := hw.1 c18
      refine g_goto X 1318 dL_law_197 (by decide) ?_
      refine g_iinc X [(4, .int (x4 + 3)), (6, .int r12), (5, .int r5), (0, .ref sb), (1, .ref (g 0 0)), (2, .ref (am 0)), (3, .ref (qa 0))] 6 dL_law_1318 rfl rfl (by decide) rfl ?_
      refine g_goto X 23 dL_law_1321 (by decide) ?_
      refine g_sub [(0, .ref sb), (1, .ref (g 0 0)), (2, .ref (am 0)), (3, .ref (qa 0)), (4, .int (x4 + 3))] [3, 4, 5, 6, 0] rfl ?_
      refine g_wide (k2 := 117 + (513 - n)) (j2 := 2344 + 6 * (513 - n)) (by omega) (by omega) ?_
      exact ih (by omega) _ _ _ _ _ _ _ _ _ _ _ _ _ hw
    · replace hw := hw.2 c18
      refine g_aload_n X 5 dL_law_185 rfl rfl ?_
      refine g_iconst (v := 0) X rfl dL_law_186 ?_
      refine g_lald X 116 4 dL_law_187 rfl rfl (vp_in_nI (n := 0) (by decide) (by decide)) ?_
      refine g_iload X 0 dL_law_188 rfl ?_
      refine g_i2l X dL_law_190 ?_
      refine g_lcmp X dL_law_191 ?_
      refine g_if_eq X 197 dL_law_192 (by decide) (fun c19 => ?_) (fun c19 => ?_)
      · replace hw := hw.1 c19
        refine g_goto X 1318 dL_law_197 (by decide) ?_
        refine g_iinc X [(4, .int (x4 + 3)), (6, .int r12), (5, .int r5), (0, .ref sb), (1, .ref (g 0 0)), (2, .ref (am 0)), (3, .ref (qa 0))] 6 dL_law_1318 rfl rfl (by decide) rfl ?_
        refine g_goto X 23 dL_law_1321 (by decide) ?_
        refine g_sub [(0, .ref sb), (1, .ref (g 0 0)), (2, .ref (am 0)), (3, .ref (qa 0)), (4, .int (x4 + 3))] [3, 4, 5, 6, 0] rfl ?_
        refine g_wide (k2 := 117 + (513 - n)) (j2 := 2344 + 6 * (513 - n)) (by omega) (by omega) ?_
        exact ih (by omega) _ _ _ _ _ _ _ _ _ _ _ _ _ hw
      · replace hw := hw.2 c19
        refine g_iconst (v := 0) X rfl dL_law_195 ?_
        exact hw.elim
  · replace hw := hw.2 c17
    refine g_iconst (v := 0) X rfl dL_law_178 ?_
    exact hw.elim
set_option maxHeartbeats 20000000 in
set_option maxRecDepth 20000 in
theorem kL_arm_1 {p : Program} {l : Launch} {e : Env} {s : State} {m : MethodId} {args : Array Value} {below : List Frame} {meth : Method} {c : Code} {D : va_G} {ct : Nat → ClassId} {A : Nat → Prop} {Q : State → Prop} {sb L : Nat} {xs : Nat → Int32} {g : Nat → Nat → Nat} {am qa : Nat → Nat} (hl9 : l.stackTraces = false) (X : Cx p s m args meth c cL_law 9 RL wsL_law D (tyz ct) A s.heap ret) (XX : XL A s) (hX : va_X sb L xs s s.heap) (hbl : sb < s.heap.size) (hbA : ¬ A sb) (hend : ∀ (k j : Nat) (w : va_W) (lv : List (Nat × Value)), k ≤ 601024 → j ≤ 7293034 → GG p l e room_1 s m args below meth c D A s.heap 9 Q (w) (k) (j) lv 1325 [.int 1])  {n : Nat} (ih : n ≤ 513 → ∀ (kc : Mem) (v : Mem) (sl : Nat → Mem) (b : Mem) (r : Nat → Mem) (tx : Mem) (y : Mem) (o : Mem) (x : Mem) (w : Mem) (hs : Int64) (ou : Nat → Int64) (x4 : Int32), PL_law_23 xs L n kc v sl b r tx y o x w hs ou x4 → GG p l e room_1 s m args below meth c D A s.heap 9 Q (fl [wC ct g kc, wS ct (g 1) v, wS ct (g 2) (sl 0), wS ct (g 3) (sl 1), wV ct g b, wS ct (g 5) (r 0), wS ct (g 6) (r 1), wS ct (g 7) (r 2), wS ct (g 8) (r 3), wS ct (g 9) (r 4), wS ct (g 10) (r 5), wT ct (g 11) tx, wL ct (g 12) y, wO ct (g 13) o, wR ct (g 14) x, wM ct am w hs, wQ ct qa ou]) (117 + (513 - n)) (2344 + 6 * (513 - n)) [(0, .ref sb), (1, .ref (g 0 0)), (2, .ref (am 0)), (3, .ref (qa 0)), (4, .int x4)] 23 []) (hn9 : n + 1 ≤ 513) (kc : Mem) (v : Mem) (sl : Nat → Mem) (b : Mem) (r : Nat → Mem) (tx : Mem) (y : Mem) (o : Mem) (x : Mem) (w : Mem) (hs : Int64) (ou : Nat → Int64) (x4 : Int32) (c20 : ((xs (ix x4)) &&& 31) = 1) (hw : vp_in (x4 + 1) L ∧ vp_in (x4 + 2) L ∧ PL_marry kc v b r ou (xs (ix (x4 + 1))) (xs (ix (x4 + 2))) (fun r23 v25 b26 r27 ou28 => vp_in (x4 + 1) L ∧ vp_in (x4 + 2) L ∧ PX8_marry w hs (xs (ix (x4 + 1))) (xs (ix (x4 + 2))) (fun r31 w33 => PX8_thrown w33 hs (fun r34 => ((r34 = r23) → ((¬ r23 = 0) → PL_law_23 xs L n kc v25 sl b26 r27 tx y o x w33 hs ou28 (x4 + 3)) ∧ ((r23 = 0) → (((lg_cmp (ou28 0) r31.toInt64) = 0) → PL_law_23 xs L n kc v25 sl b26 r27 tx y o x w33 hs ou28 (x4 + 3)) ∧ ((¬ (lg_cmp (ou28 0) r31.toInt64) = 0) → False))) ∧ ((¬ r34 = r23) → False))))) : GG p l e room_1 s m args below meth c D A s.heap 9 Q (fl [wC ct g kc, wS ct (g 1) v, wS ct (g 2) (sl 0), wS ct (g 3) (sl 1), wV ct g b, wS ct (g 5) (r 0), wS ct (g 6) (r 1), wS ct (g 7) (r 2), wS ct (g 8) (r 3), wS ct (g 9) (r 4), wS ct (g 10) (r 5), wT ct (g 11) tx, wL ct (g 12) y, wO ct (g 13) o, wR ct (g 14) x, wM ct am w hs, wQ ct qa ou]) (117 + (513 - (n + 1))) (2344 + 6 * (513 - (n + 1))) [(0, .ref sb), (1, .ref (g 0 0)), (2, .ref (am 0)), (3, .ref (qa 0)), (4, .int x4)] 200 [] := by
  refine g_aload_n X 1 dL_law_200 rfl rfl ?_
  refine g_aload_n X 0 dL_law_201 rfl rfl ?_
  refine g_iload X 4 dL_law_202 rfl ?_
  refine g_iconst (v := 1) X rfl dL_law_204 ?_
  refine g_iadd X dL_law_205 ?_
  obtain ⟨h21, hw⟩ := hw
  refine g_sld X hX hbl hbA h21 dL_law_206 ?_
  refine g_aload_n X 0 dL_law_207 rfl rfl ?_
  refine g_iload X 4 dL_law_208 rfl ?_
  refine g_iconst (v := 2) X rfl dL_law_210 ?_
  refine g_iadd X dL_law_211 ?_
  obtain ⟨h22, hw⟩ := hw
  refine g_sld X hX hbl hbA h22 dL_law_212 ?_
  refine g_aload_n X 3 dL_law_213 rfl rfl ?_
  refine g_chS X XX [wC ct g kc, wS ct (g 1) v, wS ct (g 2) (sl 0), wS ct (g 3) (sl 1), wV ct g b, wS ct (g 5) (r 0), wS ct (g 6) (r 1), wS ct (g 7) (r 2), wS ct (g 8) (r 3), wS ct (g 9) (r 4), wS ct (g 10) (r 5), wT ct (g 11) tx, wL ct (g 12) y, wO ct (g 13) o, wR ct (g 14) x, wM ct am w hs, wQ ct qa ou] (fun (u24 : Mem × Mem × (Nat → Mem) × (Nat → Int64)) => [wC ct g kc, wS ct (g 1) u24.1, wS ct (g 2) (sl 0), wS ct (g 3) (sl 1), wV ct g u24.2.1, wS ct (g 5) (u24.2.2.1 0), wS ct (g 6) (u24.2.2.1 1), wS ct (g 7) (u24.2.2.1 2), wS ct (g 8) (u24.2.2.1 3), wS ct (g 9) (u24.2.2.1 4), wS ct (g 10) (u24.2.2.1 5), wT ct (g 11) tx, wL ct (g 12) y, wO ct (g 13) o, wR ct (g 14) x, wM ct am w hs, wQ ct qa u24.2.2.2]) (fun (u24 : Mem × Mem × (Nat → Mem) × (Nat → Int64)) => fl [wC ct g kc, wS ct (g 1) u24.1, wS ct (g 2) (sl 0), wS ct (g 3) (sl 1), wV ct g u24.2.1, wS ct (g 5) (u24.2.2.1 0), wS ct (g 6) (u24.2.2.1 1), wS ct (g 7) (u24.2.2.1 2), wS ct (g 8) (u24.2.2.1 3), wS ct (g 9) (u24.2.2.1 4), wS ct (g 10) (u24.2.2.1 5), wT ct (g 11) tx, wL ct (g 12) y, wO ct (g 13) o, wR ct (g 14) x, wM ct am w hs, wQ ct qa u24.2.2.2]) 17 [0, 1, 4, 5, 6, 7, 8, 9, 10, 16] [2, 3, 11, 12, 13, 14, 15] (kL_marry l hl9 D ct g qa kc v b r ou (xs (ix (x4 + 1))) (xs (ix (x4 + 2))) _ hw) (vx_cwSW 4 X.1.2.2.2.2 gL_law_L_marry rfl rfl rfl (by decide +kernel) ⟨Nat.le_of_ble_eq_true rfl, Nat.le_of_ble_eq_true rfl⟩) dL_law_214 rfl rfl (Nat.le_of_ble_eq_true rfl) ⟨by show _ ≤ 601024; omega, by show _ ≤ 7293034; omega⟩ rfl rfl rfl (by decide) (fun _ => rfl) (fun _ => lq_0_1_4_5_6_7_8_9_10_16) (fun _ => rfl) (fun _ => rfl) (fun r23 u24 hw => ?_)
  obtain ⟨v25, hv25⟩ : ∃ z : Mem, z = u24.1 := ⟨_, rfl⟩
  rw [← hv25] at hw
  rw [← hv25]
  obtain ⟨b26, hb26⟩ : ∃ z : Mem, z = u24.2.1 := ⟨_, rfl⟩
  rw [← hb26] at hw
  rw [← hb26]
  obtain ⟨r27, hr27⟩ : ∃ z : Nat → Mem, z = u24.2.2.1 := ⟨_, rfl⟩
  rw [← hr27] at hw
  rw [← hr27]
  obtain ⟨ou28, hou28⟩ : ∃ z : Nat → Int64, z = u24.2.2.2 := ⟨_, rfl⟩
  rw [← hou28] at hw
  rw [← hou28]
  refine g_istore X [(5, .int r23), (0, .ref sb), (1, .ref (g 0 0)), (2, .ref (am 0)), (3, .ref (qa 0)), (4, .int x4)] dL_law_217 (by decide) rfl ?_
  refine g_aload_n X 3 dL_law_219 rfl rfl ?_
  refine g_aload_n X 1 dL_law_220 rfl rfl ?_
  refine g_iload X 5 dL_law_221 rfl ?_
  refine g_iconst (v := 1) X rfl dL_law_223 ?_
  refine g_iadd X dL_law_224 ?_
  obtain ⟨h29, hw⟩ := hw
  refine g_sld X hX hbl hbA h29 dL_law_225 ?_
  refine g_aload_n X 1 dL_law_226 rfl rfl ?_
  refine g_iload X 5 dL_law_227 rfl ?_
  refine g_iconst (v := 2) X rfl dL_law_229 ?_
  refine g_iadd X dL_law_230 ?_
  obtain ⟨h30, hw⟩ := hw
  refine g_sld X hX hbl hbA h30 dL_law_231 ?_
  refine g_ciV X [wC ct g kc, wS ct (g 1) v25, wS ct (g 2) (sl 0), wS ct (g 3) (sl 1), wV ct g b26, wS ct (g 5) (r27 0), wS ct (g 6) (r27 1), wS ct (g 7) (r27 2), wS ct (g 8) (r27 3), wS ct (g 9) (r27 4), wS ct (g 10) (r27 5), wT ct (g 11) tx, wL ct (g 12) y, wO ct (g 13) o, wR ct (g 14) x, wM ct am w hs, wQ ct qa ou28] (fun (u32 : Mem) => [wC ct g kc, wS ct (g 1) v25, wS ct (g 2) (sl 0), wS ct (g 3) (sl 1), wV ct g b26, wS ct (g 5) (r27 0), wS ct (g 6) (r27 1), wS ct (g 7) (r27 2), wS ct (g 8) (r27 3), wS ct (g 9) (r27 4), wS ct (g 10) (r27 5), wT ct (g 11) tx, wL ct (g 12) y, wO ct (g 13) o, wR ct (g 14) x, wM ct am u32 hs, wQ ct qa ou28]) (fun (u32 : Mem) => fl [wC ct g kc, wS ct (g 1) v25, wS ct (g 2) (sl 0), wS ct (g 3) (sl 1), wV ct g b26, wS ct (g 5) (r27 0), wS ct (g 6) (r27 1), wS ct (g 7) (r27 2), wS ct (g 8) (r27 3), wS ct (g 9) (r27 4), wS ct (g 10) (r27 5), wT ct (g 11) tx, wL ct (g 12) y, wO ct (g 13) o, wR ct (g 14) x, wM ct am u32 hs, wQ ct qa ou28]) 17 [15] [0, 1, 2, 3, 4, 5, 6, 7, 8, 9, 10, 11, 12, 13, 14, 16] 0 (kX8_marry l D ct am w hs (xs (ix (x4 + 1))) (xs (ix (x4 + 2))) _ hw) (cwV 2 X.1.2.2.2.2 gL_law_X8_marry rfl rfl rfl (by decide +kernel) ⟨Nat.le_of_ble_eq_true rfl, Nat.le_of_ble_eq_true rfl⟩) dL_law_232 rfl rfl (Nat.le_of_ble_eq_true rfl) ⟨by show _ ≤ 601024; omega, by show _ ≤ 7293034; omega⟩ rfl rfl rfl (by decide) (fun _ => rfl) (fun _ => lq_15) (fun _ => rfl) (fun _ => rfl) rfl rfl rfl (fun r31 u32 hw => ?_)
  obtain ⟨w33, hw33⟩ : ∃ z : Mem, z = u32 := ⟨_, rfl⟩
  rw [← hw33] at hw
  rw [← hw33]
  refine g_istore X [(6, .int r31), (5, .int r23), (0, .ref sb), (1, .ref (g 0 0)), (2, .ref (am 0)), (3, .ref (qa 0)), (4, .int x4)] dL_law_235 (by decide) rfl ?_
  refine g_aload_n X 4 dL_law_237 rfl rfl ?_
  refine g_ciV X [wC ct g kc, wS ct (g 1) v25, wS ct (g 2) (sl 0), wS ct (g 3) (sl 1), wV ct g b26, wS ct (g 5) (r27 0), wS ct (g 6) (r27 1), wS ct (g 7) (r27 2), wS ct (g 8) (r27 3), wS ct (g 9) (r27 4), wS ct (g 10) (r27 5), wT ct (g 11) tx, wL ct (g 12) y, wO ct (g 13) o, wR ct (g 14) x, wM ct am w33 hs, wQ ct qa ou28] (fun (_ : Unit) => [wC ct g kc, wS ct (g 1) v25, wS ct (g 2) (sl 0), wS ct (g 3) (sl 1), wV ct g b26, wS ct (g 5) (r27 0), wS ct (g 6) (r27 1), wS ct (g 7) (r27 2), wS ct (g 8) (r27 3), wS ct (g 9) (r27 4), wS ct (g 10) (r27 5), wT ct (g 11) tx, wL ct (g 12) y, wO ct (g 13) o, wR ct (g 14) x, wM ct am w33 hs, wQ ct qa ou28]) (fun _ => fl [wC ct g kc, wS ct (g 1) v25, wS ct (g 2) (sl 0), wS ct (g 3) (sl 1), wV ct g b26, wS ct (g 5) (r27 0), wS ct (g 6) (r27 1), wS ct (g 7) (r27 2), wS ct (g 8) (r27 3), wS ct (g 9) (r27 4), wS ct (g 10) (r27 5), wT ct (g 11) tx, wL ct (g 12) y, wO ct (g 13) o, wR ct (g 14) x, wM ct am w33 hs, wQ ct qa ou28]) 17 [15] [0, 1, 2, 3, 4, 5, 6, 7, 8, 9, 10, 11, 12, 13, 14, 16] 0 (kX8_thrown l D ct am w33 hs _ hw) (cwV 0 X.1.2.2.2.2 gL_law_X8_thrown rfl rfl rfl (by decide +kernel) ⟨Nat.le_of_ble_eq_true rfl, Nat.le_of_ble_eq_true rfl⟩) dL_law_238 rfl rfl (Nat.le_of_ble_eq_true rfl) ⟨by show _ ≤ 601024; omega, by show _ ≤ 7293034; omega⟩ rfl rfl rfl (by decide) (fun _ => rfl) (fun _ => lq_15) (fun _ => rfl) (fun _ => rfl) rfl rfl rfl (fun r34 _ hw => ?_)
  refine g_iload X 1 dL_law_241 rfl ?_
  refine g_icmp_eq X 248 dL_law_243 (by decide) (fun c36 => ?_) (fun c36 => ?_)
  · replace hw := hw.1 c36
    refine g_iload X 1 dL_law_248 rfl ?_
    refine g_if_ne X 265 dL_law_250 (by decide) (fun c37 => ?_) (fun c37 => ?_)
    · replace hw := hw.1 c37
      refine g_goto X 1318 dL_law_265 (by decide) ?_
      refine g_iinc X [(4, .int (x4 + 3)), (6, .int r31), (5, .int r23), (0, .ref sb), (1, .ref (g 0 0)), (2, .ref (am 0)), (3, .ref (qa 0))] 6 dL_law_1318 rfl rfl (by decide) rfl ?_
      refine g_goto X 23 dL_law_1321 (by decide) ?_
      refine g_sub [(0, .ref sb), (1, .ref (g 0 0)), (2, .ref (am 0)), (3, .ref (qa 0)), (4, .int (x4 + 3))] [3, 4, 5, 6, 0] rfl ?_
      refine g_wide (k2 := 117 + (513 - n)) (j2 := 2344 + 6 * (513 - n)) (by omega) (by omega) ?_
      exact ih (by omega) _ _ _ _ _ _ _ _ _ _ _ _ _ hw
    · replace hw := hw.2 c37
      refine g_aload_n X 5 dL_law_253 rfl rfl ?_
      refine g_iconst (v := 0) X rfl dL_law_254 ?_
      refine g_lald X 116 4 dL_law_255 rfl rfl (vp_in_nI (n := 0) (by decide) (by decide)) ?_
      refine g_iload X 0 dL_law_256 rfl ?_
      refine g_i2l X dL_law_258 ?_
      refine g_lcmp X dL_law_259 ?_
      refine g_if_eq X 265 dL_law_260 (by decide) (fun c38 => ?_) (fun c38 => ?_)
      · replace hw := hw.1 c38
        refine g_goto X 1318 dL_law_265 (by decide) ?_
        refine g_iinc X [(4, .int (x4 + 3)), (6, .int r31), (5, .int r23), (0, .ref sb), (1, .ref (g 0 0)), (2, .ref (am 0)), (3, .ref (qa 0))] 6 dL_law_1318 rfl rfl (by decide) rfl ?_
        refine g_goto X 23 dL_law_1321 (by decide) ?_
        refine g_sub [(0, .ref sb), (1, .ref (g 0 0)), (2, .ref (am 0)), (3, .ref (qa 0)), (4, .int (x4 + 3))] [3, 4, 5, 6, 0] rfl ?_
        refine g_wide (k2 := 117 + (513 - n)) (j2 := 2344 + 6 * (513 - n)) (by omega) (by omega) ?_
        exact ih (by omega) _ _ _ _ _ _ _ _ _ _ _ _ _ hw
      · replace hw := hw.2 c38
        refine g_iconst (v := 0) X rfl dL_law_263 ?_
        exact hw.elim
  · replace hw := hw.2 c36
    refine g_iconst (v := 0) X rfl dL_law_246 ?_
    exact hw.elim
set_option maxHeartbeats 20000000 in
set_option maxRecDepth 20000 in
theorem kL_arm_2 {p : Program} {l : Launch} {e : Env} {s : State} {m : MethodId} {args : Array Value} {below : List Frame} {meth : Method} {c : Code} {D : va_G} {ct : Nat → ClassId} {A : Nat → Prop} {Q : State → Prop} {sb L : Nat} {xs : Nat → Int32} {g : Nat → Nat → Nat} {am qa : Nat → Nat} (hl9 : l.stackTraces = false) (X : Cx p s m args meth c cL_law 9 RL wsL_law D (tyz ct) A s.heap ret) (XX : XL A s) (hX : va_X sb L xs s s.heap) (hbl : sb < s.heap.size) (hbA : ¬ A sb) (hend : ∀ (k j : Nat) (w : va_W) (lv : List (Nat × Value)), k ≤ 601024 → j ≤ 7293034 → GG p l e room_1 s m args below meth c D A s.heap 9 Q (w) (k) (j) lv 1325 [.int 1])  {n : Nat} (ih : n ≤ 513 → ∀ (kc : Mem) (v : Mem) (sl : Nat → Mem) (b : Mem) (r : Nat → Mem) (tx : Mem) (y : Mem) (o : Mem) (x : Mem) (w : Mem) (hs : Int64) (ou : Nat → Int64) (x4 : Int32), PL_law_23 xs L n kc v sl b r tx y o x w hs ou x4 → GG p l e room_1 s m args below meth c D A s.heap 9 Q (fl [wC ct g kc, wS ct (g 1) v, wS ct (g 2) (sl 0), wS ct (g 3) (sl 1), wV ct g b, wS ct (g 5) (r 0), wS ct (g 6) (r 1), wS ct (g 7) (r 2), wS ct (g 8) (r 3), wS ct (g 9) (r 4), wS ct (g 10) (r 5), wT ct (g 11) tx, wL ct (g 12) y, wO ct (g 13) o, wR ct (g 14) x, wM ct am w hs, wQ ct qa ou]) (117 + (513 - n)) (2344 + 6 * (513 - n)) [(0, .ref sb), (1, .ref (g 0 0)), (2, .ref (am 0)), (3, .ref (qa 0)), (4, .int x4)] 23 []) (hn9 : n + 1 ≤ 513) (kc : Mem) (v : Mem) (sl : Nat → Mem) (b : Mem) (r : Nat → Mem) (tx : Mem) (y : Mem) (o : Mem) (x : Mem) (w : Mem) (hs : Int64) (ou : Nat → Int64) (x4 : Int32) (c39 : ((xs (ix x4)) &&& 31) = 2) (hw : vp_in (x4 + 1) L ∧ PL_child kc v b r ou (xs (ix (x4 + 1))) (fun r41 v43 b44 r45 ou46 => vp_in (x4 + 1) L ∧ PX8_child w hs (xs (ix (x4 + 1))) (fun r48 w50 => PX8_thrown w50 hs (fun r51 => ((r51 = r41) → ((¬ r41 = 0) → PL_law_23 xs L n kc v43 sl b44 r45 tx y o x w50 hs ou46 (x4 + 3)) ∧ ((r41 = 0) → (((lg_cmp (ou46 0) r48.toInt64) = 0) → PL_law_23 xs L n kc v43 sl b44 r45 tx y o x w50 hs ou46 (x4 + 3)) ∧ ((¬ (lg_cmp (ou46 0) r48.toInt64) = 0) → False))) ∧ ((¬ r51 = r41) → False))))) : GG p l e room_1 s m args below meth c D A s.heap 9 Q (fl [wC ct g kc, wS ct (g 1) v, wS ct (g 2) (sl 0), wS ct (g 3) (sl 1), wV ct g b, wS ct (g 5) (r 0), wS ct (g 6) (r 1), wS ct (g 7) (r 2), wS ct (g 8) (r 3), wS ct (g 9) (r 4), wS ct (g 10) (r 5), wT ct (g 11) tx, wL ct (g 12) y, wO ct (g 13) o, wR ct (g 14) x, wM ct am w hs, wQ ct qa ou]) (117 + (513 - (n + 1))) (2344 + 6 * (513 - (n + 1))) [(0, .ref sb), (1, .ref (g 0 0)), (2, .ref (am 0)), (3, .ref (qa 0)), (4, .int x4)] 268 [] := by
  refine g_aload_n X 1 dL_law_268 rfl rfl ?_
  refine g_aload_n X 0 dL_law_269 rfl rfl ?_
  refine g_iload X 4 dL_law_270 rfl ?_
  refine g_iconst (v := 1) X rfl dL_law_272 ?_
  refine g_iadd X dL_law_273 ?_
  obtain ⟨h40, hw⟩ := hw
  refine g_sld X hX hbl hbA h40 dL_law_274 ?_
  refine g_aload_n X 3 dL_law_275 rfl rfl ?_
  refine g_chS X XX [wC ct g kc, wS ct (g 1) v, wS ct (g 2) (sl 0), wS ct (g 3) (sl 1), wV ct g b, wS ct (g 5) (r 0), wS ct (g 6) (r 1), wS ct (g 7) (r 2), wS ct (g 8) (r 3), wS ct (g 9) (r 4), wS ct (g 10) (r 5), wT ct (g 11) tx, wL ct (g 12) y, wO ct (g 13) o, wR ct (g 14) x, wM ct am w hs, wQ ct qa ou] (fun (u42 : Mem × Mem × (Nat → Mem) × (Nat → Int64)) => [wC ct g kc, wS ct (g 1) u42.1, wS ct (g 2) (sl 0), wS ct (g 3) (sl 1), wV ct g u42.2.1, wS ct (g 5) (u42.2.2.1 0), wS ct (g 6) (u42.2.2.1 1), wS ct (g 7) (u42.2.2.1 2), wS ct (g 8) (u42.2.2.1 3), wS ct (g 9) (u42.2.2.1 4), wS ct (g 10) (u42.2.2.1 5), wT ct (g 11) tx, wL ct (g 12) y, wO ct (g 13) o, wR ct (g 14) x, wM ct am w hs, wQ ct qa u42.2.2.2]) (fun (u42 : Mem × Mem × (Nat → Mem) × (Nat → Int64)) => fl [wC ct g kc, wS ct (g 1) u42.1, wS ct (g 2) (sl 0), wS ct (g 3) (sl 1), wV ct g u42.2.1, wS ct (g 5) (u42.2.2.1 0), wS ct (g 6) (u42.2.2.1 1), wS ct (g 7) (u42.2.2.1 2), wS ct (g 8) (u42.2.2.1 3), wS ct (g 9) (u42.2.2.1 4), wS ct (g 10) (u42.2.2.1 5), wT ct (g 11) tx, wL ct (g 12) y, wO ct (g 13) o, wR ct (g 14) x, wM ct am w hs, wQ ct qa u42.2.2.2]) 17 [0, 1, 4, 5, 6, 7, 8, 9, 10, 16] [2, 3, 11, 12, 13, 14, 15] (kL_child l hl9 D ct g qa kc v b r ou (xs (ix (x4 + 1))) _ hw) (vx_cwSW 3 X.1.2.2.2.2 gL_law_L_child rfl rfl rfl (by decide +kernel) ⟨Nat.le_of_ble_eq_true rfl, Nat.le_of_ble_eq_true rfl⟩) dL_law_276 rfl rfl (Nat.le_of_ble_eq_true rfl) ⟨by show _ ≤ 601024; omega, by show _ ≤ 7293034; omega⟩ rfl rfl rfl (by decide) (fun _ => rfl) (fun _ => lq_0_1_4_5_6_7_8_9_10_16) (fun _ => rfl) (fun _ => rfl) (fun r41 u42 hw => ?_)
  obtain ⟨v43, hv43⟩ : ∃ z : Mem, z = u42.1 := ⟨_, rfl⟩
  rw [← hv43] at hw
  rw [← hv43]
  obtain ⟨b44, hb44⟩ : ∃ z : Mem, z = u42.2.1 := ⟨_, rfl⟩
  rw [← hb44] at hw
  rw [← hb44]
  obtain ⟨r45, hr45⟩ : ∃ z : Nat → Mem, z = u42.2.2.1 := ⟨_, rfl⟩
  rw [← hr45] at hw
  rw [← hr45]
  obtain ⟨ou46, hou46⟩ : ∃ z : Nat → Int64, z = u42.2.2.2 := ⟨_, rfl⟩
  rw [← hou46] at hw
  rw [← hou46]
  refine g_istore X [(5, .int r41), (0, .ref sb), (1, .ref (g 0 0)), (2, .ref (am 0)), (3, .ref (qa 0)), (4, .int x4)] dL_law_279 (by decide) rfl ?_
  refine g_aload_n X 3 dL_law_281 rfl rfl ?_
  refine g_aload_n X 1 dL_law_282 rfl rfl ?_
  refine g_iload X 5 dL_law_283 rfl ?_
  refine g_iconst (v := 1) X rfl dL_law_285 ?_
  refine g_iadd X dL_law_286 ?_
  obtain ⟨h47, hw⟩ := hw
  refine g_sld X hX hbl hbA h47 dL_law_287 ?_
  refine g_ciV X [wC ct g kc, wS ct (g 1) v43, wS ct (g 2) (sl 0), wS ct (g 3) (sl 1), wV ct g b44, wS ct (g 5) (r45 0), wS ct (g 6) (r45 1), wS ct (g 7) (r45 2), wS ct (g 8) (r45 3), wS ct (g 9) (r45 4), wS ct (g 10) (r45 5), wT ct (g 11) tx, wL ct (g 12) y, wO ct (g 13) o, wR ct (g 14) x, wM ct am w hs, wQ ct qa ou46] (fun (u49 : Mem) => [wC ct g kc, wS ct (g 1) v43, wS ct (g 2) (sl 0), wS ct (g 3) (sl 1), wV ct g b44, wS ct (g 5) (r45 0), wS ct (g 6) (r45 1), wS ct (g 7) (r45 2), wS ct (g 8) (r45 3), wS ct (g 9) (r45 4), wS ct (g 10) (r45 5), wT ct (g 11) tx, wL ct (g 12) y, wO ct (g 13) o, wR ct (g 14) x, wM ct am u49 hs, wQ ct qa ou46]) (fun (u49 : Mem) => fl [wC ct g kc, wS ct (g 1) v43, wS ct (g 2) (sl 0), wS ct (g 3) (sl 1), wV ct g b44, wS ct (g 5) (r45 0), wS ct (g 6) (r45 1), wS ct (g 7) (r45 2), wS ct (g 8) (r45 3), wS ct (g 9) (r45 4), wS ct (g 10) (r45 5), wT ct (g 11) tx, wL ct (g 12) y, wO ct (g 13) o, wR ct (g 14) x, wM ct am u49 hs, wQ ct qa ou46]) 17 [15] [0, 1, 2, 3, 4, 5, 6, 7, 8, 9, 10, 11, 12, 13, 14, 16] 0 (kX8_child l D ct am w hs (xs (ix (x4 + 1))) _ hw) (cwV 1 X.1.2.2.2.2 gL_law_X8_child rfl rfl rfl (by decide +kernel) ⟨Nat.le_of_ble_eq_true rfl, Nat.le_of_ble_eq_true rfl⟩) dL_law_288 rfl rfl (Nat.le_of_ble_eq_true rfl) ⟨by show _ ≤ 601024; omega, by show _ ≤ 7293034; omega⟩ rfl rfl rfl (by decide) (fun _ => rfl) (fun _ => lq_15) (fun _ => rfl) (fun _ => rfl) rfl rfl rfl (fun r48 u49 hw => ?_)
  obtain ⟨w50, hw50⟩ : ∃ z : Mem, z = u49 := ⟨_, rfl⟩
  rw [← hw50] at hw
  rw [← hw50]
  refine g_istore X [(6, .int r48), (5, .int r41), (0, .ref sb), (1, .ref (g 0 0)), (2, .ref (am 0)), (3, .ref (qa 0)), (4, .int x4)] dL_law_291 (by decide) rfl ?_
  refine g_aload_n X 4 dL_law_293 rfl rfl ?_
  refine g_ciV X [wC ct g kc, wS ct (g 1) v43, wS ct (g 2) (sl 0), wS ct (g 3) (sl 1), wV ct g b44, wS ct (g 5) (r45 0), wS ct (g 6) (r45 1), wS ct (g 7) (r45 2), wS ct (g 8) (r45 3), wS ct (g 9) (r45 4), wS ct (g 10) (r45 5), wT ct (g 11) tx, wL ct (g 12) y, wO ct (g 13) o, wR ct (g 14) x, wM ct am w50 hs, wQ ct qa ou46] (fun (_ : Unit) => [wC ct g kc, wS ct (g 1) v43, wS ct (g 2) (sl 0), wS ct (g 3) (sl 1), wV ct g b44, wS ct (g 5) (r45 0), wS ct (g 6) (r45 1), wS ct (g 7) (r45 2), wS ct (g 8) (r45 3), wS ct (g 9) (r45 4), wS ct (g 10) (r45 5), wT ct (g 11) tx, wL ct (g 12) y, wO ct (g 13) o, wR ct (g 14) x, wM ct am w50 hs, wQ ct qa ou46]) (fun _ => fl [wC ct g kc, wS ct (g 1) v43, wS ct (g 2) (sl 0), wS ct (g 3) (sl 1), wV ct g b44, wS ct (g 5) (r45 0), wS ct (g 6) (r45 1), wS ct (g 7) (r45 2), wS ct (g 8) (r45 3), wS ct (g 9) (r45 4), wS ct (g 10) (r45 5), wT ct (g 11) tx, wL ct (g 12) y, wO ct (g 13) o, wR ct (g 14) x, wM ct am w50 hs, wQ ct qa ou46]) 17 [15] [0, 1, 2, 3, 4, 5, 6, 7, 8, 9, 10, 11, 12, 13, 14, 16] 0 (kX8_thrown l D ct am w50 hs _ hw) (cwV 0 X.1.2.2.2.2 gL_law_X8_thrown rfl rfl rfl (by decide +kernel) ⟨Nat.le_of_ble_eq_true rfl, Nat.le_of_ble_eq_true rfl⟩) dL_law_294 rfl rfl (Nat.le_of_ble_eq_true rfl) ⟨by show _ ≤ 601024; omega, by show _ ≤ 7293034; omega⟩ rfl rfl rfl (by decide) (fun _ => rfl) (fun _ => lq_15) (fun _ => rfl) (fun _ => rfl) rfl rfl rfl (fun r51 _ hw => ?_)
  refine g_iload X 1 dL_law_297 rfl ?_
  refine g_icmp_eq X 304 dL_law_299 (by decide) (fun c53 => ?_) (fun c53 => ?_)
  · replace hw := hw.1 c53
    refine g_iload X 1 dL_law_304 rfl ?_
    refine g_if_ne X 321 dL_law_306 (by decide) (fun c54 => ?_) (fun c54 => ?_)
    · replace hw := hw.1 c54
      refine g_goto X 1318 dL_law_321 (by decide) ?_
      refine g_iinc X [(4, .int (x4 + 3)), (6, .int r48), (5, .int r41), (0, .ref sb), (1, .ref (g 0 0)), (2, .ref (am 0)), (3, .ref (qa 0))] 6 dL_law_1318 rfl rfl (by decide) rfl ?_
      refine g_goto X 23 dL_law_1321 (by decide) ?_
      refine g_sub [(0, .ref sb), (1, .ref (g 0 0)), (2, .ref (am 0)), (3, .ref (qa 0)), (4, .int (x4 + 3))] [3, 4, 5, 6, 0] rfl ?_
      refine g_wide (k2 := 117 + (513 - n)) (j2 := 2344 + 6 * (513 - n)) (by omega) (by omega) ?_
      exact ih (by omega) _ _ _ _ _ _ _ _ _ _ _ _ _ hw
    · replace hw := hw.2 c54
      refine g_aload_n X 5 dL_law_309 rfl rfl ?_
      refine g_iconst (v := 0) X rfl dL_law_310 ?_
      refine g_lald X 116 4 dL_law_311 rfl rfl (vp_in_nI (n := 0) (by decide) (by decide)) ?_
      refine g_iload X 0 dL_law_312 rfl ?_
      refine g_i2l X dL_law_314 ?_
      refine g_lcmp X dL_law_315 ?_
      refine g_if_eq X 321 dL_law_316 (by decide) (fun c55 => ?_) (fun c55 => ?_)
      · replace hw := hw.1 c55
        refine g_goto X 1318 dL_law_321 (by decide) ?_
        refine g_iinc X [(4, .int (x4 + 3)), (6, .int r48), (5, .int r41), (0, .ref sb), (1, .ref (g 0 0)), (2, .ref (am 0)), (3, .ref (qa 0))] 6 dL_law_1318 rfl rfl (by decide) rfl ?_
        refine g_goto X 23 dL_law_1321 (by decide) ?_
        refine g_sub [(0, .ref sb), (1, .ref (g 0 0)), (2, .ref (am 0)), (3, .ref (qa 0)), (4, .int (x4 + 3))] [3, 4, 5, 6, 0] rfl ?_
        refine g_wide (k2 := 117 + (513 - n)) (j2 := 2344 + 6 * (513 - n)) (by omega) (by omega) ?_
        exact ih (by omega) _ _ _ _ _ _ _ _ _ _ _ _ _ hw
      · replace hw := hw.2 c55
        refine g_iconst (v := 0) X rfl dL_law_319 ?_
        exact hw.elim
  · replace hw := hw.2 c53
    refine g_iconst (v := 0) X rfl dL_law_302 ?_
    exact hw.elim
set_option maxHeartbeats 20000000 in
set_option maxRecDepth 20000 in
theorem kL_arm_3 {p : Program} {l : Launch} {e : Env} {s : State} {m : MethodId} {args : Array Value} {below : List Frame} {meth : Method} {c : Code} {D : va_G} {ct : Nat → ClassId} {A : Nat → Prop} {Q : State → Prop} {sb L : Nat} {xs : Nat → Int32} {g : Nat → Nat → Nat} {am qa : Nat → Nat} (hl9 : l.stackTraces = false) (X : Cx p s m args meth c cL_law 9 RL wsL_law D (tyz ct) A s.heap ret) (XX : XL A s) (hX : va_X sb L xs s s.heap) (hbl : sb < s.heap.size) (hbA : ¬ A sb) (hend : ∀ (k j : Nat) (w : va_W) (lv : List (Nat × Value)), k ≤ 601024 → j ≤ 7293034 → GG p l e room_1 s m args below meth c D A s.heap 9 Q (w) (k) (j) lv 1325 [.int 1])  {n : Nat} (ih : n ≤ 513 → ∀ (kc : Mem) (v : Mem) (sl : Nat → Mem) (b : Mem) (r : Nat → Mem) (tx : Mem) (y : Mem) (o : Mem) (x : Mem) (w : Mem) (hs : Int64) (ou : Nat → Int64) (x4 : Int32), PL_law_23 xs L n kc v sl b r tx y o x w hs ou x4 → GG p l e room_1 s m args below meth c D A s.heap 9 Q (fl [wC ct g kc, wS ct (g 1) v, wS ct (g 2) (sl 0), wS ct (g 3) (sl 1), wV ct g b, wS ct (g 5) (r 0), wS ct (g 6) (r 1), wS ct (g 7) (r 2), wS ct (g 8) (r 3), wS ct (g 9) (r 4), wS ct (g 10) (r 5), wT ct (g 11) tx, wL ct (g 12) y, wO ct (g 13) o, wR ct (g 14) x, wM ct am w hs, wQ ct qa ou]) (117 + (513 - n)) (2344 + 6 * (513 - n)) [(0, .ref sb), (1, .ref (g 0 0)), (2, .ref (am 0)), (3, .ref (qa 0)), (4, .int x4)] 23 []) (hn9 : n + 1 ≤ 513) (kc : Mem) (v : Mem) (sl : Nat → Mem) (b : Mem) (r : Nat → Mem) (tx : Mem) (y : Mem) (o : Mem) (x : Mem) (w : Mem) (hs : Int64) (ou : Nat → Int64) (x4 : Int32) (c56 : ((xs (ix x4)) &&& 31) = 3) (hw : vp_in (x4 + 1) L ∧ vp_in (x4 + 2) L ∧ PL_swap kc v b r y ou (xs (ix (x4 + 1))) (xs (ix (x4 + 2))) (fun r59 v61 b62 r63 y64 ou65 => vp_in (x4 + 1) L ∧ vp_in (x4 + 2) L ∧ PX8_swap w hs (xs (ix (x4 + 1))) (xs (ix (x4 + 2))) (fun r68 w70 => PX8_thrown w70 hs (fun r71 => ((r71 = r59) → ((¬ r59 = 0) → PL_law_23 xs L n kc v61 sl b62 r63 tx y64 o x w70 hs ou65 (x4 + 3)) ∧ ((r59 = 0) → (((lg_cmp (ou65 0) r68.toInt64) = 0) → PL_law_23 xs L n kc v61 sl b62 r63 tx y64 o x w70 hs ou65 (x4 + 3)) ∧ ((¬ (lg_cmp (ou65 0) r68.toInt64) = 0) → False))) ∧ ((¬ r71 = r59) → False))))) : GG p l e room_1 s m args below meth c D A s.heap 9 Q (fl [wC ct g kc, wS ct (g 1) v, wS ct (g 2) (sl 0), wS ct (g 3) (sl 1), wV ct g b, wS ct (g 5) (r 0), wS ct (g 6) (r 1), wS ct (g 7) (r 2), wS ct (g 8) (r 3), wS ct (g 9) (r 4), wS ct (g 10) (r 5), wT ct (g 11) tx, wL ct (g 12) y, wO ct (g 13) o, wR ct (g 14) x, wM ct am w hs, wQ ct qa ou]) (117 + (513 - (n + 1))) (2344 + 6 * (513 - (n + 1))) [(0, .ref sb), (1, .ref (g 0 0)), (2, .ref (am 0)), (3, .ref (qa 0)), (4, .int x4)] 324 [] := by
  refine g_aload_n X 1 dL_law_324 rfl rfl ?_
  refine g_aload_n X 0 dL_law_325 rfl rfl ?_
  refine g_iload X 4 dL_law_326 rfl ?_
  refine g_iconst (v := 1) X rfl dL_law_328 ?_
  refine g_iadd X dL_law_329 ?_
  obtain ⟨h57, hw⟩ := hw
  refine g_sld X hX hbl hbA h57 dL_law_330 ?_
  refine g_aload_n X 0 dL_law_331 rfl rfl ?_
  refine g_iload X 4 dL_law_332 rfl ?_
  refine g_iconst (v := 2) X rfl dL_law_334 ?_
  refine g_iadd X dL_law_335 ?_
  obtain ⟨h58, hw⟩ := hw
  refine g_sld X hX hbl hbA h58 dL_law_336 ?_
  refine g_aload_n X 3 dL_law_337 rfl rfl ?_
  refine g_chS X XX [wC ct g kc, wS ct (g 1) v, wS ct (g 2) (sl 0), wS ct (g 3) (sl 1), wV ct g b, wS ct (g 5) (r 0), wS ct (g 6) (r 1), wS ct (g 7) (r 2), wS ct (g 8) (r 3), wS ct (g 9) (r 4), wS ct (g 10) (r 5), wT ct (g 11) tx, wL ct (g 12) y, wO ct (g 13) o, wR ct (g 14) x, wM ct am w hs, wQ ct qa ou] (fun (u60 : Mem × Mem × (Nat → Mem) × Mem × (Nat → Int64)) => [wC ct g kc, wS ct (g 1) u60.1, wS ct (g 2) (sl 0), wS ct (g 3) (sl 1), wV ct g u60.2.1, wS ct (g 5) (u60.2.2.1 0), wS ct (g 6) (u60.2.2.1 1), wS ct (g 7) (u60.2.2.1 2), wS ct (g 8) (u60.2.2.1 3), wS ct (g 9) (u60.2.2.1 4), wS ct (g 10) (u60.2.2.1 5), wT ct (g 11) tx, wL ct (g 12) u60.2.2.2.1, wO ct (g 13) o, wR ct (g 14) x, wM ct am w hs, wQ ct qa u60.2.2.2.2]) (fun (u60 : Mem × Mem × (Nat → Mem) × Mem × (Nat → Int64)) => fl [wC ct g kc, wS ct (g 1) u60.1, wS ct (g 2) (sl 0), wS ct (g 3) (sl 1), wV ct g u60.2.1, wS ct (g 5) (u60.2.2.1 0), wS ct (g 6) (u60.2.2.1 1), wS ct (g 7) (u60.2.2.1 2), wS ct (g 8) (u60.2.2.1 3), wS ct (g 9) (u60.2.2.1 4), wS ct (g 10) (u60.2.2.1 5), wT ct (g 11) tx, wL ct (g 12) u60.2.2.2.1, wO ct (g 13) o, wR ct (g 14) x, wM ct am w hs, wQ ct qa u60.2.2.2.2]) 17 [0, 1, 4, 5, 6, 7, 8, 9, 10, 12, 16] [2, 3, 11, 13, 14, 15] (kL_swap l hl9 D ct g qa kc v b r y ou (xs (ix (x4 + 1))) (xs (ix (x4 + 2))) _ hw) (vx_cwSW 4 X.1.2.2.2.2 gL_law_L_swap rfl rfl rfl (by decide +kernel) ⟨Nat.le_of_ble_eq_true rfl, Nat.le_of_ble_eq_true rfl⟩) dL_law_338 rfl rfl (Nat.le_of_ble_eq_true rfl) ⟨by show _ ≤ 601024; omega, by show _ ≤ 7293034; omega⟩ rfl rfl rfl (by decide) (fun _ => rfl) (fun _ => lq_0_1_4_5_6_7_8_9_10_12_16) (fun _ => rfl) (fun _ => rfl) (fun r59 u60 hw => ?_)
  obtain ⟨v61, hv61⟩ : ∃ z : Mem, z = u60.1 := ⟨_, rfl⟩
  rw [← hv61] at hw
  rw [← hv61]
  obtain ⟨b62, hb62⟩ : ∃ z : Mem, z = u60.2.1 := ⟨_, rfl⟩
  rw [← hb62] at hw
  rw [← hb62]
  obtain ⟨r63, hr63⟩ : ∃ z : Nat → Mem, z = u60.2.2.1 := ⟨_, rfl⟩
  rw [← hr63] at hw
  rw [← hr63]
  obtain ⟨y64, hy64⟩ : ∃ z : Mem, z = u60.2.2.2.1 := ⟨_, rfl⟩
  rw [← hy64] at hw
  rw [← hy64]
  obtain ⟨ou65, hou65⟩ : ∃ z : Nat → Int64, z = u60.2.2.2.2 := ⟨_, rfl⟩
  rw [← hou65] at hw
  rw [← hou65]
  refine g_istore X [(5, .int r59), (0, .ref sb), (1, .ref (g 0 0)), (2, .ref (am 0)), (3, .ref (qa 0)), (4, .int x4)] dL_law_341 (by decide) rfl ?_
  refine g_aload_n X 3 dL_law_343 rfl rfl ?_
  refine g_aload_n X 1 dL_law_344 rfl rfl ?_
  refine g_iload X 5 dL_law_345 rfl ?_
  refine g_iconst (v := 1) X rfl dL_law_347 ?_
  refine g_iadd X dL_law_348 ?_
  obtain ⟨h66, hw⟩ := hw
  refine g_sld X hX hbl hbA h66 dL_law_349 ?_
  refine g_aload_n X 1 dL_law_350 rfl rfl ?_
  refine g_iload X 5 dL_law_351 rfl ?_
  refine g_iconst (v := 2) X rfl dL_law_353 ?_
  refine g_iadd X dL_law_354 ?_
  obtain ⟨h67, hw⟩ := hw
  refine g_sld X hX hbl hbA h67 dL_law_355 ?_
  refine g_ciV X [wC ct g kc, wS ct (g 1) v61, wS ct (g 2) (sl 0), wS ct (g 3) (sl 1), wV ct g b62, wS ct (g 5) (r63 0), wS ct (g 6) (r63 1), wS ct (g 7) (r63 2), wS ct (g 8) (r63 3), wS ct (g 9) (r63 4), wS ct (g 10) (r63 5), wT ct (g 11) tx, wL ct (g 12) y64, wO ct (g 13) o, wR ct (g 14) x, wM ct am w hs, wQ ct qa ou65] (fun (u69 : Mem) => [wC ct g kc, wS ct (g 1) v61, wS ct (g 2) (sl 0), wS ct (g 3) (sl 1), wV ct g b62, wS ct (g 5) (r63 0), wS ct (g 6) (r63 1), wS ct (g 7) (r63 2), wS ct (g 8) (r63 3), wS ct (g 9) (r63 4), wS ct (g 10) (r63 5), wT ct (g 11) tx, wL ct (g 12) y64, wO ct (g 13) o, wR ct (g 14) x, wM ct am u69 hs, wQ ct qa ou65]) (fun (u69 : Mem) => fl [wC ct g kc, wS ct (g 1) v61, wS ct (g 2) (sl 0), wS ct (g 3) (sl 1), wV ct g b62, wS ct (g 5) (r63 0), wS ct (g 6) (r63 1), wS ct (g 7) (r63 2), wS ct (g 8) (r63 3), wS ct (g 9) (r63 4), wS ct (g 10) (r63 5), wT ct (g 11) tx, wL ct (g 12) y64, wO ct (g 13) o, wR ct (g 14) x, wM ct am u69 hs, wQ ct qa ou65]) 17 [15] [0, 1, 2, 3, 4, 5, 6, 7, 8, 9, 10, 11, 12, 13, 14, 16] 0 (kX8_swap l D ct am w hs (xs (ix (x4 + 1))) (xs (ix (x4 + 2))) _ hw) (cwV 2 X.1.2.2.2.2 gL_law_X8_swap rfl rfl rfl (by decide +kernel) ⟨Nat.le_of_ble_eq_true rfl, Nat.le_of_ble_eq_true rfl⟩) dL_law_356 rfl rfl (Nat.le_of_ble_eq_true rfl) ⟨by show _ ≤ 601024; omega, by show _ ≤ 7293034; omega⟩ rfl rfl rfl (by decide) (fun _ => rfl) (fun _ => lq_15) (fun _ => rfl) (fun _ => rfl) rfl rfl rfl (fun r68 u69 hw => ?_)
  obtain ⟨w70, hw70⟩ : ∃ z : Mem, z = u69 := ⟨_, rfl⟩
  rw [← hw70] at hw
  rw [← hw70]
  refine g_istore X [(6, .int r68), (5, .int r59), (0, .ref sb), (1, .ref (g 0 0)), (2, .ref (am 0)), (3, .ref (qa 0)), (4, .int x4)] dL_law_359 (by decide) rfl ?_
  refine g_aload_n X 4 dL_law_361 rfl rfl ?_
  refine g_ciV X [wC ct g kc, wS ct (g 1) v61, wS ct (g 2) (sl 0), wS ct (g 3) (sl 1), wV ct g b62, wS ct (g 5) (r63 0), wS ct (g 6) (r63 1), wS ct (g 7) (r63 2), wS ct (g 8) (r63 3), wS ct (g 9) (r63 4), wS ct (g 10) (r63 5), wT ct (g 11) tx, wL ct (g 12) y64, wO ct (g 13) o, wR ct (g 14) x, wM ct am w70 hs, wQ ct qa ou65] (fun (_ : Unit) => [wC ct g kc, wS ct (g 1) v61, wS ct (g 2) (sl 0), wS ct (g 3) (sl 1), wV ct g b62, wS ct (g 5) (r63 0), wS ct (g 6) (r63 1), wS ct (g 7) (r63 2), wS ct (g 8) (r63 3), wS ct (g 9) (r63 4), wS ct (g 10) (r63 5), wT ct (g 11) tx, wL ct (g 12) y64, wO ct (g 13) o, wR ct (g 14) x, wM ct am w70 hs, wQ ct qa ou65]) (fun _ => fl [wC ct g kc, wS ct (g 1) v61, wS ct (g 2) (sl 0), wS ct (g 3) (sl 1), wV ct g b62, wS ct (g 5) (r63 0), wS ct (g 6) (r63 1), wS ct (g 7) (r63 2), wS ct (g 8) (r63 3), wS ct (g 9) (r63 4), wS ct (g 10) (r63 5), wT ct (g 11) tx, wL ct (g 12) y64, wO ct (g 13) o, wR ct (g 14) x, wM ct am w70 hs, wQ ct qa ou65]) 17 [15] [0, 1, 2, 3, 4, 5, 6, 7, 8, 9, 10, 11, 12, 13, 14, 16] 0 (kX8_thrown l D ct am w70 hs _ hw) (cwV 0 X.1.2.2.2.2 gL_law_X8_thrown rfl rfl rfl (by decide +kernel) ⟨Nat.le_of_ble_eq_true rfl, Nat.le_of_ble_eq_true rfl⟩) dL_law_362 rfl rfl (Nat.le_of_ble_eq_true rfl) ⟨by show _ ≤ 601024; omega, by show _ ≤ 7293034; omega⟩ rfl rfl rfl (by decide) (fun _ => rfl) (fun _ => lq_15) (fun _ => rfl) (fun _ => rfl) rfl rfl rfl (fun r71 _ hw => ?_)
  refine g_iload X 1 dL_law_365 rfl ?_
  refine g_icmp_eq X 372 dL_law_367 (by decide) (fun c73 => ?_) (fun c73 => ?_)
  · replace hw := hw.1 c73
    refine g_iload X 1 dL_law_372 rfl ?_
    refine g_if_ne X 389 dL_law_374 (by decide) (fun c74 => ?_) (fun c74 => ?_)
    · replace hw := hw.1 c74
      refine g_goto X 1318 dL_law_389 (by decide) ?_
      refine g_iinc X [(4, .int (x4 + 3)), (6, .int r68), (5, .int r59), (0, .ref sb), (1, .ref (g 0 0)), (2, .ref (am 0)), (3, .ref (qa 0))] 6 dL_law_1318 rfl rfl (by decide) rfl ?_
      refine g_goto X 23 dL_law_1321 (by decide) ?_
      refine g_sub [(0, .ref sb), (1, .ref (g 0 0)), (2, .ref (am 0)), (3, .ref (qa 0)), (4, .int (x4 + 3))] [3, 4, 5, 6, 0] rfl ?_
      refine g_wide (k2 := 117 + (513 - n)) (j2 := 2344 + 6 * (513 - n)) (by omega) (by omega) ?_
      exact ih (by omega) _ _ _ _ _ _ _ _ _ _ _ _ _ hw
    · replace hw := hw.2 c74
      refine g_aload_n X 5 dL_law_377 rfl rfl ?_
      refine g_iconst (v := 0) X rfl dL_law_378 ?_
      refine g_lald X 116 4 dL_law_379 rfl rfl (vp_in_nI (n := 0) (by decide) (by decide)) ?_
      refine g_iload X 0 dL_law_380 rfl ?_
      refine g_i2l X dL_law_382 ?_
      refine g_lcmp X dL_law_383 ?_
      refine g_if_eq X 389 dL_law_384 (by decide) (fun c75 => ?_) (fun c75 => ?_)
      · replace hw := hw.1 c75
        refine g_goto X 1318 dL_law_389 (by decide) ?_
        refine g_iinc X [(4, .int (x4 + 3)), (6, .int r68), (5, .int r59), (0, .ref sb), (1, .ref (g 0 0)), (2, .ref (am 0)), (3, .ref (qa 0))] 6 dL_law_1318 rfl rfl (by decide) rfl ?_
        refine g_goto X 23 dL_law_1321 (by decide) ?_
        refine g_sub [(0, .ref sb), (1, .ref (g 0 0)), (2, .ref (am 0)), (3, .ref (qa 0)), (4, .int (x4 + 3))] [3, 4, 5, 6, 0] rfl ?_
        refine g_wide (k2 := 117 + (513 - n)) (j2 := 2344 + 6 * (513 - n)) (by omega) (by omega) ?_
        exact ih (by omega) _ _ _ _ _ _ _ _ _ _ _ _ _ hw
      · replace hw := hw.2 c75
        refine g_iconst (v := 0) X rfl dL_law_387 ?_
        exact hw.elim
  · replace hw := hw.2 c73
    refine g_iconst (v := 0) X rfl dL_law_370 ?_
    exact hw.elim
set_option maxHeartbeats 20000000 in
set_option maxRecDepth 20000 in
theorem kL_arm_4 {p : Program} {l : Launch} {e : Env} {s : State} {m : MethodId} {args : Array Value} {below : List Frame} {meth : Method} {c : Code} {D : va_G} {ct : Nat → ClassId} {A : Nat → Prop} {Q : State → Prop} {sb L : Nat} {xs : Nat → Int32} {g : Nat → Nat → Nat} {am qa : Nat → Nat} (hl9 : l.stackTraces = false) (X : Cx p s m args meth c cL_law 9 RL wsL_law D (tyz ct) A s.heap ret) (XX : XL A s) (hX : va_X sb L xs s s.heap) (hbl : sb < s.heap.size) (hbA : ¬ A sb) (hend : ∀ (k j : Nat) (w : va_W) (lv : List (Nat × Value)), k ≤ 601024 → j ≤ 7293034 → GG p l e room_1 s m args below meth c D A s.heap 9 Q (w) (k) (j) lv 1325 [.int 1])  {n : Nat} (ih : n ≤ 513 → ∀ (kc : Mem) (v : Mem) (sl : Nat → Mem) (b : Mem) (r : Nat → Mem) (tx : Mem) (y : Mem) (o : Mem) (x : Mem) (w : Mem) (hs : Int64) (ou : Nat → Int64) (x4 : Int32), PL_law_23 xs L n kc v sl b r tx y o x w hs ou x4 → GG p l e room_1 s m args below meth c D A s.heap 9 Q (fl [wC ct g kc, wS ct (g 1) v, wS ct (g 2) (sl 0), wS ct (g 3) (sl 1), wV ct g b, wS ct (g 5) (r 0), wS ct (g 6) (r 1), wS ct (g 7) (r 2), wS ct (g 8) (r 3), wS ct (g 9) (r 4), wS ct (g 10) (r 5), wT ct (g 11) tx, wL ct (g 12) y, wO ct (g 13) o, wR ct (g 14) x, wM ct am w hs, wQ ct qa ou]) (117 + (513 - n)) (2344 + 6 * (513 - n)) [(0, .ref sb), (1, .ref (g 0 0)), (2, .ref (am 0)), (3, .ref (qa 0)), (4, .int x4)] 23 []) (hn9 : n + 1 ≤ 513) (kc : Mem) (v : Mem) (sl : Nat → Mem) (b : Mem) (r : Nat → Mem) (tx : Mem) (y : Mem) (o : Mem) (x : Mem) (w : Mem) (hs : Int64) (ou : Nat → Int64) (x4 : Int32) (c76 : ((xs (ix x4)) &&& 31) = 4) (hw : vp_in (x4 + 1) L ∧ PL_byParents kc v b r o ou (xs (ix (x4 + 1))) (fun r78 v80 b81 r82 o83 ou84 => vp_in (x4 + 1) L ∧ PX8_byParents w hs (xs (ix (x4 + 1))) (fun r86 w88 => PX8_thrown w88 hs (fun r89 => ((r89 = r78) → ((¬ r78 = 0) → PL_law_23 xs L n kc v80 sl b81 r82 tx y o83 x w88 hs ou84 (x4 + 3)) ∧ ((r78 = 0) → (((lg_cmp (ou84 0) r86.toInt64) = 0) → PL_law_23 xs L n kc v80 sl b81 r82 tx y o83 x w88 hs ou84 (x4 + 3)) ∧ ((¬ (lg_cmp (ou84 0) r86.toInt64) = 0) → False))) ∧ ((¬ r89 = r78) → False))))) : GG p l e room_1 s m args below meth c D A s.heap 9 Q (fl [wC ct g kc, wS ct (g 1) v, wS ct (g 2) (sl 0), wS ct (g 3) (sl 1), wV ct g b, wS ct (g 5) (r 0), wS ct (g 6) (r 1), wS ct (g 7) (r 2), wS ct (g 8) (r 3), wS ct (g 9) (r 4), wS ct (g 10) (r 5), wT ct (g 11) tx, wL ct (g 12) y, wO ct (g 13) o, wR ct (g 14) x, wM ct am w hs, wQ ct qa ou]) (117 + (513 - (n + 1))) (2344 + 6 * (513 - (n + 1))) [(0, .ref sb), (1, .ref (g 0 0)), (2, .ref (am 0)), (3, .ref (qa 0)), (4, .int x4)] 392 [] := by
  refine g_aload_n X 1 dL_law_392 rfl rfl ?_
  refine g_aload_n X 0 dL_law_393 rfl rfl ?_
  refine g_iload X 4 dL_law_394 rfl ?_
  refine g_iconst (v := 1) X rfl dL_law_396 ?_
  refine g_iadd X dL_law_397 ?_
  obtain ⟨h77, hw⟩ := hw
  refine g_sld X hX hbl hbA h77 dL_law_398 ?_
  refine g_aload_n X 3 dL_law_399 rfl rfl ?_
  refine g_chS X XX [wC ct g kc, wS ct (g 1) v, wS ct (g 2) (sl 0), wS ct (g 3) (sl 1), wV ct g b, wS ct (g 5) (r 0), wS ct (g 6) (r 1), wS ct (g 7) (r 2), wS ct (g 8) (r 3), wS ct (g 9) (r 4), wS ct (g 10) (r 5), wT ct (g 11) tx, wL ct (g 12) y, wO ct (g 13) o, wR ct (g 14) x, wM ct am w hs, wQ ct qa ou] (fun (u79 : Mem × Mem × (Nat → Mem) × Mem × (Nat → Int64)) => [wC ct g kc, wS ct (g 1) u79.1, wS ct (g 2) (sl 0), wS ct (g 3) (sl 1), wV ct g u79.2.1, wS ct (g 5) (u79.2.2.1 0), wS ct (g 6) (u79.2.2.1 1), wS ct (g 7) (u79.2.2.1 2), wS ct (g 8) (u79.2.2.1 3), wS ct (g 9) (u79.2.2.1 4), wS ct (g 10) (u79.2.2.1 5), wT ct (g 11) tx, wL ct (g 12) y, wO ct (g 13) u79.2.2.2.1, wR ct (g 14) x, wM ct am w hs, wQ ct qa u79.2.2.2.2]) (fun (u79 : Mem × Mem × (Nat → Mem) × Mem × (Nat → Int64)) => fl [wC ct g kc, wS ct (g 1) u79.1, wS ct (g 2) (sl 0), wS ct (g 3) (sl 1), wV ct g u79.2.1, wS ct (g 5) (u79.2.2.1 0), wS ct (g 6) (u79.2.2.1 1), wS ct (g 7) (u79.2.2.1 2), wS ct (g 8) (u79.2.2.1 3), wS ct (g 9) (u79.2.2.1 4), wS ct (g 10) (u79.2.2.1 5), wT ct (g 11) tx, wL ct (g 12) y, wO ct (g 13) u79.2.2.2.1, wR ct (g 14) x, wM ct am w hs, wQ ct qa u79.2.2.2.2]) 17 [0, 1, 4, 5, 6, 7, 8, 9, 10, 13, 16] [2, 3, 11, 12, 14, 15] (kL_byParents l hl9 D ct g qa kc v b r o ou (xs (ix (x4 + 1))) _ hw) (vx_cwSW 3 X.1.2.2.2.2 gL_law_L_byParents rfl rfl rfl (by decide +kernel) ⟨Nat.le_of_ble_eq_true rfl, Nat.le_of_ble_eq_true rfl⟩) dL_law_400 rfl rfl (Nat.le_of_ble_eq_true rfl) ⟨by show _ ≤ 601024; omega, by show _ ≤ 7293034; omega⟩ rfl rfl rfl (by decide) (fun _ => rfl) (fun _ => lq_0_1_4_5_6_7_8_9_10_13_16) (fun _ => rfl) (fun _ => rfl) (fun r78 u79 hw => ?_)
  obtain ⟨v80, hv80⟩ : ∃ z : Mem, z = u79.1 := ⟨_, rfl⟩
  rw [← hv80] at hw
  rw [← hv80]
  obtain ⟨b81, hb81⟩ : ∃ z : Mem, z = u79.2.1 := ⟨_, rfl⟩
  rw [← hb81] at hw
  rw [← hb81]
  obtain ⟨r82, hr82⟩ : ∃ z : Nat → Mem, z = u79.2.2.1 := ⟨_, rfl⟩
  rw [← hr82] at hw
  rw [← hr82]
  obtain ⟨o83, ho83⟩ : ∃ z : Mem, z = u79.2.2.2.1 := ⟨_, rfl⟩
  rw [← ho83] at hw
  rw [← ho83]
  obtain ⟨ou84, hou84⟩ : ∃ z : Nat → Int64, z = u79.2.2.2.2 := ⟨_, rfl⟩
  rw [← hou84] at hw
  rw [← hou84]
  refine g_istore X [(5, .int r78), (0, .ref sb), (1, .ref (g 0 0)), (2, .ref (am 0)), (3, .ref (qa 0)), (4, .int x4)] dL_law_403 (by decide) rfl ?_
  refine g_aload_n X 3 dL_law_405 rfl rfl ?_
  refine g_aload_n X 1 dL_law_406 rfl rfl ?_
  refine g_iload X 5 dL_law_407 rfl ?_
  refine g_iconst (v := 1) X rfl dL_law_409 ?_
  refine g_iadd X dL_law_410 ?_
  obtain ⟨h85, hw⟩ := hw
  refine g_sld X hX hbl hbA h85 dL_law_411 ?_
  refine g_ciV X [wC ct g kc, wS ct (g 1) v80, wS ct (g 2) (sl 0), wS ct (g 3) (sl 1), wV ct g b81, wS ct (g 5) (r82 0), wS ct (g 6) (r82 1), wS ct (g 7) (r82 2), wS ct (g 8) (r82 3), wS ct (g 9) (r82 4), wS ct (g 10) (r82 5), wT ct (g 11) tx, wL ct (g 12) y, wO ct (g 13) o83, wR ct (g 14) x, wM ct am w hs, wQ ct qa ou84] (fun (u87 : Mem) => [wC ct g kc, wS ct (g 1) v80, wS ct (g 2) (sl 0), wS ct (g 3) (sl 1), wV ct g b81, wS ct (g 5) (r82 0), wS ct (g 6) (r82 1), wS ct (g 7) (r82 2), wS ct (g 8) (r82 3), wS ct (g 9) (r82 4), wS ct (g 10) (r82 5), wT ct (g 11) tx, wL ct (g 12) y, wO ct (g 13) o83, wR ct (g 14) x, wM ct am u87 hs, wQ ct qa ou84]) (fun (u87 : Mem) => fl [wC ct g kc, wS ct (g 1) v80, wS ct (g 2) (sl 0), wS ct (g 3) (sl 1), wV ct g b81, wS ct (g 5) (r82 0), wS ct (g 6) (r82 1), wS ct (g 7) (r82 2), wS ct (g 8) (r82 3), wS ct (g 9) (r82 4), wS ct (g 10) (r82 5), wT ct (g 11) tx, wL ct (g 12) y, wO ct (g 13) o83, wR ct (g 14) x, wM ct am u87 hs, wQ ct qa ou84]) 17 [15] [0, 1, 2, 3, 4, 5, 6, 7, 8, 9, 10, 11, 12, 13, 14, 16] 0 (kX8_byParents l D ct am w hs (xs (ix (x4 + 1))) _ hw) (cwV 1 X.1.2.2.2.2 gL_law_X8_byParents rfl rfl rfl (by decide +kernel) ⟨Nat.le_of_ble_eq_true rfl, Nat.le_of_ble_eq_true rfl⟩) dL_law_412 rfl rfl (Nat.le_of_ble_eq_true rfl) ⟨by show _ ≤ 601024; omega, by show _ ≤ 7293034; omega⟩ rfl rfl rfl (by decide) (fun _ => rfl) (fun _ => lq_15) (fun _ => rfl) (fun _ => rfl) rfl rfl rfl (fun r86 u87 hw => ?_)
  obtain ⟨w88, hw88⟩ : ∃ z : Mem, z = u87 := ⟨_, rfl⟩
  rw [← hw88] at hw
  rw [← hw88]
  refine g_istore X [(6, .int r86), (5, .int r78), (0, .ref sb), (1, .ref (g 0 0)), (2, .ref (am 0)), (3, .ref (qa 0)), (4, .int x4)] dL_law_415 (by decide) rfl ?_
  refine g_aload_n X 4 dL_law_417 rfl rfl ?_
  refine g_ciV X [wC ct g kc, wS ct (g 1) v80, wS ct (g 2) (sl 0), wS ct (g 3) (sl 1), wV ct g b81, wS ct (g 5) (r82 0), wS ct (g 6) (r82 1), wS ct (g 7) (r82 2), wS ct (g 8) (r82 3), wS ct (g 9) (r82 4), wS ct (g 10) (r82 5), wT ct (g 11) tx, wL ct (g 12) y, wO ct (g 13) o83, wR ct (g 14) x, wM ct am w88 hs, wQ ct qa ou84] (fun (_ : Unit) => [wC ct g kc, wS ct (g 1) v80, wS ct (g 2) (sl 0), wS ct (g 3) (sl 1), wV ct g b81, wS ct (g 5) (r82 0), wS ct (g 6) (r82 1), wS ct (g 7) (r82 2), wS ct (g 8) (r82 3), wS ct (g 9) (r82 4), wS ct (g 10) (r82 5), wT ct (g 11) tx, wL ct (g 12) y, wO ct (g 13) o83, wR ct (g 14) x, wM ct am w88 hs, wQ ct qa ou84]) (fun _ => fl [wC ct g kc, wS ct (g 1) v80, wS ct (g 2) (sl 0), wS ct (g 3) (sl 1), wV ct g b81, wS ct (g 5) (r82 0), wS ct (g 6) (r82 1), wS ct (g 7) (r82 2), wS ct (g 8) (r82 3), wS ct (g 9) (r82 4), wS ct (g 10) (r82 5), wT ct (g 11) tx, wL ct (g 12) y, wO ct (g 13) o83, wR ct (g 14) x, wM ct am w88 hs, wQ ct qa ou84]) 17 [15] [0, 1, 2, 3, 4, 5, 6, 7, 8, 9, 10, 11, 12, 13, 14, 16] 0 (kX8_thrown l D ct am w88 hs _ hw) (cwV 0 X.1.2.2.2.2 gL_law_X8_thrown rfl rfl rfl (by decide +kernel) ⟨Nat.le_of_ble_eq_true rfl, Nat.le_of_ble_eq_true rfl⟩) dL_law_418 rfl rfl (Nat.le_of_ble_eq_true rfl) ⟨by show _ ≤ 601024; omega, by show _ ≤ 7293034; omega⟩ rfl rfl rfl (by decide) (fun _ => rfl) (fun _ => lq_15) (fun _ => rfl) (fun _ => rfl) rfl rfl rfl (fun r89 _ hw => ?_)
  refine g_iload X 1 dL_law_421 rfl ?_
  refine g_icmp_eq X 428 dL_law_423 (by decide) (fun c91 => ?_) (fun c91 => ?_)
  · replace hw := hw.1 c91
    refine g_iload X 1 dL_law_428 rfl ?_
    refine g_if_ne X 445 dL_law_430 (by decide) (fun c92 => ?_) (fun c92 => ?_)
    · replace hw := hw.1 c92
      refine g_goto X 1318 dL_law_445 (by decide) ?_
      refine g_iinc X [(4, .int (x4 + 3)), (6, .int r86), (5, .int r78), (0, .ref sb), (1, .ref (g 0 0)), (2, .ref (am 0)), (3, .ref (qa 0))] 6 dL_law_1318 rfl rfl (by decide) rfl ?_
      refine g_goto X 23 dL_law_1321 (by decide) ?_
      refine g_sub [(0, .ref sb), (1, .ref (g 0 0)), (2, .ref (am 0)), (3, .ref (qa 0)), (4, .int (x4 + 3))] [3, 4, 5, 6, 0] rfl ?_
      refine g_wide (k2 := 117 + (513 - n)) (j2 := 2344 + 6 * (513 - n)) (by omega) (by omega) ?_
      exact ih (by omega) _ _ _ _ _ _ _ _ _ _ _ _ _ hw
    · replace hw := hw.2 c92
      refine g_aload_n X 5 dL_law_433 rfl rfl ?_
      refine g_iconst (v := 0) X rfl dL_law_434 ?_
      refine g_lald X 116 4 dL_law_435 rfl rfl (vp_in_nI (n := 0) (by decide) (by decide)) ?_
      refine g_iload X 0 dL_law_436 rfl ?_
      refine g_i2l X dL_law_438 ?_
      refine g_lcmp X dL_law_439 ?_
      refine g_if_eq X 445 dL_law_440 (by decide) (fun c93 => ?_) (fun c93 => ?_)
      · replace hw := hw.1 c93
        refine g_goto X 1318 dL_law_445 (by decide) ?_
        refine g_iinc X [(4, .int (x4 + 3)), (6, .int r86), (5, .int r78), (0, .ref sb), (1, .ref (g 0 0)), (2, .ref (am 0)), (3, .ref (qa 0))] 6 dL_law_1318 rfl rfl (by decide) rfl ?_
        refine g_goto X 23 dL_law_1321 (by decide) ?_
        refine g_sub [(0, .ref sb), (1, .ref (g 0 0)), (2, .ref (am 0)), (3, .ref (qa 0)), (4, .int (x4 + 3))] [3, 4, 5, 6, 0] rfl ?_
        refine g_wide (k2 := 117 + (513 - n)) (j2 := 2344 + 6 * (513 - n)) (by omega) (by omega) ?_
        exact ih (by omega) _ _ _ _ _ _ _ _ _ _ _ _ _ hw
      · replace hw := hw.2 c93
        refine g_iconst (v := 0) X rfl dL_law_443 ?_
        exact hw.elim
  · replace hw := hw.2 c91
    refine g_iconst (v := 0) X rfl dL_law_426 ?_
    exact hw.elim
set_option maxHeartbeats 20000000 in
set_option maxRecDepth 20000 in
theorem kL_arm_5 {p : Program} {l : Launch} {e : Env} {s : State} {m : MethodId} {args : Array Value} {below : List Frame} {meth : Method} {c : Code} {D : va_G} {ct : Nat → ClassId} {A : Nat → Prop} {Q : State → Prop} {sb L : Nat} {xs : Nat → Int32} {g : Nat → Nat → Nat} {am qa : Nat → Nat} (hl9 : l.stackTraces = false) (X : Cx p s m args meth c cL_law 9 RL wsL_law D (tyz ct) A s.heap ret) (XX : XL A s) (hX : va_X sb L xs s s.heap) (hbl : sb < s.heap.size) (hbA : ¬ A sb) (hend : ∀ (k j : Nat) (w : va_W) (lv : List (Nat × Value)), k ≤ 601024 → j ≤ 7293034 → GG p l e room_1 s m args below meth c D A s.heap 9 Q (w) (k) (j) lv 1325 [.int 1])  {n : Nat} (ih : n ≤ 513 → ∀ (kc : Mem) (v : Mem) (sl : Nat → Mem) (b : Mem) (r : Nat → Mem) (tx : Mem) (y : Mem) (o : Mem) (x : Mem) (w : Mem) (hs : Int64) (ou : Nat → Int64) (x4 : Int32), PL_law_23 xs L n kc v sl b r tx y o x w hs ou x4 → GG p l e room_1 s m args below meth c D A s.heap 9 Q (fl [wC ct g kc, wS ct (g 1) v, wS ct (g 2) (sl 0), wS ct (g 3) (sl 1), wV ct g b, wS ct (g 5) (r 0), wS ct (g 6) (r 1), wS ct (g 7) (r 2), wS ct (g 8) (r 3), wS ct (g 9) (r 4), wS ct (g 10) (r 5), wT ct (g 11) tx, wL ct (g 12) y, wO ct (g 13) o, wR ct (g 14) x, wM ct am w hs, wQ ct qa ou]) (117 + (513 - n)) (2344 + 6 * (513 - n)) [(0, .ref sb), (1, .ref (g 0 0)), (2, .ref (am 0)), (3, .ref (qa 0)), (4, .int x4)] 23 []) (hn9 : n + 1 ≤ 513) (kc : Mem) (v : Mem) (sl : Nat → Mem) (b : Mem) (r : Nat → Mem) (tx : Mem) (y : Mem) (o : Mem) (x : Mem) (w : Mem) (hs : Int64) (ou : Nat → Int64) (x4 : Int32) (c94 : ((xs (ix x4)) &&& 31) = 5) (hw : vp_in (x4 + 1) L ∧ PL_untangle kc v b r x ou (xs (ix (x4 + 1))) (fun r96 v98 b99 r100 x101 ou102 => vp_in (x4 + 1) L ∧ PX8_untangle w hs (xs (ix (x4 + 1))) (fun r104 w106 => PX8_thrown w106 hs (fun r107 => ((r107 = r96) → ((¬ r96 = 0) → PL_law_23 xs L n kc v98 sl b99 r100 tx y o x101 w106 hs ou102 (x4 + 3)) ∧ ((r96 = 0) → (((lg_cmp (ou102 0) r104.toInt64) = 0) → PL_law_23 xs L n kc v98 sl b99 r100 tx y o x101 w106 hs ou102 (x4 + 3)) ∧ ((¬ (lg_cmp (ou102 0) r104.toInt64) = 0) → False))) ∧ ((¬ r107 = r96) → False))))) : GG p l e room_1 s m args below meth c D A s.heap 9 Q (fl [wC ct g kc, wS ct (g 1) v, wS ct (g 2) (sl 0), wS ct (g 3) (sl 1), wV ct g b, wS ct (g 5) (r 0), wS ct (g 6) (r 1), wS ct (g 7) (r 2), wS ct (g 8) (r 3), wS ct (g 9) (r 4), wS ct (g 10) (r 5), wT ct (g 11) tx, wL ct (g 12) y, wO ct (g 13) o, wR ct (g 14) x, wM ct am w hs, wQ ct qa ou]) (117 + (513 - (n + 1))) (2344 + 6 * (513 - (n + 1))) [(0, .ref sb), (1, .ref (g 0 0)), (2, .ref (am 0)), (3, .ref (qa 0)), (4, .int x4)] 448 [] := by
  refine g_aload_n X 1 dL_law_448 rfl rfl ?_
  refine g_aload_n X 0 dL_law_449 rfl rfl ?_
  refine g_iload X 4 dL_law_450 rfl ?_
  refine g_iconst (v := 1) X rfl dL_law_452 ?_
  refine g_iadd X dL_law_453 ?_
  obtain ⟨h95, hw⟩ := hw
  refine g_sld X hX hbl hbA h95 dL_law_454 ?_
  refine g_aload_n X 3 dL_law_455 rfl rfl ?_
  refine g_chS X XX [wC ct g kc, wS ct (g 1) v, wS ct (g 2) (sl 0), wS ct (g 3) (sl 1), wV ct g b, wS ct (g 5) (r 0), wS ct (g 6) (r 1), wS ct (g 7) (r 2), wS ct (g 8) (r 3), wS ct (g 9) (r 4), wS ct (g 10) (r 5), wT ct (g 11) tx, wL ct (g 12) y, wO ct (g 13) o, wR ct (g 14) x, wM ct am w hs, wQ ct qa ou] (fun (u97 : Mem × Mem × (Nat → Mem) × Mem × (Nat → Int64)) => [wC ct g kc, wS ct (g 1) u97.1, wS ct (g 2) (sl 0), wS ct (g 3) (sl 1), wV ct g u97.2.1, wS ct (g 5) (u97.2.2.1 0), wS ct (g 6) (u97.2.2.1 1), wS ct (g 7) (u97.2.2.1 2), wS ct (g 8) (u97.2.2.1 3), wS ct (g 9) (u97.2.2.1 4), wS ct (g 10) (u97.2.2.1 5), wT ct (g 11) tx, wL ct (g 12) y, wO ct (g 13) o, wR ct (g 14) u97.2.2.2.1, wM ct am w hs, wQ ct qa u97.2.2.2.2]) (fun (u97 : Mem × Mem × (Nat → Mem) × Mem × (Nat → Int64)) => fl [wC ct g kc, wS ct (g 1) u97.1, wS ct (g 2) (sl 0), wS ct (g 3) (sl 1), wV ct g u97.2.1, wS ct (g 5) (u97.2.2.1 0), wS ct (g 6) (u97.2.2.1 1), wS ct (g 7) (u97.2.2.1 2), wS ct (g 8) (u97.2.2.1 3), wS ct (g 9) (u97.2.2.1 4), wS ct (g 10) (u97.2.2.1 5), wT ct (g 11) tx, wL ct (g 12) y, wO ct (g 13) o, wR ct (g 14) u97.2.2.2.1, wM ct am w hs, wQ ct qa u97.2.2.2.2]) 17 [0, 1, 4, 5, 6, 7, 8, 9, 10, 14, 16] [2, 3, 11, 12, 13, 15] (kL_untangle l hl9 D ct g qa kc v b r x ou (xs (ix (x4 + 1))) _ hw) (vx_cwSW 3 X.1.2.2.2.2 gL_law_L_untangle rfl rfl rfl (by decide +kernel) ⟨Nat.le_of_ble_eq_true rfl, Nat.le_of_ble_eq_true rfl⟩) dL_law_456 rfl rfl (Nat.le_of_ble_eq_true rfl) ⟨by show _ ≤ 601024; omega, by show _ ≤ 7293034; omega⟩ rfl rfl rfl (by decide) (fun _ => rfl) (fun _ => lq_0_1_4_5_6_7_8_9_10_14_16) (fun _ => rfl) (fun _ => rfl) (fun r96 u97 hw => ?_)
  obtain ⟨v98, hv98⟩ : ∃ z : Mem, z = u97.1 := ⟨_, rfl⟩
  rw [← hv98] at hw
  rw [← hv98]
  obtain ⟨b99, hb99⟩ : ∃ z : Mem, z = u97.2.1 := ⟨_, rfl⟩
  rw [← hb99] at hw
  rw [← hb99]
  obtain ⟨r100, hr100⟩ : ∃ z : Nat → Mem, z = u97.2.2.1 := ⟨_, rfl⟩
  rw [← hr100] at hw
  rw [← hr100]
  obtain ⟨x101, hx101⟩ : ∃ z : Mem, z = u97.2.2.2.1 := ⟨_, rfl⟩
  rw [← hx101] at hw
  rw [← hx101]
  obtain ⟨ou102, hou102⟩ : ∃ z : Nat → Int64, z = u97.2.2.2.2 := ⟨_, rfl⟩
  rw [← hou102] at hw
  rw [← hou102]
  refine g_istore X [(5, .int r96), (0, .ref sb), (1, .ref (g 0 0)), (2, .ref (am 0)), (3, .ref (qa 0)), (4, .int x4)] dL_law_459 (by decide) rfl ?_
  refine g_aload_n X 3 dL_law_461 rfl rfl ?_
  refine g_aload_n X 1 dL_law_462 rfl rfl ?_
  refine g_iload X 5 dL_law_463 rfl ?_
  refine g_iconst (v := 1) X rfl dL_law_465 ?_
  refine g_iadd X dL_law_466 ?_
  obtain ⟨h103, hw⟩ := hw
  refine g_sld X hX hbl hbA h103 dL_law_467 ?_
  refine g_ciV X [wC ct g kc, wS ct (g 1) v98, wS ct (g 2) (sl 0), wS ct (g 3) (sl 1), wV ct g b99, wS ct (g 5) (r100 0), wS ct (g 6) (r100 1), wS ct (g 7) (r100 2), wS ct (g 8) (r100 3), wS ct (g 9) (r100 4), wS ct (g 10) (r100 5), wT ct (g 11) tx, wL ct (g 12) y, wO ct (g 13) o, wR ct (g 14) x101, wM ct am w hs, wQ ct qa ou102] (fun (u105 : Mem) => [wC ct g kc, wS ct (g 1) v98, wS ct (g 2) (sl 0), wS ct (g 3) (sl 1), wV ct g b99, wS ct (g 5) (r100 0), wS ct (g 6) (r100 1), wS ct (g 7) (r100 2), wS ct (g 8) (r100 3), wS ct (g 9) (r100 4), wS ct (g 10) (r100 5), wT ct (g 11) tx, wL ct (g 12) y, wO ct (g 13) o, wR ct (g 14) x101, wM ct am u105 hs, wQ ct qa ou102]) (fun (u105 : Mem) => fl [wC ct g kc, wS ct (g 1) v98, wS ct (g 2) (sl 0), wS ct (g 3) (sl 1), wV ct g b99, wS ct (g 5) (r100 0), wS ct (g 6) (r100 1), wS ct (g 7) (r100 2), wS ct (g 8) (r100 3), wS ct (g 9) (r100 4), wS ct (g 10) (r100 5), wT ct (g 11) tx, wL ct (g 12) y, wO ct (g 13) o, wR ct (g 14) x101, wM ct am u105 hs, wQ ct qa ou102]) 17 [15] [0, 1, 2, 3, 4, 5, 6, 7, 8, 9, 10, 11, 12, 13, 14, 16] 0 (kX8_untangle l D ct am w hs (xs (ix (x4 + 1))) _ hw) (cwV 1 X.1.2.2.2.2 gL_law_X8_untangle rfl rfl rfl (by decide +kernel) ⟨Nat.le_of_ble_eq_true rfl, Nat.le_of_ble_eq_true rfl⟩) dL_law_468 rfl rfl (Nat.le_of_ble_eq_true rfl) ⟨by show _ ≤ 601024; omega, by show _ ≤ 7293034; omega⟩ rfl rfl rfl (by decide) (fun _ => rfl) (fun _ => lq_15) (fun _ => rfl) (fun _ => rfl) rfl rfl rfl (fun r104 u105 hw => ?_)
  obtain ⟨w106, hw106⟩ : ∃ z : Mem, z = u105 := ⟨_, rfl⟩
  rw [← hw106] at hw
  rw [← hw106]
  refine g_istore X [(6, .int r104), (5, .int r96), (0, .ref sb), (1, .ref (g 0 0)), (2, .ref (am 0)), (3, .ref (qa 0)), (4, .int x4)] dL_law_471 (by decide) rfl ?_
  refine g_aload_n X 4 dL_law_473 rfl rfl ?_
  refine g_ciV X [wC ct g kc, wS ct (g 1) v98, wS ct (g 2) (sl 0), wS ct (g 3) (sl 1), wV ct g b99, wS ct (g 5) (r100 0), wS ct (g 6) (r100 1), wS ct (g 7) (r100 2), wS ct (g 8) (r100 3), wS ct (g 9) (r100 4), wS ct (g 10) (r100 5), wT ct (g 11) tx, wL ct (g 12) y, wO ct (g 13) o, wR ct (g 14) x101, wM ct am w106 hs, wQ ct qa ou102] (fun (_ : Unit) => [wC ct g kc, wS ct (g 1) v98, wS ct (g 2) (sl 0), wS ct (g 3) (sl 1), wV ct g b99, wS ct (g 5) (r100 0), wS ct (g 6) (r100 1), wS ct (g 7) (r100 2), wS ct (g 8) (r100 3), wS ct (g 9) (r100 4), wS ct (g 10) (r100 5), wT ct (g 11) tx, wL ct (g 12) y, wO ct (g 13) o, wR ct (g 14) x101, wM ct am w106 hs, wQ ct qa ou102]) (fun _ => fl [wC ct g kc, wS ct (g 1) v98, wS ct (g 2) (sl 0), wS ct (g 3) (sl 1), wV ct g b99, wS ct (g 5) (r100 0), wS ct (g 6) (r100 1), wS ct (g 7) (r100 2), wS ct (g 8) (r100 3), wS ct (g 9) (r100 4), wS ct (g 10) (r100 5), wT ct (g 11) tx, wL ct (g 12) y, wO ct (g 13) o, wR ct (g 14) x101, wM ct am w106 hs, wQ ct qa ou102]) 17 [15] [0, 1, 2, 3, 4, 5, 6, 7, 8, 9, 10, 11, 12, 13, 14, 16] 0 (kX8_thrown l D ct am w106 hs _ hw) (cwV 0 X.1.2.2.2.2 gL_law_X8_thrown rfl rfl rfl (by decide +kernel) ⟨Nat.le_of_ble_eq_true rfl, Nat.le_of_ble_eq_true rfl⟩) dL_law_474 rfl rfl (Nat.le_of_ble_eq_true rfl) ⟨by show _ ≤ 601024; omega, by show _ ≤ 7293034; omega⟩ rfl rfl rfl (by decide) (fun _ => rfl) (fun _ => lq_15) (fun _ => rfl) (fun _ => rfl) rfl rfl rfl (fun r107 _ hw => ?_)
  refine g_iload X 1 dL_law_477 rfl ?_
  refine g_icmp_eq X 484 dL_law_479 (by decide) (fun c109 => ?_) (fun c109 => ?_)
  · replace hw := hw.1 c109
    refine g_iload X 1 dL_law_484 rfl ?_
    refine g_if_ne X 501 dL_law_486 (by decide) (fun c110 => ?_) (fun c110 => ?_)
    · replace hw := hw.1 c110
      refine g_goto X 1318 dL_law_501 (by decide) ?_
      refine g_iinc X [(4, .int (x4 + 3)), (6, .int r104), (5, .int r96), (0, .ref sb), (1, .ref (g 0 0)), (2, .ref (am 0)), (3, .ref (qa 0))] 6 dL_law_1318 rfl rfl (by decide) rfl ?_
      refine g_goto X 23 dL_law_1321 (by decide) ?_
      refine g_sub [(0, .ref sb), (1, .ref (g 0 0)), (2, .ref (am 0)), (3, .ref (qa 0)), (4, .int (x4 + 3))] [3, 4, 5, 6, 0] rfl ?_
      refine g_wide (k2 := 117 + (513 - n)) (j2 := 2344 + 6 * (513 - n)) (by omega) (by omega) ?_
      exact ih (by omega) _ _ _ _ _ _ _ _ _ _ _ _ _ hw
    · replace hw := hw.2 c110
      refine g_aload_n X 5 dL_law_489 rfl rfl ?_
      refine g_iconst (v := 0) X rfl dL_law_490 ?_
      refine g_lald X 116 4 dL_law_491 rfl rfl (vp_in_nI (n := 0) (by decide) (by decide)) ?_
      refine g_iload X 0 dL_law_492 rfl ?_
      refine g_i2l X dL_law_494 ?_
      refine g_lcmp X dL_law_495 ?_
      refine g_if_eq X 501 dL_law_496 (by decide) (fun c111 => ?_) (fun c111 => ?_)
      · replace hw := hw.1 c111
        refine g_goto X 1318 dL_law_501 (by decide) ?_
        refine g_iinc X [(4, .int (x4 + 3)), (6, .int r104), (5, .int r96), (0, .ref sb), (1, .ref (g 0 0)), (2, .ref (am 0)), (3, .ref (qa 0))] 6 dL_law_1318 rfl rfl (by decide) rfl ?_
        refine g_goto X 23 dL_law_1321 (by decide) ?_
        refine g_sub [(0, .ref sb), (1, .ref (g 0 0)), (2, .ref (am 0)), (3, .ref (qa 0)), (4, .int (x4 + 3))] [3, 4, 5, 6, 0] rfl ?_
        refine g_wide (k2 := 117 + (513 - n)) (j2 := 2344 + 6 * (513 - n)) (by omega) (by omega) ?_
        exact ih (by omega) _ _ _ _ _ _ _ _ _ _ _ _ _ hw
      · replace hw := hw.2 c111
        refine g_iconst (v := 0) X rfl dL_law_499 ?_
        exact hw.elim
  · replace hw := hw.2 c109
    refine g_iconst (v := 0) X rfl dL_law_482 ?_
    exact hw.elim
set_option maxHeartbeats 20000000 in
set_option maxRecDepth 20000 in
theorem kL_arm_6 {p : Program} {l : Launch} {e : Env} {s : State} {m : MethodId} {args : Array Value} {below : List Frame} {meth : Method} {c : Code} {D : va_G} {ct : Nat → ClassId} {A : Nat → Prop} {Q : State → Prop} {sb L : Nat} {xs : Nat → Int32} {g : Nat → Nat → Nat} {am qa : Nat → Nat} (hl9 : l.stackTraces = false) (X : Cx p s m args meth c cL_law 9 RL wsL_law D (tyz ct) A s.heap ret) (XX : XL A s) (hX : va_X sb L xs s s.heap) (hbl : sb < s.heap.size) (hbA : ¬ A sb) (hend : ∀ (k j : Nat) (w : va_W) (lv : List (Nat × Value)), k ≤ 601024 → j ≤ 7293034 → GG p l e room_1 s m args below meth c D A s.heap 9 Q (w) (k) (j) lv 1325 [.int 1])  {n : Nat} (ih : n ≤ 513 → ∀ (kc : Mem) (v : Mem) (sl : Nat → Mem) (b : Mem) (r : Nat → Mem) (tx : Mem) (y : Mem) (o : Mem) (x : Mem) (w : Mem) (hs : Int64) (ou : Nat → Int64) (x4 : Int32), PL_law_23 xs L n kc v sl b r tx y o x w hs ou x4 → GG p l e room_1 s m args below meth c D A s.heap 9 Q (fl [wC ct g kc, wS ct (g 1) v, wS ct (g 2) (sl 0), wS ct (g 3) (sl 1), wV ct g b, wS ct (g 5) (r 0), wS ct (g 6) (r 1), wS ct (g 7) (r 2), wS ct (g 8) (r 3), wS ct (g 9) (r 4), wS ct (g 10) (r 5), wT ct (g 11) tx, wL ct (g 12) y, wO ct (g 13) o, wR ct (g 14) x, wM ct am w hs, wQ ct qa ou]) (117 + (513 - n)) (2344 + 6 * (513 - n)) [(0, .ref sb), (1, .ref (g 0 0)), (2, .ref (am 0)), (3, .ref (qa 0)), (4, .int x4)] 23 []) (hn9 : n + 1 ≤ 513) (kc : Mem) (v : Mem) (sl : Nat → Mem) (b : Mem) (r : Nat → Mem) (tx : Mem) (y : Mem) (o : Mem) (x : Mem) (w : Mem) (hs : Int64) (ou : Nat → Int64) (x4 : Int32) (c112 : ((xs (ix x4)) &&& 31) = 6) (hw : vp_in (x4 + 1) L ∧ PL_append kc tx ou (xs (ix (x4 + 1))) (fun r114 tx116 ou117 => vp_in (x4 + 1) L ∧ PX8_append w hs (xs (ix (x4 + 1))) (fun r119 w121 => PX8_thrown w121 hs (fun r122 => ((r122 = r114) → ((¬ r114 = 0) → PL_law_23 xs L n kc v sl b r tx116 y o x w121 hs ou117 (x4 + 3)) ∧ ((r114 = 0) → (((lg_cmp (ou117 0) r119.toInt64) = 0) → PL_law_23 xs L n kc v sl b r tx116 y o x w121 hs ou117 (x4 + 3)) ∧ ((¬ (lg_cmp (ou117 0) r119.toInt64) = 0) → False))) ∧ ((¬ r122 = r114) → False))))) : GG p l e room_1 s m args below meth c D A s.heap 9 Q (fl [wC ct g kc, wS ct (g 1) v, wS ct (g 2) (sl 0), wS ct (g 3) (sl 1), wV ct g b, wS ct (g 5) (r 0), wS ct (g 6) (r 1), wS ct (g 7) (r 2), wS ct (g 8) (r 3), wS ct (g 9) (r 4), wS ct (g 10) (r 5), wT ct (g 11) tx, wL ct (g 12) y, wO ct (g 13) o, wR ct (g 14) x, wM ct am w hs, wQ ct qa ou]) (117 + (513 - (n + 1))) (2344 + 6 * (513 - (n + 1))) [(0, .ref sb), (1, .ref (g 0 0)), (2, .ref (am 0)), (3, .ref (qa 0)), (4, .int x4)] 504 [] := by
  refine g_aload_n X 1 dL_law_504 rfl rfl ?_
  refine g_aload_n X 0 dL_law_505 rfl rfl ?_
  refine g_iload X 4 dL_law_506 rfl ?_
  refine g_iconst (v := 1) X rfl dL_law_508 ?_
  refine g_iadd X dL_law_509 ?_
  obtain ⟨h113, hw⟩ := hw
  refine g_sld X hX hbl hbA h113 dL_law_510 ?_
  refine g_aload_n X 3 dL_law_511 rfl rfl ?_
  refine g_chS X XX [wC ct g kc, wS ct (g 1) v, wS ct (g 2) (sl 0), wS ct (g 3) (sl 1), wV ct g b, wS ct (g 5) (r 0), wS ct (g 6) (r 1), wS ct (g 7) (r 2), wS ct (g 8) (r 3), wS ct (g 9) (r 4), wS ct (g 10) (r 5), wT ct (g 11) tx, wL ct (g 12) y, wO ct (g 13) o, wR ct (g 14) x, wM ct am w hs, wQ ct qa ou] (fun (u115 : Mem × (Nat → Int64)) => [wC ct g kc, wS ct (g 1) v, wS ct (g 2) (sl 0), wS ct (g 3) (sl 1), wV ct g b, wS ct (g 5) (r 0), wS ct (g 6) (r 1), wS ct (g 7) (r 2), wS ct (g 8) (r 3), wS ct (g 9) (r 4), wS ct (g 10) (r 5), wT ct (g 11) u115.1, wL ct (g 12) y, wO ct (g 13) o, wR ct (g 14) x, wM ct am w hs, wQ ct qa u115.2]) (fun (u115 : Mem × (Nat → Int64)) => fl [wC ct g kc, wS ct (g 1) v, wS ct (g 2) (sl 0), wS ct (g 3) (sl 1), wV ct g b, wS ct (g 5) (r 0), wS ct (g 6) (r 1), wS ct (g 7) (r 2), wS ct (g 8) (r 3), wS ct (g 9) (r 4), wS ct (g 10) (r 5), wT ct (g 11) u115.1, wL ct (g 12) y, wO ct (g 13) o, wR ct (g 14) x, wM ct am w hs, wQ ct qa u115.2]) 17 [0, 11, 16] [1, 2, 3, 4, 5, 6, 7, 8, 9, 10, 12, 13, 14, 15] (kL_append l hl9 D ct g qa kc tx ou (xs (ix (x4 + 1))) _ hw) (vx_cwSW 3 X.1.2.2.2.2 gL_law_L_append rfl rfl rfl (by decide +kernel) ⟨Nat.le_of_ble_eq_true rfl, Nat.le_of_ble_eq_true rfl⟩) dL_law_512 rfl rfl (Nat.le_of_ble_eq_true rfl) ⟨by show _ ≤ 601024; omega, by show _ ≤ 7293034; omega⟩ rfl rfl rfl (by decide) (fun _ => rfl) (fun _ => lq_0_11_16) (fun _ => rfl) (fun _ => rfl) (fun r114 u115 hw => ?_)
  obtain ⟨tx116, htx116⟩ : ∃ z : Mem, z = u115.1 := ⟨_, rfl⟩
  rw [← htx116] at hw
  rw [← htx116]
  obtain ⟨ou117, hou117⟩ : ∃ z : Nat → Int64, z = u115.2 := ⟨_, rfl⟩
  rw [← hou117] at hw
  rw [← hou117]
  refine g_istore X [(5, .int r114), (0, .ref sb), (1, .ref (g 0 0)), (2, .ref (am 0)), (3, .ref (qa 0)), (4, .int x4)] dL_law_515 (by decide) rfl ?_
  refine g_aload_n X 3 dL_law_517 rfl rfl ?_
  refine g_aload_n X 1 dL_law_518 rfl rfl ?_
  refine g_iload X 5 dL_law_519 rfl ?_
  refine g_iconst (v := 1) X rfl dL_law_521 ?_
  refine g_iadd X dL_law_522 ?_
  obtain ⟨h118, hw⟩ := hw
  refine g_sld X hX hbl hbA h118 dL_law_523 ?_
  refine g_ciV X [wC ct g kc, wS ct (g 1) v, wS ct (g 2) (sl 0), wS ct (g 3) (sl 1), wV ct g b, wS ct (g 5) (r 0), wS ct (g 6) (r 1), wS ct (g 7) (r 2), wS ct (g 8) (r 3), wS ct (g 9) (r 4), wS ct (g 10) (r 5), wT ct (g 11) tx116, wL ct (g 12) y, wO ct (g 13) o, wR ct (g 14) x, wM ct am w hs, wQ ct qa ou117] (fun (u120 : Mem) => [wC ct g kc, wS ct (g 1) v, wS ct (g 2) (sl 0), wS ct (g 3) (sl 1), wV ct g b, wS ct (g 5) (r 0), wS ct (g 6) (r 1), wS ct (g 7) (r 2), wS ct (g 8) (r 3), wS ct (g 9) (r 4), wS ct (g 10) (r 5), wT ct (g 11) tx116, wL ct (g 12) y, wO ct (g 13) o, wR ct (g 14) x, wM ct am u120 hs, wQ ct qa ou117]) (fun (u120 : Mem) => fl [wC ct g kc, wS ct (g 1) v, wS ct (g 2) (sl 0), wS ct (g 3) (sl 1), wV ct g b, wS ct (g 5) (r 0), wS ct (g 6) (r 1), wS ct (g 7) (r 2), wS ct (g 8) (r 3), wS ct (g 9) (r 4), wS ct (g 10) (r 5), wT ct (g 11) tx116, wL ct (g 12) y, wO ct (g 13) o, wR ct (g 14) x, wM ct am u120 hs, wQ ct qa ou117]) 17 [15] [0, 1, 2, 3, 4, 5, 6, 7, 8, 9, 10, 11, 12, 13, 14, 16] 0 (kX8_append l D ct am w hs (xs (ix (x4 + 1))) _ hw) (cwV 1 X.1.2.2.2.2 gL_law_X8_append rfl rfl rfl (by decide +kernel) ⟨Nat.le_of_ble_eq_true rfl, Nat.le_of_ble_eq_true rfl⟩) dL_law_524 rfl rfl (Nat.le_of_ble_eq_true rfl) ⟨by show _ ≤ 601024; omega, by show _ ≤ 7293034; omega⟩ rfl rfl rfl (by decide) (fun _ => rfl) (fun _ => lq_15) (fun _ => rfl) (fun _ => rfl) rfl rfl rfl (fun r119 u120 hw => ?_)
  obtain ⟨w121, hw121⟩ : ∃ z : Mem, z = u120 := ⟨_, rfl⟩
  rw [← hw121] at hw
  rw [← hw121]
  refine g_istore X [(6, .int r119), (5, .int r114), (0, .ref sb), (1, .ref (g 0 0)), (2, .ref (am 0)), (3, .ref (qa 0)), (4, .int x4)] dL_law_527 (by decide) rfl ?_
  refine g_aload_n X 4 dL_law_529 rfl rfl ?_
  refine g_ciV X [wC ct g kc, wS ct (g 1) v, wS ct (g 2) (sl 0), wS ct (g 3) (sl 1), wV ct g b, wS ct (g 5) (r 0), wS ct (g 6) (r 1), wS ct (g 7) (r 2), wS ct (g 8) (r 3), wS ct (g 9) (r 4), wS ct (g 10) (r 5), wT ct (g 11) tx116, wL ct (g 12) y, wO ct (g 13) o, wR ct (g 14) x, wM ct am w121 hs, wQ ct qa ou117] (fun (_ : Unit) => [wC ct g kc, wS ct (g 1) v, wS ct (g 2) (sl 0), wS ct (g 3) (sl 1), wV ct g b, wS ct (g 5) (r 0), wS ct (g 6) (r 1), wS ct (g 7) (r 2), wS ct (g 8) (r 3), wS ct (g 9) (r 4), wS ct (g 10) (r 5), wT ct (g 11) tx116, wL ct (g 12) y, wO ct (g 13) o, wR ct (g 14) x, wM ct am w121 hs, wQ ct qa ou117]) (fun _ => fl [wC ct g kc, wS ct (g 1) v, wS ct (g 2) (sl 0), wS ct (g 3) (sl 1), wV ct g b, wS ct (g 5) (r 0), wS ct (g 6) (r 1), wS ct (g 7) (r 2), wS ct (g 8) (r 3), wS ct (g 9) (r 4), wS ct (g 10) (r 5), wT ct (g 11) tx116, wL ct (g 12) y, wO ct (g 13) o, wR ct (g 14) x, wM ct am w121 hs, wQ ct qa ou117]) 17 [15] [0, 1, 2, 3, 4, 5, 6, 7, 8, 9, 10, 11, 12, 13, 14, 16] 0 (kX8_thrown l D ct am w121 hs _ hw) (cwV 0 X.1.2.2.2.2 gL_law_X8_thrown rfl rfl rfl (by decide +kernel) ⟨Nat.le_of_ble_eq_true rfl, Nat.le_of_ble_eq_true rfl⟩) dL_law_530 rfl rfl (Nat.le_of_ble_eq_true rfl) ⟨by show _ ≤ 601024; omega, by show _ ≤ 7293034; omega⟩ rfl rfl rfl (by decide) (fun _ => rfl) (fun _ => lq_15) (fun _ => rfl) (fun _ => rfl) rfl rfl rfl (fun r122 _ hw => ?_)
  refine g_iload X 1 dL_law_533 rfl ?_
  refine g_icmp_eq X 540 dL_law_535 (by decide) (fun c124 => ?_) (fun c124 => ?_)
  · replace hw := hw.1 c124
    refine g_iload X 1 dL_law_540 rfl ?_
    refine g_if_ne X 557 dL_law_542 (by decide) (fun c125 => ?_) (fun c125 => ?_)
    · replace hw := hw.1 c125
      refine g_goto X 1318 dL_law_557 (by decide) ?_
      refine g_iinc X [(4, .int (x4 + 3)), (6, .int r119), (5, .int r114), (0, .ref sb), (1, .ref (g 0 0)), (2, .ref (am 0)), (3, .ref (qa 0))] 6 dL_law_1318 rfl rfl (by decide) rfl ?_
      refine g_goto X 23 dL_law_1321 (by decide) ?_
      refine g_sub [(0, .ref sb), (1, .ref (g 0 0)), (2, .ref (am 0)), (3, .ref (qa 0)), (4, .int (x4 + 3))] [3, 4, 5, 6, 0] rfl ?_
      refine g_wide (k2 := 117 + (513 - n)) (j2 := 2344 + 6 * (513 - n)) (by omega) (by omega) ?_
      exact ih (by omega) _ _ _ _ _ _ _ _ _ _ _ _ _ hw
    · replace hw := hw.2 c125
      refine g_aload_n X 5 dL_law_545 rfl rfl ?_
      refine g_iconst (v := 0) X rfl dL_law_546 ?_
      refine g_lald X 116 4 dL_law_547 rfl rfl (vp_in_nI (n := 0) (by decide) (by decide)) ?_
      refine g_iload X 0 dL_law_548 rfl ?_
      refine g_i2l X dL_law_550 ?_
      refine g_lcmp X dL_law_551 ?_
      refine g_if_eq X 557 dL_law_552 (by decide) (fun c126 => ?_) (fun c126 => ?_)
      · replace hw := hw.1 c126
        refine g_goto X 1318 dL_law_557 (by decide) ?_
        refine g_iinc X [(4, .int (x4 + 3)), (6, .int r119), (5, .int r114), (0, .ref sb), (1, .ref (g 0 0)), (2, .ref (am 0)), (3, .ref (qa 0))] 6 dL_law_1318 rfl rfl (by decide) rfl ?_
        refine g_goto X 23 dL_law_1321 (by decide) ?_
        refine g_sub [(0, .ref sb), (1, .ref (g 0 0)), (2, .ref (am 0)), (3, .ref (qa 0)), (4, .int (x4 + 3))] [3, 4, 5, 6, 0] rfl ?_
        refine g_wide (k2 := 117 + (513 - n)) (j2 := 2344 + 6 * (513 - n)) (by omega) (by omega) ?_
        exact ih (by omega) _ _ _ _ _ _ _ _ _ _ _ _ _ hw
      · replace hw := hw.2 c126
        refine g_iconst (v := 0) X rfl dL_law_555 ?_
        exact hw.elim
  · replace hw := hw.2 c124
    refine g_iconst (v := 0) X rfl dL_law_538 ?_
    exact hw.elim
set_option maxHeartbeats 20000000 in
set_option maxRecDepth 20000 in
theorem kL_arm_7 {p : Program} {l : Launch} {e : Env} {s : State} {m : MethodId} {args : Array Value} {below : List Frame} {meth : Method} {c : Code} {D : va_G} {ct : Nat → ClassId} {A : Nat → Prop} {Q : State → Prop} {sb L : Nat} {xs : Nat → Int32} {g : Nat → Nat → Nat} {am qa : Nat → Nat} (hl9 : l.stackTraces = false) (X : Cx p s m args meth c cL_law 9 RL wsL_law D (tyz ct) A s.heap ret) (XX : XL A s) (hX : va_X sb L xs s s.heap) (hbl : sb < s.heap.size) (hbA : ¬ A sb) (hend : ∀ (k j : Nat) (w : va_W) (lv : List (Nat × Value)), k ≤ 601024 → j ≤ 7293034 → GG p l e room_1 s m args below meth c D A s.heap 9 Q (w) (k) (j) lv 1325 [.int 1])  {n : Nat} (ih : n ≤ 513 → ∀ (kc : Mem) (v : Mem) (sl : Nat → Mem) (b : Mem) (r : Nat → Mem) (tx : Mem) (y : Mem) (o : Mem) (x : Mem) (w : Mem) (hs : Int64) (ou : Nat → Int64) (x4 : Int32), PL_law_23 xs L n kc v sl b r tx y o x w hs ou x4 → GG p l e room_1 s m args below meth c D A s.heap 9 Q (fl [wC ct g kc, wS ct (g 1) v, wS ct (g 2) (sl 0), wS ct (g 3) (sl 1), wV ct g b, wS ct (g 5) (r 0), wS ct (g 6) (r 1), wS ct (g 7) (r 2), wS ct (g 8) (r 3), wS ct (g 9) (r 4), wS ct (g 10) (r 5), wT ct (g 11) tx, wL ct (g 12) y, wO ct (g 13) o, wR ct (g 14) x, wM ct am w hs, wQ ct qa ou]) (117 + (513 - n)) (2344 + 6 * (513 - n)) [(0, .ref sb), (1, .ref (g 0 0)), (2, .ref (am 0)), (3, .ref (qa 0)), (4, .int x4)] 23 []) (hn9 : n + 1 ≤ 513) (kc : Mem) (v : Mem) (sl : Nat → Mem) (b : Mem) (r : Nat → Mem) (tx : Mem) (y : Mem) (o : Mem) (x : Mem) (w : Mem) (hs : Int64) (ou : Nat → Int64) (x4 : Int32) (c127 : ((xs (ix x4)) &&& 31) = 7) (hw : PX7_clearBuffer kc tx (fun r128 tx130 => PX8_clearBuffer w hs (fun r131 w133 => ((r128 = r131) → PL_law_23 xs L n kc v sl b r tx130 y o x w133 hs ou (x4 + 3)) ∧ ((¬ r128 = r131) → False)))) : GG p l e room_1 s m args below meth c D A s.heap 9 Q (fl [wC ct g kc, wS ct (g 1) v, wS ct (g 2) (sl 0), wS ct (g 3) (sl 1), wV ct g b, wS ct (g 5) (r 0), wS ct (g 6) (r 1), wS ct (g 7) (r 2), wS ct (g 8) (r 3), wS ct (g 9) (r 4), wS ct (g 10) (r 5), wT ct (g 11) tx, wL ct (g 12) y, wO ct (g 13) o, wR ct (g 14) x, wM ct am w hs, wQ ct qa ou]) (117 + (513 - (n + 1))) (2344 + 6 * (513 - (n + 1))) [(0, .ref sb), (1, .ref (g 0 0)), (2, .ref (am 0)), (3, .ref (qa 0)), (4, .int x4)] 560 [] := by
  refine g_aload_n X 1 dL_law_560 rfl rfl ?_
  refine g_ciV X [wC ct g kc, wS ct (g 1) v, wS ct (g 2) (sl 0), wS ct (g 3) (sl 1), wV ct g b, wS ct (g 5) (r 0), wS ct (g 6) (r 1), wS ct (g 7) (r 2), wS ct (g 8) (r 3), wS ct (g 9) (r 4), wS ct (g 10) (r 5), wT ct (g 11) tx, wL ct (g 12) y, wO ct (g 13) o, wR ct (g 14) x, wM ct am w hs, wQ ct qa ou] (fun (u129 : Mem) => [wC ct g kc, wS ct (g 1) v, wS ct (g 2) (sl 0), wS ct (g 3) (sl 1), wV ct g b, wS ct (g 5) (r 0), wS ct (g 6) (r 1), wS ct (g 7) (r 2), wS ct (g 8) (r 3), wS ct (g 9) (r 4), wS ct (g 10) (r 5), wT ct (g 11) u129, wL ct (g 12) y, wO ct (g 13) o, wR ct (g 14) x, wM ct am w hs, wQ ct qa ou]) (fun (u129 : Mem) => fl [wC ct g kc, wS ct (g 1) v, wS ct (g 2) (sl 0), wS ct (g 3) (sl 1), wV ct g b, wS ct (g 5) (r 0), wS ct (g 6) (r 1), wS ct (g 7) (r 2), wS ct (g 8) (r 3), wS ct (g 9) (r 4), wS ct (g 10) (r 5), wT ct (g 11) u129, wL ct (g 12) y, wO ct (g 13) o, wR ct (g 14) x, wM ct am w hs, wQ ct qa ou]) 17 [0, 11] [1, 2, 3, 4, 5, 6, 7, 8, 9, 10, 12, 13, 14, 15, 16] 0 (kX7_clearBuffer l D ct g kc tx _ hw) (cwV 0 X.1.2.2.2.2 gL_law_X7_clearBuffer rfl rfl rfl (by decide +kernel) ⟨Nat.le_of_ble_eq_true rfl, Nat.le_of_ble_eq_true rfl⟩) dL_law_561 rfl rfl (Nat.le_of_ble_eq_true rfl) ⟨by show _ ≤ 601024; omega, by show _ ≤ 7293034; omega⟩ rfl rfl rfl (by decide) (fun _ => rfl) (fun _ => lq_0_11) (fun _ => rfl) (fun _ => rfl) rfl rfl rfl (fun r128 u129 hw => ?_)
  obtain ⟨tx130, htx130⟩ : ∃ z : Mem, z = u129 := ⟨_, rfl⟩
  rw [← htx130] at hw
  rw [← htx130]
  refine g_aload_n X 2 dL_law_564 rfl rfl ?_
  refine g_ciV X [wC ct g kc, wS ct (g 1) v, wS ct (g 2) (sl 0), wS ct (g 3) (sl 1), wV ct g b, wS ct (g 5) (r 0), wS ct (g 6) (r 1), wS ct (g 7) (r 2), wS ct (g 8) (r 3), wS ct (g 9) (r 4), wS ct (g 10) (r 5), wT ct (g 11) tx130, wL ct (g 12) y, wO ct (g 13) o, wR ct (g 14) x, wM ct am w hs, wQ ct qa ou] (fun (u132 : Mem) => [wC ct g kc, wS ct (g 1) v, wS ct (g 2) (sl 0), wS ct (g 3) (sl 1), wV ct g b, wS ct (g 5) (r 0), wS ct (g 6) (r 1), wS ct (g 7) (r 2), wS ct (g 8) (r 3), wS ct (g 9) (r 4), wS ct (g 10) (r 5), wT ct (g 11) tx130, wL ct (g 12) y, wO ct (g 13) o, wR ct (g 14) x, wM ct am u132 hs, wQ ct qa ou]) (fun (u132 : Mem) => fl [wC ct g kc, wS ct (g 1) v, wS ct (g 2) (sl 0), wS ct (g 3) (sl 1), wV ct g b, wS ct (g 5) (r 0), wS ct (g 6) (r 1), wS ct (g 7) (r 2), wS ct (g 8) (r 3), wS ct (g 9) (r 4), wS ct (g 10) (r 5), wT ct (g 11) tx130, wL ct (g 12) y, wO ct (g 13) o, wR ct (g 14) x, wM ct am u132 hs, wQ ct qa ou]) 17 [15] [0, 1, 2, 3, 4, 5, 6, 7, 8, 9, 10, 11, 12, 13, 14, 16] 0 (kX8_clearBuffer l D ct am w hs _ hw) (cwV 0 X.1.2.2.2.2 gL_law_X8_clearBuffer rfl rfl rfl (by decide +kernel) ⟨Nat.le_of_ble_eq_true rfl, Nat.le_of_ble_eq_true rfl⟩) dL_law_565 rfl rfl (Nat.le_of_ble_eq_true rfl) ⟨by show _ ≤ 601024; omega, by show _ ≤ 7293034; omega⟩ rfl rfl rfl (by decide) (fun _ => rfl) (fun _ => lq_15) (fun _ => rfl) (fun _ => rfl) rfl rfl rfl (fun r131 u132 hw => ?_)
  obtain ⟨w133, hw133⟩ : ∃ z : Mem, z = u132 := ⟨_, rfl⟩
  rw [← hw133] at hw
  rw [← hw133]
  refine g_icmp_eq X 1318 dL_law_568 (by decide) (fun c134 => ?_) (fun c134 => ?_)
  · replace hw := hw.1 c134
    refine g_iinc X [(4, .int (x4 + 3)), (0, .ref sb), (1, .ref (g 0 0)), (2, .ref (am 0)), (3, .ref (qa 0))] 4 dL_law_1318 rfl rfl (by decide) rfl ?_
    refine g_goto X 23 dL_law_1321 (by decide) ?_
    refine g_sub [(0, .ref sb), (1, .ref (g 0 0)), (2, .ref (am 0)), (3, .ref (qa 0)), (4, .int (x4 + 3))] [1, 2, 3, 4, 0] rfl ?_
    refine g_wide (k2 := 117 + (513 - n)) (j2 := 2344 + 6 * (513 - n)) (by omega) (by omega) ?_
    exact ih (by omega) _ _ _ _ _ _ _ _ _ _ _ _ _ hw
  · replace hw := hw.2 c134
    refine g_iconst (v := 0) X rfl dL_law_571 ?_
    exact hw.elim
