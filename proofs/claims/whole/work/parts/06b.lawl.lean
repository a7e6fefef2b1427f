set_option maxHeartbeats 20000000 in
set_option maxRecDepth 20000 in
theorem kL_arm_8 {p : Program} {l : Launch} {e : Env} {s : State} {m : MethodId} {args : Array Value} {below : List Frame} {meth : Method} {c : Code} {D : va_G} {ct : Nat → ClassId} {A : Nat → Prop} {Q : State → Prop} {sb L : Nat} {xs : Nat → Int32} {g : Nat → Nat → Nat} {am qa : Nat → Nat} (hl9 : l.stackTraces = false) (X : Cx p s m args meth c cL_law 9 RL wsL_law D (tyz ct) A s.heap ret) (XX : XL A s) (hX : va_X sb L xs s s.heap) (hbl : sb < s.heap.size) (hbA : ¬ A sb) (hend : ∀ (k j : Nat) (w : va_W) (lv : List (Nat × Value)), k ≤ 601024 → j ≤ 7293034 → GG p l e room_1 s m args below meth c D A s.heap 9 Q (w) (k) (j) lv 1325 [.int 1])  {n : Nat} (ih : n ≤ 513 → ∀ (kc : Mem) (v : Mem) (sl : Nat → Mem) (b : Mem) (r : Nat → Mem) (tx : Mem) (y : Mem) (o : Mem) (x : Mem) (w : Mem) (hs : Int64) (ou : Nat → Int64) (x4 : Int32), PL_law_23 xs L n kc v sl b r tx y o x w hs ou x4 → GG p l e room_1 s m args below meth c D A s.heap 9 Q (fl [wC ct g kc, wS ct (g 1) v, wS ct (g 2) (sl 0), wS ct (g 3) (sl 1), wV ct g b, wS ct (g 5) (r 0), wS ct (g 6) (r 1), wS ct (g 7) (r 2), wS ct (g 8) (r 3), wS ct (g 9) (r 4), wS ct (g 10) (r 5), wT ct (g 11) tx, wL ct (g 12) y, wO ct (g 13) o, wR ct (g 14) x, wM ct am w hs, wQ ct qa ou]) (117 + (513 - n)) (2344 + 6 * (513 - n)) [(0, .ref sb), (1, .ref (g 0 0)), (2, .ref (am 0)), (3, .ref (qa 0)), (4, .int x4)] 23 []) (hn9 : n + 1 ≤ 513) (kc : Mem) (v : Mem) (sl : Nat → Mem) (b : Mem) (r : Nat → Mem) (tx : Mem) (y : Mem) (o : Mem) (x : Mem) (w : Mem) (hs : Int64) (ou : Nat → Int64) (x4 : Int32) (c135 : ((xs (ix x4)) &&& 31) = 8) (hw : PX7_firstError kc tx (fun r136 => PX8_firstError w hs (fun r138 w140 => ((r136 = r138) → PL_law_23 xs L n kc v sl b r tx y o x w140 hs ou (x4 + 3)) ∧ ((¬ r136 = r138) → False)))) : GG p l e room_1 s m args below meth c D A s.heap 9 Q (fl [wC ct g kc, wS ct (g 1) v, wS ct (g 2) (sl 0), wS ct (g 3) (sl 1), wV ct g b, wS ct (g 5) (r 0), wS ct (g 6) (r 1), wS ct (g 7) (r 2), wS ct (g 8) (r 3), wS ct (g 9) (r 4), wS ct (g 10) (r 5), wT ct (g 11) tx, wL ct (g 12) y, wO ct (g 13) o, wR ct (g 14) x, wM ct am w hs, wQ ct qa ou]) (117 + (513 - (n + 1))) (2344 + 6 * (513 - (n + 1))) [(0, .ref sb), (1, .ref (g 0 0)), (2, .ref (am 0)), (3, .ref (qa 0)), (4, .int x4)] 573 [] := by
  refine g_aload_n X 1 dL_law_573 rfl rfl ?_
  refine g_ciV X [wC ct g kc, wS ct (g 1) v, wS ct (g 2) (sl 0), wS ct (g 3) (sl 1), wV ct g b, wS ct (g 5) (r 0), wS ct (g 6) (r 1), wS ct (g 7) (r 2), wS ct (g 8) (r 3), wS ct (g 9) (r 4), wS ct (g 10) (r 5), wT ct (g 11) tx, wL ct (g 12) y, wO ct (g 13) o, wR ct (g 14) x, wM ct am w hs, wQ ct qa ou] (fun (_ : Unit) => [wC ct g kc, wS ct (g 1) v, wS ct (g 2) (sl 0), wS ct (g 3) (sl 1), wV ct g b, wS ct (g 5) (r 0), wS ct (g 6) (r 1), wS ct (g 7) (r 2), wS ct (g 8) (r 3), wS ct (g 9) (r 4), wS ct (g 10) (r 5), wT ct (g 11) tx, wL ct (g 12) y, wO ct (g 13) o, wR ct (g 14) x, wM ct am w hs, wQ ct qa ou]) (fun _ => fl [wC ct g kc, wS ct (g 1) v, wS ct (g 2) (sl 0), wS ct (g 3) (sl 1), wV ct g b, wS ct (g 5) (r 0), wS ct (g 6) (r 1), wS ct (g 7) (r 2), wS ct (g 8) (r 3), wS ct (g 9) (r 4), wS ct (g 10) (r 5), wT ct (g 11) tx, wL ct (g 12) y, wO ct (g 13) o, wR ct (g 14) x, wM ct am w hs, wQ ct qa ou]) 17 [0, 11] [1, 2, 3, 4, 5, 6, 7, 8, 9, 10, 12, 13, 14, 15, 16] 0 (kX7_firstError l D ct g kc tx _ hw) (cwV 0 X.1.2.2.2.2 gL_law_X7_firstError rfl rfl rfl (by decide +kernel) ⟨Nat.le_of_ble_eq_true rfl, Nat.le_of_ble_eq_true rfl⟩) dL_law_574 rfl rfl (Nat.le_of_ble_eq_true rfl) ⟨by show _ ≤ 601024; omega, by show _ ≤ 7293034; omega⟩ rfl rfl rfl (by decide) (fun _ => rfl) (fun _ => lq_0_11) (fun _ => rfl) (fun _ => rfl) rfl rfl rfl (fun r136 _ hw => ?_)
  refine g_aload_n X 2 dL_law_577 rfl rfl ?_
  refine g_ciV X [wC ct g kc, wS ct (g 1) v, wS ct (g 2) (sl 0), wS ct (g 3) (sl 1), wV ct g b, wS ct (g 5) (r 0), wS ct (g 6) (r 1), wS ct (g 7) (r 2), wS ct (g 8) (r 3), wS ct (g 9) (r 4), wS ct (g 10) (r 5), wT ct (g 11) tx, wL ct (g 12) y, wO ct (g 13) o, wR ct (g 14) x, wM ct am w hs, wQ ct qa ou] (fun (u139 : Mem) => [wC ct g kc, wS ct (g 1) v, wS ct (g 2) (sl 0), wS ct (g 3) (sl 1), wV ct g b, wS ct (g 5) (r 0), wS ct (g 6) (r 1), wS ct (g 7) (r 2), wS ct (g 8) (r 3), wS ct (g 9) (r 4), wS ct (g 10) (r 5), wT ct (g 11) tx, wL ct (g 12) y, wO ct (g 13) o, wR ct (g 14) x, wM ct am u139 hs, wQ ct qa ou]) (fun (u139 : Mem) => fl [wC ct g kc, wS ct (g 1) v, wS ct (g 2) (sl 0), wS ct (g 3) (sl 1), wV ct g b, wS ct (g 5) (r 0), wS ct (g 6) (r 1), wS ct (g 7) (r 2), wS ct (g 8) (r 3), wS ct (g 9) (r 4), wS ct (g 10) (r 5), wT ct (g 11) tx, wL ct (g 12) y, wO ct (g 13) o, wR ct (g 14) x, wM ct am u139 hs, wQ ct qa ou]) 17 [15] [0, 1, 2, 3, 4, 5, 6, 7, 8, 9, 10, 11, 12, 13, 14, 16] 0 (kX8_firstError l D ct am w hs _ hw) (cwV 0 X.1.2.2.2.2 gL_law_X8_firstError rfl rfl rfl (by decide +kernel) ⟨Nat.le_of_ble_eq_true rfl, Nat.le_of_ble_eq_true rfl⟩) dL_law_578 rfl rfl (Nat.le_of_ble_eq_true rfl) ⟨by show _ ≤ 601024; omega, by show _ ≤ 7293034; omega⟩ rfl rfl rfl (by decide) (fun _ => rfl) (fun _ => lq_15) (fun _ => rfl) (fun _ => rfl) rfl rfl rfl (fun r138 u139 hw => ?_)
  obtain ⟨w140, hw140⟩ : ∃ z : Mem, z = u139 := ⟨_, rfl⟩
  rw [← hw140] at hw
  rw [← hw140]
  refine g_icmp_eq X 1318 dL_law_581 (by decide) (fun c141 => ?_) (fun c141 => ?_)
  · replace hw := hw.1 c141
    refine g_iinc X [(4, .int (x4 + 3)), (0, .ref sb), (1, .ref (g 0 0)), (2, .ref (am 0)), (3, .ref (qa 0))] 4 dL_law_1318 rfl rfl (by decide) rfl ?_
    refine g_goto X 23 dL_law_1321 (by decide) ?_
    refine g_sub [(0, .ref sb), (1, .ref (g 0 0)), (2, .ref (am 0)), (3, .ref (qa 0)), (4, .int (x4 + 3))] [1, 2, 3, 4, 0] rfl ?_
    refine g_wide (k2 := 117 + (513 - n)) (j2 := 2344 + 6 * (513 - n)) (by omega) (by omega) ?_
    exact ih (by omega) _ _ _ _ _ _ _ _ _ _ _ _ _ hw
  · replace hw := hw.2 c141
    refine g_iconst (v := 0) X rfl dL_law_584 ?_
    exact hw.elim
set_option maxHeartbeats 20000000 in
set_option maxRecDepth 20000 in
theorem kL_arm_9 {p : Program} {l : Launch} {e : Env} {s : State} {m : MethodId} {args : Array Value} {below : List Frame} {meth : Method} {c : Code} {D : va_G} {ct : Nat → ClassId} {A : Nat → Prop} {Q : State → Prop} {sb L : Nat} {xs : Nat → Int32} {g : Nat → Nat → Nat} {am qa : Nat → Nat} (hl9 : l.stackTraces = false) (X : Cx p s m args meth c cL_law 9 RL wsL_law D (tyz ct) A s.heap ret) (XX : XL A s) (hX : va_X sb L xs s s.heap) (hbl : sb < s.heap.size) (hbA : ¬ A sb) (hend : ∀ (k j : Nat) (w : va_W) (lv : List (Nat × Value)), k ≤ 601024 → j ≤ 7293034 → GG p l e room_1 s m args below meth c D A s.heap 9 Q (w) (k) (j) lv 1325 [.int 1])  {n : Nat} (ih : n ≤ 513 → ∀ (kc : Mem) (v : Mem) (sl : Nat → Mem) (b : Mem) (r : Nat → Mem) (tx : Mem) (y : Mem) (o : Mem) (x : Mem) (w : Mem) (hs : Int64) (ou : Nat → Int64) (x4 : Int32), PL_law_23 xs L n kc v sl b r tx y o x w hs ou x4 → GG p l e room_1 s m args below meth c D A s.heap 9 Q (fl [wC ct g kc, wS ct (g 1) v, wS ct (g 2) (sl 0), wS ct (g 3) (sl 1), wV ct g b, wS ct (g 5) (r 0), wS ct (g 6) (r 1), wS ct (g 7) (r 2), wS ct (g 8) (r 3), wS ct (g 9) (r 4), wS ct (g 10) (r 5), wT ct (g 11) tx, wL ct (g 12) y, wO ct (g 13) o, wR ct (g 14) x, wM ct am w hs, wQ ct qa ou]) (117 + (513 - n)) (2344 + 6 * (513 - n)) [(0, .ref sb), (1, .ref (g 0 0)), (2, .ref (am 0)), (3, .ref (qa 0)), (4, .int x4)] 23 []) (hn9 : n + 1 ≤ 513) (kc : Mem) (v : Mem) (sl : Nat → Mem) (b : Mem) (r : Nat → Mem) (tx : Mem) (y : Mem) (o : Mem) (x : Mem) (w : Mem) (hs : Int64) (ou : Nat → Int64) (x4 : Int32) (c142 : ((xs (ix x4)) &&& 31) = 9) (hw : PL_run kc v b r tx ou (fun r143 v145 b146 r147 tx148 ou149 => PX8_run w hs (fun r150 w152 => PX8_thrown w152 hs (fun r153 => ((r153 = r143) → ((¬ r143 = 0) → PL_law_23 xs L n kc v145 sl b146 r147 tx148 y o x w152 hs ou149 (x4 + 3)) ∧ ((r143 = 0) → (((lg_cmp (ou149 0) r150.toInt64) = 0) → PL_law_23 xs L n kc v145 sl b146 r147 tx148 y o x w152 hs ou149 (x4 + 3)) ∧ ((¬ (lg_cmp (ou149 0) r150.toInt64) = 0) → False))) ∧ ((¬ r153 = r143) → False))))) : GG p l e room_1 s m args below meth c D A s.heap 9 Q (fl [wC ct g kc, wS ct (g 1) v, wS ct (g 2) (sl 0), wS ct (g 3) (sl 1), wV ct g b, wS ct (g 5) (r 0), wS ct (g 6) (r 1), wS ct (g 7) (r 2), wS ct (g 8) (r 3), wS ct (g 9) (r 4), wS ct (g 10) (r 5), wT ct (g 11) tx, wL ct (g 12) y, wO ct (g 13) o, wR ct (g 14) x, wM ct am w hs, wQ ct qa ou]) (117 + (513 - (n + 1))) (2344 + 6 * (513 - (n + 1))) [(0, .ref sb), (1, .ref (g 0 0)), (2, .ref (am 0)), (3, .ref (qa 0)), (4, .int x4)] 586 [] := by
  refine g_aload_n X 1 dL_law_586 rfl rfl ?_
  refine g_aload_n X 3 dL_law_587 rfl rfl ?_
  refine g_chS X XX [wC ct g kc, wS ct (g 1) v, wS ct (g 2) (sl 0), wS ct (g 3) (sl 1), wV ct g b, wS ct (g 5) (r 0), wS ct (g 6) (r 1), wS ct (g 7) (r 2), wS ct (g 8) (r 3), wS ct (g 9) (r 4), wS ct (g 10) (r 5), wT ct (g 11) tx, wL ct (g 12) y, wO ct (g 13) o, wR ct (g 14) x, wM ct am w hs, wQ ct qa ou] (fun (u144 : Mem × Mem × (Nat → Mem) × Mem × (Nat → Int64)) => [wC ct g kc, wS ct (g 1) u144.1, wS ct (g 2) (sl 0), wS ct (g 3) (sl 1), wV ct g u144.2.1, wS ct (g 5) (u144.2.2.1 0), wS ct (g 6) (u144.2.2.1 1), wS ct (g 7) (u144.2.2.1 2), wS ct (g 8) (u144.2.2.1 3), wS ct (g 9) (u144.2.2.1 4), wS ct (g 10) (u144.2.2.1 5), wT ct (g 11) u144.2.2.2.1, wL ct (g 12) y, wO ct (g 13) o, wR ct (g 14) x, wM ct am w hs, wQ ct qa u144.2.2.2.2]) (fun (u144 : Mem × Mem × (Nat → Mem) × Mem × (Nat → Int64)) => fl [wC ct g kc, wS ct (g 1) u144.1, wS ct (g 2) (sl 0), wS ct (g 3) (sl 1), wV ct g u144.2.1, wS ct (g 5) (u144.2.2.1 0), wS ct (g 6) (u144.2.2.1 1), wS ct (g 7) (u144.2.2.1 2), wS ct (g 8) (u144.2.2.1 3), wS ct (g 9) (u144.2.2.1 4), wS ct (g 10) (u144.2.2.1 5), wT ct (g 11) u144.2.2.2.1, wL ct (g 12) y, wO ct (g 13) o, wR ct (g 14) x, wM ct am w hs, wQ ct qa u144.2.2.2.2]) 17 [0, 1, 4, 5, 6, 7, 8, 9, 10, 11, 16] [2, 3, 12, 13, 14, 15] (kL_run l hl9 D ct g qa kc v b r tx ou _ hw) (vx_cwSW 2 X.1.2.2.2.2 gL_law_L_run rfl rfl rfl (by decide +kernel) ⟨Nat.le_of_ble_eq_true rfl, Nat.le_of_ble_eq_true rfl⟩) dL_law_588 rfl rfl (Nat.le_of_ble_eq_true rfl) ⟨by show _ ≤ 601024; omega, by show _ ≤ 7293034; omega⟩ rfl rfl rfl (by decide) (fun _ => rfl) (fun _ => lq_0_1_4_5_6_7_8_9_10_11_16) (fun _ => rfl) (fun _ => rfl) (fun r143 u144 hw => ?_)
  obtain ⟨v145, hv145⟩ : ∃ z : Mem, z = u144.1 := ⟨_, rfl⟩
  rw [← hv145] at hw
  rw [← hv145]
  obtain ⟨b146, hb146⟩ : ∃ z : Mem, z = u144.2.1 := ⟨_, rfl⟩
  rw [← hb146] at hw
  rw [← hb146]
  obtain ⟨r147, hr147⟩ : ∃ z : Nat → Mem, z = u144.2.2.1 := ⟨_, rfl⟩
  rw [← hr147] at hw
  rw [← hr147]
  obtain ⟨tx148, htx148⟩ : ∃ z : Mem, z = u144.2.2.2.1 := ⟨_, rfl⟩
  rw [← htx148] at hw
  rw [← htx148]
  obtain ⟨ou149, hou149⟩ : ∃ z : Nat → Int64, z = u144.2.2.2.2 := ⟨_, rfl⟩
  rw [← hou149] at hw
  rw [← hou149]
  refine g_istore X [(5, .int r143), (0, .ref sb), (1, .ref (g 0 0)), (2, .ref (am 0)), (3, .ref (qa 0)), (4, .int x4)] dL_law_591 (by decide) rfl ?_
  refine g_aload_n X 3 dL_law_593 rfl rfl ?_
  refine g_ciV X [wC ct g kc, wS ct (g 1) v145, wS ct (g 2) (sl 0), wS ct (g 3) (sl 1), wV ct g b146, wS ct (g 5) (r147 0), wS ct (g 6) (r147 1), wS ct (g 7) (r147 2), wS ct (g 8) (r147 3), wS ct (g 9) (r147 4), wS ct (g 10) (r147 5), wT ct (g 11) tx148, wL ct (g 12) y, wO ct (g 13) o, wR ct (g 14) x, wM ct am w hs, wQ ct qa ou149] (fun (u151 : Mem) => [wC ct g kc, wS ct (g 1) v145, wS ct (g 2) (sl 0), wS ct (g 3) (sl 1), wV ct g b146, wS ct (g 5) (r147 0), wS ct (g 6) (r147 1), wS ct (g 7) (r147 2), wS ct (g 8) (r147 3), wS ct (g 9) (r147 4), wS ct (g 10) (r147 5), wT ct (g 11) tx148, wL ct (g 12) y, wO ct (g 13) o, wR ct (g 14) x, wM ct am u151 hs, wQ ct qa ou149]) (fun (u151 : Mem) => fl [wC ct g kc, wS ct (g 1) v145, wS ct (g 2) (sl 0), wS ct (g 3) (sl 1), wV ct g b146, wS ct (g 5) (r147 0), wS ct (g 6) (r147 1), wS ct (g 7) (r147 2), wS ct (g 8) (r147 3), wS ct (g 9) (r147 4), wS ct (g 10) (r147 5), wT ct (g 11) tx148, wL ct (g 12) y, wO ct (g 13) o, wR ct (g 14) x, wM ct am u151 hs, wQ ct qa ou149]) 17 [15] [0, 1, 2, 3, 4, 5, 6, 7, 8, 9, 10, 11, 12, 13, 14, 16] 0 (kX8_run l D ct am w hs _ hw) (cwV 0 X.1.2.2.2.2 gL_law_X8_run rfl rfl rfl (by decide +kernel) ⟨Nat.le_of_ble_eq_true rfl, Nat.le_of_ble_eq_true rfl⟩) dL_law_594 rfl rfl (Nat.le_of_ble_eq_true rfl) ⟨by show _ ≤ 601024; omega, by show _ ≤ 7293034; omega⟩ rfl rfl rfl (by decide) (fun _ => rfl) (fun _ => lq_15) (fun _ => rfl) (fun _ => rfl) rfl rfl rfl (fun r150 u151 hw => ?_)
  obtain ⟨w152, hw152⟩ : ∃ z : Mem, z = u151 := ⟨_, rfl⟩
  rw [← hw152] at hw
  rw [← hw152]
  refine g_istore X [(6, .int r150), (5, .int r143), (0, .ref sb), (1, .ref (g 0 0)), (2, .ref (am 0)), (3, .ref (qa 0)), (4, .int x4)] dL_law_597 (by decide) rfl ?_
  refine g_aload_n X 4 dL_law_599 rfl rfl ?_
  refine g_ciV X [wC ct g kc, wS ct (g 1) v145, wS ct (g 2) (sl 0), wS ct (g 3) (sl 1), wV ct g b146, wS ct (g 5) (r147 0), wS ct (g 6) (r147 1), wS ct (g 7) (r147 2), wS ct (g 8) (r147 3), wS ct (g 9) (r147 4), wS ct (g 10) (r147 5), wT ct (g 11) tx148, wL ct (g 12) y, wO ct (g 13) o, wR ct (g 14) x, wM ct am w152 hs, wQ ct qa ou149] (fun (_ : Unit) => [wC ct g kc, wS ct (g 1) v145, wS ct (g 2) (sl 0), wS ct (g 3) (sl 1), wV ct g b146, wS ct (g 5) (r147 0), wS ct (g 6) (r147 1), wS ct (g 7) (r147 2), wS ct (g 8) (r147 3), wS ct (g 9) (r147 4), wS ct (g 10) (r147 5), wT ct (g 11) tx148, wL ct (g 12) y, wO ct (g 13) o, wR ct (g 14) x, wM ct am w152 hs, wQ ct qa ou149]) (fun _ => fl [wC ct g kc, wS ct (g 1) v145, wS ct (g 2) (sl 0), wS ct (g 3) (sl 1), wV ct g b146, wS ct (g 5) (r147 0), wS ct (g 6) (r147 1), wS ct (g 7) (r147 2), wS ct (g 8) (r147 3), wS ct (g 9) (r147 4), wS ct (g 10) (r147 5), wT ct (g 11) tx148, wL ct (g 12) y, wO ct (g 13) o, wR ct (g 14) x, wM ct am w152 hs, wQ ct qa ou149]) 17 [15] [0, 1, 2, 3, 4, 5, 6, 7, 8, 9, 10, 11, 12, 13, 14, 16] 0 (kX8_thrown l D ct am w152 hs _ hw) (cwV 0 X.1.2.2.2.2 gL_law_X8_thrown rfl rfl rfl (by decide +kernel) ⟨Nat.le_of_ble_eq_true rfl, Nat.le_of_ble_eq_true rfl⟩) dL_law_600 rfl rfl (Nat.le_of_ble_eq_true rfl) ⟨by show _ ≤ 601024; omega, by show _ ≤ 7293034; omega⟩ rfl rfl rfl (by decide) (fun _ => rfl) (fun _ => lq_15) (fun _ => rfl) (fun _ => rfl) rfl rfl rfl (fun r153 _ hw => ?_)
  refine g_iload X 1 dL_law_603 rfl ?_
  refine g_icmp_eq X 610 dL_law_605 (by decide) (fun c155 => ?_) (fun c155 => ?_)
  · replace hw := hw.1 c155
    refine g_iload X 1 dL_law_610 rfl ?_
    refine g_if_ne X 627 dL_law_612 (by decide) (fun c156 => ?_) (fun c156 => ?_)
    · replace hw := hw.1 c156
      refine g_goto X 1318 dL_law_627 (by decide) ?_
      refine g_iinc X [(4, .int (x4 + 3)), (6, .int r150), (5, .int r143), (0, .ref sb), (1, .ref (g 0 0)), (2, .ref (am 0)), (3, .ref (qa 0))] 6 dL_law_1318 rfl rfl (by decide) rfl ?_
      refine g_goto X 23 dL_law_1321 (by decide) ?_
      refine g_sub [(0, .ref sb), (1, .ref (g 0 0)), (2, .ref (am 0)), (3, .ref (qa 0)), (4, .int (x4 + 3))] [3, 4, 5, 6, 0] rfl ?_
      refine g_wide (k2 := 117 + (513 - n)) (j2 := 2344 + 6 * (513 - n)) (by omega) (by omega) ?_
      exact ih (by omega) _ _ _ _ _ _ _ _ _ _ _ _ _ hw
    · replace hw := hw.2 c156
      refine g_aload_n X 5 dL_law_615 rfl rfl ?_
      refine g_iconst (v := 0) X rfl dL_law_616 ?_
      refine g_lald X 116 4 dL_law_617 rfl rfl (vp_in_nI (n := 0) (by decide) (by decide)) ?_
      refine g_iload X 0 dL_law_618 rfl ?_
      refine g_i2l X dL_law_620 ?_
      refine g_lcmp X dL_law_621 ?_
      refine g_if_eq X 627 dL_law_622 (by decide) (fun c157 => ?_) (fun c157 => ?_)
      · replace hw := hw.1 c157
        refine g_goto X 1318 dL_law_627 (by decide) ?_
        refine g_iinc X [(4, .int (x4 + 3)), (6, .int r150), (5, .int r143), (0, .ref sb), (1, .ref (g 0 0)), (2, .ref (am 0)), (3, .ref (qa 0))] 6 dL_law_1318 rfl rfl (by decide) rfl ?_
        refine g_goto X 23 dL_law_1321 (by decide) ?_
        refine g_sub [(0, .ref sb), (1, .ref (g 0 0)), (2, .ref (am 0)), (3, .ref (qa 0)), (4, .int (x4 + 3))] [3, 4, 5, 6, 0] rfl ?_
        refine g_wide (k2 := 117 + (513 - n)) (j2 := 2344 + 6 * (513 - n)) (by omega) (by omega) ?_
        exact ih (by omega) _ _ _ _ _ _ _ _ _ _ _ _ _ hw
      · replace hw := hw.2 c157
        refine g_iconst (v := 0) X rfl dL_law_625 ?_
        exact hw.elim
  · replace hw := hw.2 c155
    refine g_iconst (v := 0) X rfl dL_law_608 ?_
    exact hw.elim
set_option maxHeartbeats 20000000 in
set_option maxRecDepth 20000 in
theorem kL_arm_10 {p : Program} {l : Launch} {e : Env} {s : State} {m : MethodId} {args : Array Value} {below : List Frame} {meth : Method} {c : Code} {D : va_G} {ct : Nat → ClassId} {A : Nat → Prop} {Q : State → Prop} {sb L : Nat} {xs : Nat → Int32} {g : Nat → Nat → Nat} {am qa : Nat → Nat} (hl9 : l.stackTraces = false) (X : Cx p s m args meth c cL_law 9 RL wsL_law D (tyz ct) A s.heap ret) (XX : XL A s) (hX : va_X sb L xs s s.heap) (hbl : sb < s.heap.size) (hbA : ¬ A sb) (hend : ∀ (k j : Nat) (w : va_W) (lv : List (Nat × Value)), k ≤ 601024 → j ≤ 7293034 → GG p l e room_1 s m args below meth c D A s.heap 9 Q (w) (k) (j) lv 1325 [.int 1])  {n : Nat} (ih : n ≤ 513 → ∀ (kc : Mem) (v : Mem) (sl : Nat → Mem) (b : Mem) (r : Nat → Mem) (tx : Mem) (y : Mem) (o : Mem) (x : Mem) (w : Mem) (hs : Int64) (ou : Nat → Int64) (x4 : Int32), PL_law_23 xs L n kc v sl b r tx y o x w hs ou x4 → GG p l e room_1 s m args below meth c D A s.heap 9 Q (fl [wC ct g kc, wS ct (g 1) v, wS ct (g 2) (sl 0), wS ct (g 3) (sl 1), wV ct g b, wS ct (g 5) (r 0), wS ct (g 6) (r 1), wS ct (g 7) (r 2), wS ct (g 8) (r 3), wS ct (g 9) (r 4), wS ct (g 10) (r 5), wT ct (g 11) tx, wL ct (g 12) y, wO ct (g 13) o, wR ct (g 14) x, wM ct am w hs, wQ ct qa ou]) (117 + (513 - n)) (2344 + 6 * (513 - n)) [(0, .ref sb), (1, .ref (g 0 0)), (2, .ref (am 0)), (3, .ref (qa 0)), (4, .int x4)] 23 []) (hn9 : n + 1 ≤ 513) (kc : Mem) (v : Mem) (sl : Nat → Mem) (b : Mem) (r : Nat → Mem) (tx : Mem) (y : Mem) (o : Mem) (x : Mem) (w : Mem) (hs : Int64) (ou : Nat → Int64) (x4 : Int32) (c158 : ((xs (ix x4)) &&& 31) = 10) (hw : vp_in (x4 + 1) L ∧ PL_keep kc v sl ou (xs (ix (x4 + 1))) (fun r160 kc162 sl163 ou164 => vp_in (x4 + 1) L ∧ PX8_keep w hs (xs (ix (x4 + 1))) (fun r166 w168 => PX8_thrown w168 hs (fun r169 => ((r169 = r160) → ((¬ r160 = 0) → PL_law_23 xs L n kc162 v sl163 b r tx y o x w168 hs ou164 (x4 + 3)) ∧ ((r160 = 0) → (((lg_cmp (ou164 0) r166.toInt64) = 0) → PL_law_23 xs L n kc162 v sl163 b r tx y o x w168 hs ou164 (x4 + 3)) ∧ ((¬ (lg_cmp (ou164 0) r166.toInt64) = 0) → False))) ∧ ((¬ r169 = r160) → False))))) : GG p l e room_1 s m args below meth c D A s.heap 9 Q (fl [wC ct g kc, wS ct (g 1) v, wS ct (g 2) (sl 0), wS ct (g 3) (sl 1), wV ct g b, wS ct (g 5) (r 0), wS ct (g 6) (r 1), wS ct (g 7) (r 2), wS ct (g 8) (r 3), wS ct (g 9) (r 4), wS ct (g 10) (r 5), wT ct (g 11) tx, wL ct (g 12) y, wO ct (g 13) o, wR ct (g 14) x, wM ct am w hs, wQ ct qa ou]) (117 + (513 - (n + 1))) (2344 + 6 * (513 - (n + 1))) [(0, .ref sb), (1, .ref (g 0 0)), (2, .ref (am 0)), (3, .ref (qa 0)), (4, .int x4)] 630 [] := by
  refine g_aload_n X 1 dL_law_630 rfl rfl ?_
  refine g_aload_n X 0 dL_law_631 rfl rfl ?_
  refine g_iload X 4 dL_law_632 rfl ?_
  refine g_iconst (v := 1) X rfl dL_law_634 ?_
  refine g_iadd X dL_law_635 ?_
  obtain ⟨h159, hw⟩ := hw
  refine g_sld X hX hbl hbA h159 dL_law_636 ?_
  refine g_aload_n X 3 dL_law_637 rfl rfl ?_
  refine g_chS X XX [wC ct g kc, wS ct (g 1) v, wS ct (g 2) (sl 0), wS ct (g 3) (sl 1), wV ct g b, wS ct (g 5) (r 0), wS ct (g 6) (r 1), wS ct (g 7) (r 2), wS ct (g 8) (r 3), wS ct (g 9) (r 4), wS ct (g 10) (r 5), wT ct (g 11) tx, wL ct (g 12) y, wO ct (g 13) o, wR ct (g 14) x, wM ct am w hs, wQ ct qa ou] (fun (u161 : Mem × (Nat → Mem) × (Nat → Int64)) => [wC ct g u161.1, wS ct (g 1) v, wS ct (g 2) (u161.2.1 0), wS ct (g 3) (u161.2.1 1), wV ct g b, wS ct (g 5) (r 0), wS ct (g 6) (r 1), wS ct (g 7) (r 2), wS ct (g 8) (r 3), wS ct (g 9) (r 4), wS ct (g 10) (r 5), wT ct (g 11) tx, wL ct (g 12) y, wO ct (g 13) o, wR ct (g 14) x, wM ct am w hs, wQ ct qa u161.2.2]) (fun (u161 : Mem × (Nat → Mem) × (Nat → Int64)) => fl [wC ct g u161.1, wS ct (g 1) v, wS ct (g 2) (u161.2.1 0), wS ct (g 3) (u161.2.1 1), wV ct g b, wS ct (g 5) (r 0), wS ct (g 6) (r 1), wS ct (g 7) (r 2), wS ct (g 8) (r 3), wS ct (g 9) (r 4), wS ct (g 10) (r 5), wT ct (g 11) tx, wL ct (g 12) y, wO ct (g 13) o, wR ct (g 14) x, wM ct am w hs, wQ ct qa u161.2.2]) 17 [0, 1, 2, 3, 16] [4, 5, 6, 7, 8, 9, 10, 11, 12, 13, 14, 15] (kL_keep l hl9 D ct g qa kc v sl ou (xs (ix (x4 + 1))) _ hw) (vx_cwSW 3 X.1.2.2.2.2 gL_law_L_keep rfl rfl rfl (by decide +kernel) ⟨Nat.le_of_ble_eq_true rfl, Nat.le_of_ble_eq_true rfl⟩) dL_law_638 rfl rfl (Nat.le_of_ble_eq_true rfl) ⟨by show _ ≤ 601024; omega, by show _ ≤ 7293034; omega⟩ rfl rfl rfl (by decide) (fun _ => rfl) (fun _ => lq_0_1_2_3_16) (fun _ => rfl) (fun _ => rfl) (fun r160 u161 hw => ?_)
  obtain ⟨kc162, hkc162⟩ : ∃ z : Mem, z = u161.1 := ⟨_, rfl⟩
  rw [← hkc162] at hw
  rw [← hkc162]
  obtain ⟨sl163, hsl163⟩ : ∃ z : Nat → Mem, z = u161.2.1 := ⟨_, rfl⟩
  rw [← hsl163] at hw
  rw [← hsl163]
  obtain ⟨ou164, hou164⟩ : ∃ z : Nat → Int64, z = u161.2.2 := ⟨_, rfl⟩
  rw [← hou164] at hw
  rw [← hou164]
  refine g_istore X [(5, .int r160), (0, .ref sb), (1, .ref (g 0 0)), (2, .ref (am 0)), (3, .ref (qa 0)), (4, .int x4)] dL_law_641 (by decide) rfl ?_
  refine g_aload_n X 3 dL_law_643 rfl rfl ?_
  refine g_aload_n X 1 dL_law_644 rfl rfl ?_
  refine g_iload X 5 dL_law_645 rfl ?_
  refine g_iconst (v := 1) X rfl dL_law_647 ?_
  refine g_iadd X dL_law_648 ?_
  obtain ⟨h165, hw⟩ := hw
  refine g_sld X hX hbl hbA h165 dL_law_649 ?_
  refine g_ciV X [wC ct g kc162, wS ct (g 1) v, wS ct (g 2) (sl163 0), wS ct (g 3) (sl163 1), wV ct g b, wS ct (g 5) (r 0), wS ct (g 6) (r 1), wS ct (g 7) (r 2), wS ct (g 8) (r 3), wS ct (g 9) (r 4), wS ct (g 10) (r 5), wT ct (g 11) tx, wL ct (g 12) y, wO ct (g 13) o, wR ct (g 14) x, wM ct am w hs, wQ ct qa ou164] (fun (u167 : Mem) => [wC ct g kc162, wS ct (g 1) v, wS ct (g 2) (sl163 0), wS ct (g 3) (sl163 1), wV ct g b, wS ct (g 5) (r 0), wS ct (g 6) (r 1), wS ct (g 7) (r 2), wS ct (g 8) (r 3), wS ct (g 9) (r 4), wS ct (g 10) (r 5), wT ct (g 11) tx, wL ct (g 12) y, wO ct (g 13) o, wR ct (g 14) x, wM ct am u167 hs, wQ ct qa ou164]) (fun (u167 : Mem) => fl [wC ct g kc162, wS ct (g 1) v, wS ct (g 2) (sl163 0), wS ct (g 3) (sl163 1), wV ct g b, wS ct (g 5) (r 0), wS ct (g 6) (r 1), wS ct (g 7) (r 2), wS ct (g 8) (r 3), wS ct (g 9) (r 4), wS ct (g 10) (r 5), wT ct (g 11) tx, wL ct (g 12) y, wO ct (g 13) o, wR ct (g 14) x, wM ct am u167 hs, wQ ct qa ou164]) 17 [15] [0, 1, 2, 3, 4, 5, 6, 7, 8, 9, 10, 11, 12, 13, 14, 16] 0 (kX8_keep l D ct am w hs (xs (ix (x4 + 1))) _ hw) (cwV 1 X.1.2.2.2.2 gL_law_X8_keep rfl rfl rfl (by decide +kernel) ⟨Nat.le_of_ble_eq_true rfl, Nat.le_of_ble_eq_true rfl⟩) dL_law_650 rfl rfl (Nat.le_of_ble_eq_true rfl) ⟨by show _ ≤ 601024; omega, by show _ ≤ 7293034; omega⟩ rfl rfl rfl (by decide) (fun _ => rfl) (fun _ => lq_15) (fun _ => rfl) (fun _ => rfl) rfl rfl rfl (fun r166 u167 hw => ?_)
  obtain ⟨w168, hw168⟩ : ∃ z : Mem, z = u167 := ⟨_, rfl⟩
  rw [← hw168] at hw
  rw [← hw168]
  refine g_istore X [(6, .int r166), (5, .int r160), (0, .ref sb), (1, .ref (g 0 0)), (2, .ref (am 0)), (3, .ref (qa 0)), (4, .int x4)] dL_law_653 (by decide) rfl ?_
  refine g_aload_n X 4 dL_law_655 rfl rfl ?_
  refine g_ciV X [wC ct g kc162, wS ct (g 1) v, wS ct (g 2) (sl163 0), wS ct (g 3) (sl163 1), wV ct g b, wS ct (g 5) (r 0), wS ct (g 6) (r 1), wS ct (g 7) (r 2), wS ct (g 8) (r 3), wS ct (g 9) (r 4), wS ct (g 10) (r 5), wT ct (g 11) tx, wL ct (g 12) y, wO ct (g 13) o, wR ct (g 14) x, wM ct am w168 hs, wQ ct qa ou164] (fun (_ : Unit) => [wC ct g kc162, wS ct (g 1) v, wS ct (g 2) (sl163 0), wS ct (g 3) (sl163 1), wV ct g b, wS ct (g 5) (r 0), wS ct (g 6) (r 1), wS ct (g 7) (r 2), wS ct (g 8) (r 3), wS ct (g 9) (r 4), wS ct (g 10) (r 5), wT ct (g 11) tx, wL ct (g 12) y, wO ct (g 13) o, wR ct (g 14) x, wM ct am w168 hs, wQ ct qa ou164]) (fun _ => fl [wC ct g kc162, wS ct (g 1) v, wS ct (g 2) (sl163 0), wS ct (g 3) (sl163 1), wV ct g b, wS ct (g 5) (r 0), wS ct (g 6) (r 1), wS ct (g 7) (r 2), wS ct (g 8) (r 3), wS ct (g 9) (r 4), wS ct (g 10) (r 5), wT ct (g 11) tx, wL ct (g 12) y, wO ct (g 13) o, wR ct (g 14) x, wM ct am w168 hs, wQ ct qa ou164]) 17 [15] [0, 1, 2, 3, 4, 5, 6, 7, 8, 9, 10, 11, 12, 13, 14, 16] 0 (kX8_thrown l D ct am w168 hs _ hw) (cwV 0 X.1.2.2.2.2 gL_law_X8_thrown rfl rfl rfl (by decide +kernel) ⟨Nat.le_of_ble_eq_true rfl, Nat.le_of_ble_eq_true rfl⟩) dL_law_656 rfl rfl (Nat.le_of_ble_eq_true rfl) ⟨by show _ ≤ 601024; omega, by show _ ≤ 7293034; omega⟩ rfl rfl rfl (by decide) (fun _ => rfl) (fun _ => lq_15) (fun _ => rfl) (fun _ => rfl) rfl rfl rfl (fun r169 _ hw => ?_)
  refine g_iload X 1 dL_law_659 rfl ?_
  refine g_icmp_eq X 666 dL_law_661 (by decide) (fun c171 => ?_) (fun c171 => ?_)
  · replace hw := hw.1 c171
    refine g_iload X 1 dL_law_666 rfl ?_
    refine g_if_ne X 683 dL_law_668 (by decide) (fun c172 => ?_) (fun c172 => ?_)
    · replace hw := hw.1 c172
      refine g_goto X 1318 dL_law_683 (by decide) ?_
      refine g_iinc X [(4, .int (x4 + 3)), (6, .int r166), (5, .int r160), (0, .ref sb), (1, .ref (g 0 0)), (2, .ref (am 0)), (3, .ref (qa 0))] 6 dL_law_1318 rfl rfl (by decide) rfl ?_
      refine g_goto X 23 dL_law_1321 (by decide) ?_
      refine g_sub [(0, .ref sb), (1, .ref (g 0 0)), (2, .ref (am 0)), (3, .ref (qa 0)), (4, .int (x4 + 3))] [3, 4, 5, 6, 0] rfl ?_
      refine g_wide (k2 := 117 + (513 - n)) (j2 := 2344 + 6 * (513 - n)) (by omega) (by omega) ?_
      exact ih (by omega) _ _ _ _ _ _ _ _ _ _ _ _ _ hw
    · replace hw := hw.2 c172
      refine g_aload_n X 5 dL_law_671 rfl rfl ?_
      refine g_iconst (v := 0) X rfl dL_law_672 ?_
      refine g_lald X 116 4 dL_law_673 rfl rfl (vp_in_nI (n := 0) (by decide) (by decide)) ?_
      refine g_iload X 0 dL_law_674 rfl ?_
      refine g_i2l X dL_law_676 ?_
      refine g_lcmp X dL_law_677 ?_
      refine g_if_eq X 683 dL_law_678 (by decide) (fun c173 => ?_) (fun c173 => ?_)
      · replace hw := hw.1 c173
        refine g_goto X 1318 dL_law_683 (by decide) ?_
        refine g_iinc X [(4, .int (x4 + 3)), (6, .int r166), (5, .int r160), (0, .ref sb), (1, .ref (g 0 0)), (2, .ref (am 0)), (3, .ref (qa 0))] 6 dL_law_1318 rfl rfl (by decide) rfl ?_
        refine g_goto X 23 dL_law_1321 (by decide) ?_
        refine g_sub [(0, .ref sb), (1, .ref (g 0 0)), (2, .ref (am 0)), (3, .ref (qa 0)), (4, .int (x4 + 3))] [3, 4, 5, 6, 0] rfl ?_
        refine g_wide (k2 := 117 + (513 - n)) (j2 := 2344 + 6 * (513 - n)) (by omega) (by omega) ?_
        exact ih (by omega) _ _ _ _ _ _ _ _ _ _ _ _ _ hw
      · replace hw := hw.2 c173
        refine g_iconst (v := 0) X rfl dL_law_681 ?_
        exact hw.elim
  · replace hw := hw.2 c171
    refine g_iconst (v := 0) X rfl dL_law_664 ?_
    exact hw.elim
set_option maxHeartbeats 20000000 in
set_option maxRecDepth 20000 in
theorem kL_arm_11 {p : Program} {l : Launch} {e : Env} {s : State} {m : MethodId} {args : Array Value} {below : List Frame} {meth : Method} {c : Code} {D : va_G} {ct : Nat → ClassId} {A : Nat → Prop} {Q : State → Prop} {sb L : Nat} {xs : Nat → Int32} {g : Nat → Nat → Nat} {am qa : Nat → Nat} (hl9 : l.stackTraces = false) (X : Cx p s m args meth c cL_law 9 RL wsL_law D (tyz ct) A s.heap ret) (XX : XL A s) (hX : va_X sb L xs s s.heap) (hbl : sb < s.heap.size) (hbA : ¬ A sb) (hend : ∀ (k j : Nat) (w : va_W) (lv : List (Nat × Value)), k ≤ 601024 → j ≤ 7293034 → GG p l e room_1 s m args below meth c D A s.heap 9 Q (w) (k) (j) lv 1325 [.int 1])  {n : Nat} (ih : n ≤ 513 → ∀ (kc : Mem) (v : Mem) (sl : Nat → Mem) (b : Mem) (r : Nat → Mem) (tx : Mem) (y : Mem) (o : Mem) (x : Mem) (w : Mem) (hs : Int64) (ou : Nat → Int64) (x4 : Int32), PL_law_23 xs L n kc v sl b r tx y o x w hs ou x4 → GG p l e room_1 s m args below meth c D A s.heap 9 Q (fl [wC ct g kc, wS ct (g 1) v, wS ct (g 2) (sl 0), wS ct (g 3) (sl 1), wV ct g b, wS ct (g 5) (r 0), wS ct (g 6) (r 1), wS ct (g 7) (r 2), wS ct (g 8) (r 3), wS ct (g 9) (r 4), wS ct (g 10) (r 5), wT ct (g 11) tx, wL ct (g 12) y, wO ct (g 13) o, wR ct (g 14) x, wM ct am w hs, wQ ct qa ou]) (117 + (513 - n)) (2344 + 6 * (513 - n)) [(0, .ref sb), (1, .ref (g 0 0)), (2, .ref (am 0)), (3, .ref (qa 0)), (4, .int x4)] 23 []) (hn9 : n + 1 ≤ 513) (kc : Mem) (v : Mem) (sl : Nat → Mem) (b : Mem) (r : Nat → Mem) (tx : Mem) (y : Mem) (o : Mem) (x : Mem) (w : Mem) (hs : Int64) (ou : Nat → Int64) (x4 : Int32) (c174 : ((xs (ix x4)) &&& 31) = 11) (hw : vp_in (x4 + 1) L ∧ PL_goBack kc v sl b r ou (xs (ix (x4 + 1))) (fun r176 v178 b179 r180 ou181 => vp_in (x4 + 1) L ∧ PX8_goBack w hs (xs (ix (x4 + 1))) (fun r183 w185 => PX8_thrown w185 hs (fun r186 => ((r186 = r176) → ((¬ r176 = 0) → PL_law_23 xs L n kc v178 sl b179 r180 tx y o x w185 hs ou181 (x4 + 3)) ∧ ((r176 = 0) → (((lg_cmp (ou181 0) r183.toInt64) = 0) → PL_law_23 xs L n kc v178 sl b179 r180 tx y o x w185 hs ou181 (x4 + 3)) ∧ ((¬ (lg_cmp (ou181 0) r183.toInt64) = 0) → False))) ∧ ((¬ r186 = r176) → False))))) : GG p l e room_1 s m args below meth c D A s.heap 9 Q (fl [wC ct g kc, wS ct (g 1) v, wS ct (g 2) (sl 0), wS ct (g 3) (sl 1), wV ct g b, wS ct (g 5) (r 0), wS ct (g 6) (r 1), wS ct (g 7) (r 2), wS ct (g 8) (r 3), wS ct (g 9) (r 4), wS ct (g 10) (r 5), wT ct (g 11) tx, wL ct (g 12) y, wO ct (g 13) o, wR ct (g 14) x, wM ct am w hs, wQ ct qa ou]) (117 + (513 - (n + 1))) (2344 + 6 * (513 - (n + 1))) [(0, .ref sb), (1, .ref (g 0 0)), (2, .ref (am 0)), (3, .ref (qa 0)), (4, .int x4)] 686 [] := by
  refine g_aload_n X 1 dL_law_686 rfl rfl ?_
  refine g_aload_n X 0 dL_law_687 rfl rfl ?_
  refine g_iload X 4 dL_law_688 rfl ?_
  refine g_iconst (v := 1) X rfl dL_law_690 ?_
  refine g_iadd X dL_law_691 ?_
  obtain ⟨h175, hw⟩ := hw
  refine g_sld X hX hbl hbA h175 dL_law_692 ?_
  refine g_aload_n X 3 dL_law_693 rfl rfl ?_
  refine g_chS X XX [wC ct g kc, wS ct (g 1) v, wS ct (g 2) (sl 0), wS ct (g 3) (sl 1), wV ct g b, wS ct (g 5) (r 0), wS ct (g 6) (r 1), wS ct (g 7) (r 2), wS ct (g 8) (r 3), wS ct (g 9) (r 4), wS ct (g 10) (r 5), wT ct (g 11) tx, wL ct (g 12) y, wO ct (g 13) o, wR ct (g 14) x, wM ct am w hs, wQ ct qa ou] (fun (u177 : Mem × Mem × (Nat → Mem) × (Nat → Int64)) => [wC ct g kc, wS ct (g 1) u177.1, wS ct (g 2) (sl 0), wS ct (g 3) (sl 1), wV ct g u177.2.1, wS ct (g 5) (u177.2.2.1 0), wS ct (g 6) (u177.2.2.1 1), wS ct (g 7) (u177.2.2.1 2), wS ct (g 8) (u177.2.2.1 3), wS ct (g 9) (u177.2.2.1 4), wS ct (g 10) (u177.2.2.1 5), wT ct (g 11) tx, wL ct (g 12) y, wO ct (g 13) o, wR ct (g 14) x, wM ct am w hs, wQ ct qa u177.2.2.2]) (fun (u177 : Mem × Mem × (Nat → Mem) × (Nat → Int64)) => fl [wC ct g kc, wS ct (g 1) u177.1, wS ct (g 2) (sl 0), wS ct (g 3) (sl 1), wV ct g u177.2.1, wS ct (g 5) (u177.2.2.1 0), wS ct (g 6) (u177.2.2.1 1), wS ct (g 7) (u177.2.2.1 2), wS ct (g 8) (u177.2.2.1 3), wS ct (g 9) (u177.2.2.1 4), wS ct (g 10) (u177.2.2.1 5), wT ct (g 11) tx, wL ct (g 12) y, wO ct (g 13) o, wR ct (g 14) x, wM ct am w hs, wQ ct qa u177.2.2.2]) 17 [0, 1, 2, 3, 4, 5, 6, 7, 8, 9, 10, 16] [11, 12, 13, 14, 15] (kL_goBack l hl9 D ct g qa kc v sl b r ou (xs (ix (x4 + 1))) _ hw) (vx_cwSW 3 X.1.2.2.2.2 gL_law_L_goBack rfl rfl rfl (by decide +kernel) ⟨Nat.le_of_ble_eq_true rfl, Nat.le_of_ble_eq_true rfl⟩) dL_law_694 rfl rfl (Nat.le_of_ble_eq_true rfl) ⟨by show _ ≤ 601024; omega, by show _ ≤ 7293034; omega⟩ rfl rfl rfl (by decide) (fun _ => rfl) (fun _ => lq_0_1_2_3_4_5_6_7_8_9_10_16) (fun _ => rfl) (fun _ => rfl) (fun r176 u177 hw => ?_)
  obtain ⟨v178, hv178⟩ : ∃ z : Mem, z = u177.1 := ⟨_, rfl⟩
  rw [← hv178] at hw
  rw [← hv178]
  obtain ⟨b179, hb179⟩ : ∃ z : Mem, z = u177.2.1 := ⟨_, rfl⟩
  rw [← hb179] at hw
  rw [← hb179]
  obtain ⟨r180, hr180⟩ : ∃ z : Nat → Mem, z = u177.2.2.1 := ⟨_, rfl⟩
  rw [← hr180] at hw
  rw [← hr180]
  obtain ⟨ou181, hou181⟩ : ∃ z : Nat → Int64, z = u177.2.2.2 := ⟨_, rfl⟩
  rw [← hou181] at hw
  rw [← hou181]
  refine g_istore X [(5, .int r176), (0, .ref sb), (1, .ref (g 0 0)), (2, .ref (am 0)), (3, .ref (qa 0)), (4, .int x4)] dL_law_697 (by decide) rfl ?_
  refine g_aload_n X 3 dL_law_699 rfl rfl ?_
  refine g_aload_n X 1 dL_law_700 rfl rfl ?_
  refine g_iload X 5 dL_law_701 rfl ?_
  refine g_iconst (v := 1) X rfl dL_law_703 ?_
  refine g_iadd X dL_law_704 ?_
  obtain ⟨h182, hw⟩ := hw
  refine g_sld X hX hbl hbA h182 dL_law_705 ?_
  refine g_ciV X [wC ct g kc, wS ct (g 1) v178, wS ct (g 2) (sl 0), wS ct (g 3) (sl 1), wV ct g b179, wS ct (g 5) (r180 0), wS ct (g 6) (r180 1), wS ct (g 7) (r180 2), wS ct (g 8) (r180 3), wS ct (g 9) (r180 4), wS ct (g 10) (r180 5), wT ct (g 11) tx, wL ct (g 12) y, wO ct (g 13) o, wR ct (g 14) x, wM ct am w hs, wQ ct qa ou181] (fun (u184 : Mem) => [wC ct g kc, wS ct (g 1) v178, wS ct (g 2) (sl 0), wS ct (g 3) (sl 1), wV ct g b179, wS ct (g 5) (r180 0), wS ct (g 6) (r180 1), wS ct (g 7) (r180 2), wS ct (g 8) (r180 3), wS ct (g 9) (r180 4), wS ct (g 10) (r180 5), wT ct (g 11) tx, wL ct (g 12) y, wO ct (g 13) o, wR ct (g 14) x, wM ct am u184 hs, wQ ct qa ou181]) (fun (u184 : Mem) => fl [wC ct g kc, wS ct (g 1) v178, wS ct (g 2) (sl 0), wS ct (g 3) (sl 1), wV ct g b179, wS ct (g 5) (r180 0), wS ct (g 6) (r180 1), wS ct (g 7) (r180 2), wS ct (g 8) (r180 3), wS ct (g 9) (r180 4), wS ct (g 10) (r180 5), wT ct (g 11) tx, wL ct (g 12) y, wO ct (g 13) o, wR ct (g 14) x, wM ct am u184 hs, wQ ct qa ou181]) 17 [15] [0, 1, 2, 3, 4, 5, 6, 7, 8, 9, 10, 11, 12, 13, 14, 16] 0 (kX8_goBack l D ct am w hs (xs (ix (x4 + 1))) _ hw) (cwV 1 X.1.2.2.2.2 gL_law_X8_goBack rfl rfl rfl (by decide +kernel) ⟨Nat.le_of_ble_eq_true rfl, Nat.le_of_ble_eq_true rfl⟩) dL_law_706 rfl rfl (Nat.le_of_ble_eq_true rfl) ⟨by show _ ≤ 601024; omega, by show _ ≤ 7293034; omega⟩ rfl rfl rfl (by decide) (fun _ => rfl) (fun _ => lq_15) (fun _ => rfl) (fun _ => rfl) rfl rfl rfl (fun r183 u184 hw => ?_)
  obtain ⟨w185, hw185⟩ : ∃ z : Mem, z = u184 := ⟨_, rfl⟩
  rw [← hw185] at hw
  rw [← hw185]
  refine g_istore X [(6, .int r183), (5, .int r176), (0, .ref sb), (1, .ref (g 0 0)), (2, .ref (am 0)), (3, .ref (qa 0)), (4, .int x4)] dL_law_709 (by decide) rfl ?_
  refine g_aload_n X 4 dL_law_711 rfl rfl ?_
  refine g_ciV X [wC ct g kc, wS ct (g 1) v178, wS ct (g 2) (sl 0), wS ct (g 3) (sl 1), wV ct g b179, wS ct (g 5) (r180 0), wS ct (g 6) (r180 1), wS ct (g 7) (r180 2), wS ct (g 8) (r180 3), wS ct (g 9) (r180 4), wS ct (g 10) (r180 5), wT ct (g 11) tx, wL ct (g 12) y, wO ct (g 13) o, wR ct (g 14) x, wM ct am w185 hs, wQ ct qa ou181] (fun (_ : Unit) => [wC ct g kc, wS ct (g 1) v178, wS ct (g 2) (sl 0), wS ct (g 3) (sl 1), wV ct g b179, wS ct (g 5) (r180 0), wS ct (g 6) (r180 1), wS ct (g 7) (r180 2), wS ct (g 8) (r180 3), wS ct (g 9) (r180 4), wS ct (g 10) (r180 5), wT ct (g 11) tx, wL ct (g 12) y, wO ct (g 13) o, wR ct (g 14) x, wM ct am w185 hs, wQ ct qa ou181]) (fun _ => fl [wC ct g kc, wS ct (g 1) v178, wS ct (g 2) (sl 0), wS ct (g 3) (sl 1), wV ct g b179, wS ct (g 5) (r180 0), wS ct (g 6) (r180 1), wS ct (g 7) (r180 2), wS ct (g 8) (r180 3), wS ct (g 9) (r180 4), wS ct (g 10) (r180 5), wT ct (g 11) tx, wL ct (g 12) y, wO ct (g 13) o, wR ct (g 14) x, wM ct am w185 hs, wQ ct qa ou181]) 17 [15] [0, 1, 2, 3, 4, 5, 6, 7, 8, 9, 10, 11, 12, 13, 14, 16] 0 (kX8_thrown l D ct am w185 hs _ hw) (cwV 0 X.1.2.2.2.2 gL_law_X8_thrown rfl rfl rfl (by decide +kernel) ⟨Nat.le_of_ble_eq_true rfl, Nat.le_of_ble_eq_true rfl⟩) dL_law_712 rfl rfl (Nat.le_of_ble_eq_true rfl) ⟨by show _ ≤ 601024; omega, by show _ ≤ 7293034; omega⟩ rfl rfl rfl (by decide) (fun _ => rfl) (fun _ => lq_15) (fun _ => rfl) (fun _ => rfl) rfl rfl rfl (fun r186 _ hw => ?_)
  refine g_iload X 1 dL_law_715 rfl ?_
  refine g_icmp_eq X 722 dL_law_717 (by decide) (fun c188 => ?_) (fun c188 => ?_)
  · replace hw := hw.1 c188
    refine g_iload X 1 dL_law_722 rfl ?_
    refine g_if_ne X 739 dL_law_724 (by decide) (fun c189 => ?_) (fun c189 => ?_)
    · replace hw := hw.1 c189
      refine g_goto X 1318 dL_law_739 (by decide) ?_
      refine g_iinc X [(4, .int (x4 + 3)), (6, .int r183), (5, .int r176), (0, .ref sb), (1, .ref (g 0 0)), (2, .ref (am 0)), (3, .ref (qa 0))] 6 dL_law_1318 rfl rfl (by decide) rfl ?_
      refine g_goto X 23 dL_law_1321 (by decide) ?_
      refine g_sub [(0, .ref sb), (1, .ref (g 0 0)), (2, .ref (am 0)), (3, .ref (qa 0)), (4, .int (x4 + 3))] [3, 4, 5, 6, 0] rfl ?_
      refine g_wide (k2 := 117 + (513 - n)) (j2 := 2344 + 6 * (513 - n)) (by omega) (by omega) ?_
      exact ih (by omega) _ _ _ _ _ _ _ _ _ _ _ _ _ hw
    · replace hw := hw.2 c189
      refine g_aload_n X 5 dL_law_727 rfl rfl ?_
      refine g_iconst (v := 0) X rfl dL_law_728 ?_
      refine g_lald X 116 4 dL_law_729 rfl rfl (vp_in_nI (n := 0) (by decide) (by decide)) ?_
      refine g_iload X 0 dL_law_730 rfl ?_
      refine g_i2l X dL_law_732 ?_
      refine g_lcmp X dL_law_733 ?_
      refine g_if_eq X 739 dL_law_734 (by decide) (fun c190 => ?_) (fun c190 => ?_)
      · replace hw := hw.1 c190
        refine g_goto X 1318 dL_law_739 (by decide) ?_
        refine g_iinc X [(4, .int (x4 + 3)), (6, .int r183), (5, .int r176), (0, .ref sb), (1, .ref (g 0 0)), (2, .ref (am 0)), (3, .ref (qa 0))] 6 dL_law_1318 rfl rfl (by decide) rfl ?_
        refine g_goto X 23 dL_law_1321 (by decide) ?_
        refine g_sub [(0, .ref sb), (1, .ref (g 0 0)), (2, .ref (am 0)), (3, .ref (qa 0)), (4, .int (x4 + 3))] [3, 4, 5, 6, 0] rfl ?_
        refine g_wide (k2 := 117 + (513 - n)) (j2 := 2344 + 6 * (513 - n)) (by omega) (by omega) ?_
        exact ih (by omega) _ _ _ _ _ _ _ _ _ _ _ _ _ hw
      · replace hw := hw.2 c190
        refine g_iconst (v := 0) X rfl dL_law_737 ?_
        exact hw.elim
  · replace hw := hw.2 c188
    refine g_iconst (v := 0) X rfl dL_law_720 ?_
    exact hw.elim
set_option maxHeartbeats 20000000 in
set_option maxRecDepth 20000 in
theorem kL_arm_12 {p : Program} {l : Launch} {e : Env} {s : State} {m : MethodId} {args : Array Value} {below : List Frame} {meth : Method} {c : Code} {D : va_G} {ct : Nat → ClassId} {A : Nat → Prop} {Q : State → Prop} {sb L : Nat} {xs : Nat → Int32} {g : Nat → Nat → Nat} {am qa : Nat → Nat} (hl9 : l.stackTraces = false) (X : Cx p s m args meth c cL_law 9 RL wsL_law D (tyz ct) A s.heap ret) (XX : XL A s) (hX : va_X sb L xs s s.heap) (hbl : sb < s.heap.size) (hbA : ¬ A sb) (hend : ∀ (k j : Nat) (w : va_W) (lv : List (Nat × Value)), k ≤ 601024 → j ≤ 7293034 → GG p l e room_1 s m args below meth c D A s.heap 9 Q (w) (k) (j) lv 1325 [.int 1])  {n : Nat} (ih : n ≤ 513 → ∀ (kc : Mem) (v : Mem) (sl : Nat → Mem) (b : Mem) (r : Nat → Mem) (tx : Mem) (y : Mem) (o : Mem) (x : Mem) (w : Mem) (hs : Int64) (ou : Nat → Int64) (x4 : Int32), PL_law_23 xs L n kc v sl b r tx y o x w hs ou x4 → GG p l e room_1 s m args below meth c D A s.heap 9 Q (fl [wC ct g kc, wS ct (g 1) v, wS ct (g 2) (sl 0), wS ct (g 3) (sl 1), wV ct g b, wS ct (g 5) (r 0), wS ct (g 6) (r 1), wS ct (g 7) (r 2), wS ct (g 8) (r 3), wS ct (g 9) (r 4), wS ct (g 10) (r 5), wT ct (g 11) tx, wL ct (g 12) y, wO ct (g 13) o, wR ct (g 14) x, wM ct am w hs, wQ ct qa ou]) (117 + (513 - n)) (2344 + 6 * (513 - n)) [(0, .ref sb), (1, .ref (g 0 0)), (2, .ref (am 0)), (3, .ref (qa 0)), (4, .int x4)] 23 []) (hn9 : n + 1 ≤ 513) (kc : Mem) (v : Mem) (sl : Nat → Mem) (b : Mem) (r : Nat → Mem) (tx : Mem) (y : Mem) (o : Mem) (x : Mem) (w : Mem) (hs : Int64) (ou : Nat → Int64) (x4 : Int32) (c191 : ((xs (ix x4)) &&& 31) = 12) (hw : PL_undo kc v b r ou (fun r192 v194 b195 ou196 => PX8_undo w hs (fun r197 w199 => PX8_thrown w199 hs (fun r200 => ((r200 = r192) → ((¬ r192 = 0) → PL_law_23 xs L n kc v194 sl b195 r tx y o x w199 hs ou196 (x4 + 3)) ∧ ((r192 = 0) → (((lg_cmp (ou196 0) r197.toInt64) = 0) → PL_law_23 xs L n kc v194 sl b195 r tx y o x w199 hs ou196 (x4 + 3)) ∧ ((¬ (lg_cmp (ou196 0) r197.toInt64) = 0) → False))) ∧ ((¬ r200 = r192) → False))))) : GG p l e room_1 s m args below meth c D A s.heap 9 Q (fl [wC ct g kc, wS ct (g 1) v, wS ct (g 2) (sl 0), wS ct (g 3) (sl 1), wV ct g b, wS ct (g 5) (r 0), wS ct (g 6) (r 1), wS ct (g 7) (r 2), wS ct (g 8) (r 3), wS ct (g 9) (r 4), wS ct (g 10) (r 5), wT ct (g 11) tx, wL ct (g 12) y, wO ct (g 13) o, wR ct (g 14) x, wM ct am w hs, wQ ct qa ou]) (117 + (513 - (n + 1))) (2344 + 6 * (513 - (n + 1))) [(0, .ref sb), (1, .ref (g 0 0)), (2, .ref (am 0)), (3, .ref (qa 0)), (4, .int x4)] 742 [] := by
  refine g_aload_n X 1 dL_law_742 rfl rfl ?_
  refine g_aload_n X 3 dL_law_743 rfl rfl ?_
  refine g_chS X XX [wC ct g kc, wS ct (g 1) v, wS ct (g 2) (sl 0), wS ct (g 3) (sl 1), wV ct g b, wS ct (g 5) (r 0), wS ct (g 6) (r 1), wS ct (g 7) (r 2), wS ct (g 8) (r 3), wS ct (g 9) (r 4), wS ct (g 10) (r 5), wT ct (g 11) tx, wL ct (g 12) y, wO ct (g 13) o, wR ct (g 14) x, wM ct am w hs, wQ ct qa ou] (fun (u193 : Mem × Mem × (Nat → Int64)) => [wC ct g kc, wS ct (g 1) u193.1, wS ct (g 2) (sl 0), wS ct (g 3) (sl 1), wV ct g u193.2.1, wS ct (g 5) (r 0), wS ct (g 6) (r 1), wS ct (g 7) (r 2), wS ct (g 8) (r 3), wS ct (g 9) (r 4), wS ct (g 10) (r 5), wT ct (g 11) tx, wL ct (g 12) y, wO ct (g 13) o, wR ct (g 14) x, wM ct am w hs, wQ ct qa u193.2.2]) (fun (u193 : Mem × Mem × (Nat → Int64)) => fl [wC ct g kc, wS ct (g 1) u193.1, wS ct (g 2) (sl 0), wS ct (g 3) (sl 1), wV ct g u193.2.1, wS ct (g 5) (r 0), wS ct (g 6) (r 1), wS ct (g 7) (r 2), wS ct (g 8) (r 3), wS ct (g 9) (r 4), wS ct (g 10) (r 5), wT ct (g 11) tx, wL ct (g 12) y, wO ct (g 13) o, wR ct (g 14) x, wM ct am w hs, wQ ct qa u193.2.2]) 17 [0, 1, 4, 5, 6, 7, 8, 9, 10, 16] [2, 3, 11, 12, 13, 14, 15] (kL_undo l hl9 D ct g qa kc v b r ou _ hw) (vx_cwSW 2 X.1.2.2.2.2 gL_law_L_undo rfl rfl rfl (by decide +kernel) ⟨Nat.le_of_ble_eq_true rfl, Nat.le_of_ble_eq_true rfl⟩) dL_law_744 rfl rfl (Nat.le_of_ble_eq_true rfl) ⟨by show _ ≤ 601024; omega, by show _ ≤ 7293034; omega⟩ rfl rfl rfl (by decide) (fun _ => rfl) (fun _ => lq_0_1_4_5_6_7_8_9_10_16) (fun _ => rfl) (fun _ => rfl) (fun r192 u193 hw => ?_)
  obtain ⟨v194, hv194⟩ : ∃ z : Mem, z = u193.1 := ⟨_, rfl⟩
  rw [← hv194] at hw
  rw [← hv194]
  obtain ⟨b195, hb195⟩ : ∃ z : Mem, z = u193.2.1 := ⟨_, rfl⟩
  rw [← hb195] at hw
  rw [← hb195]
  obtain ⟨ou196, hou196⟩ : ∃ z : Nat → Int64, z = u193.2.2 := ⟨_, rfl⟩
  rw [← hou196] at hw
  rw [← hou196]
  refine g_istore X [(5, .int r192), (0, .ref sb), (1, .ref (g 0 0)), (2, .ref (am 0)), (3, .ref (qa 0)), (4, .int x4)] dL_law_747 (by decide) rfl ?_
  refine g_aload_n X 3 dL_law_749 rfl rfl ?_
  refine g_ciV X [wC ct g kc, wS ct (g 1) v194, wS ct (g 2) (sl 0), wS ct (g 3) (sl 1), wV ct g b195, wS ct (g 5) (r 0), wS ct (g 6) (r 1), wS ct (g 7) (r 2), wS ct (g 8) (r 3), wS ct (g 9) (r 4), wS ct (g 10) (r 5), wT ct (g 11) tx, wL ct (g 12) y, wO ct (g 13) o, wR ct (g 14) x, wM ct am w hs, wQ ct qa ou196] (fun (u198 : Mem) => [wC ct g kc, wS ct (g 1) v194, wS ct (g 2) (sl 0), wS ct (g 3) (sl 1), wV ct g b195, wS ct (g 5) (r 0), wS ct (g 6) (r 1), wS ct (g 7) (r 2), wS ct (g 8) (r 3), wS ct (g 9) (r 4), wS ct (g 10) (r 5), wT ct (g 11) tx, wL ct (g 12) y, wO ct (g 13) o, wR ct (g 14) x, wM ct am u198 hs, wQ ct qa ou196]) (fun (u198 : Mem) => fl [wC ct g kc, wS ct (g 1) v194, wS ct (g 2) (sl 0), wS ct (g 3) (sl 1), wV ct g b195, wS ct (g 5) (r 0), wS ct (g 6) (r 1), wS ct (g 7) (r 2), wS ct (g 8) (r 3), wS ct (g 9) (r 4), wS ct (g 10) (r 5), wT ct (g 11) tx, wL ct (g 12) y, wO ct (g 13) o, wR ct (g 14) x, wM ct am u198 hs, wQ ct qa ou196]) 17 [15] [0, 1, 2, 3, 4, 5, 6, 7, 8, 9, 10, 11, 12, 13, 14, 16] 0 (kX8_undo l D ct am w hs _ hw) (cwV 0 X.1.2.2.2.2 gL_law_X8_undo rfl rfl rfl (by decide +kernel) ⟨Nat.le_of_ble_eq_true rfl, Nat.le_of_ble_eq_true rfl⟩) dL_law_750 rfl rfl (Nat.le_of_ble_eq_true rfl) ⟨by show _ ≤ 601024; omega, by show _ ≤ 7293034; omega⟩ rfl rfl rfl (by decide) (fun _ => rfl) (fun _ => lq_15) (fun _ => rfl) (fun _ => rfl) rfl rfl rfl (fun r197 u198 hw => ?_)
  obtain ⟨w199, hw199⟩ : ∃ z : Mem, z = u198 := ⟨_, rfl⟩
  rw [← hw199] at hw
  rw [← hw199]
  refine g_istore X [(6, .int r197), (5, .int r192), (0, .ref sb), (1, .ref (g 0 0)), (2, .ref (am 0)), (3, .ref (qa 0)), (4, .int x4)] dL_law_753 (by decide) rfl ?_
  refine g_aload_n X 4 dL_law_755 rfl rfl ?_
  refine g_ciV X [wC ct g kc, wS ct (g 1) v194, wS ct (g 2) (sl 0), wS ct (g 3) (sl 1), wV ct g b195, wS ct (g 5) (r 0), wS ct (g 6) (r 1), wS ct (g 7) (r 2), wS ct (g 8) (r 3), wS ct (g 9) (r 4), wS ct (g 10) (r 5), wT ct (g 11) tx, wL ct (g 12) y, wO ct (g 13) o, wR ct (g 14) x, wM ct am w199 hs, wQ ct qa ou196] (fun (_ : Unit) => [wC ct g kc, wS ct (g 1) v194, wS ct (g 2) (sl 0), wS ct (g 3) (sl 1), wV ct g b195, wS ct (g 5) (r 0), wS ct (g 6) (r 1), wS ct (g 7) (r 2), wS ct (g 8) (r 3), wS ct (g 9) (r 4), wS ct (g 10) (r 5), wT ct (g 11) tx, wL ct (g 12) y, wO ct (g 13) o, wR ct (g 14) x, wM ct am w199 hs, wQ ct qa ou196]) (fun _ => fl [wC ct g kc, wS ct (g 1) v194, wS ct (g 2) (sl 0), wS ct (g 3) (sl 1), wV ct g b195, wS ct (g 5) (r 0), wS ct (g 6) (r 1), wS ct (g 7) (r 2), wS ct (g 8) (r 3), wS ct (g 9) (r 4), wS ct (g 10) (r 5), wT ct (g 11) tx, wL ct (g 12) y, wO ct (g 13) o, wR ct (g 14) x, wM ct am w199 hs, wQ ct qa ou196]) 17 [15] [0, 1, 2, 3, 4, 5, 6, 7, 8, 9, 10, 11, 12, 13, 14, 16] 0 (kX8_thrown l D ct am w199 hs _ hw) (cwV 0 X.1.2.2.2.2 gL_law_X8_thrown rfl rfl rfl (by decide +kernel) ⟨Nat.le_of_ble_eq_true rfl, Nat.le_of_ble_eq_true rfl⟩) dL_law_756 rfl rfl (Nat.le_of_ble_eq_true rfl) ⟨by show _ ≤ 601024; omega, by show _ ≤ 7293034; omega⟩ rfl rfl rfl (by decide) (fun _ => rfl) (fun _ => lq_15) (fun _ => rfl) (fun _ => rfl) rfl rfl rfl (fun r200 _ hw => ?_)
  refine g_iload X 1 dL_law_759 rfl ?_
  refine g_icmp_eq X 766 dL_law_761 (by decide) (fun c202 => ?_) (fun c202 => ?_)
  · replace hw := hw.1 c202
    refine g_iload X 1 dL_law_766 rfl ?_
    refine g_if_ne X 783 dL_law_768 (by decide) (fun c203 => ?_) (fun c203 => ?_)
    · replace hw := hw.1 c203
      refine g_goto X 1318 dL_law_783 (by decide) ?_
      refine g_iinc X [(4, .int (x4 + 3)), (6, .int r197), (5, .int r192), (0, .ref sb), (1, .ref (g 0 0)), (2, .ref (am 0)), (3, .ref (qa 0))] 6 dL_law_1318 rfl rfl (by decide) rfl ?_
      refine g_goto X 23 dL_law_1321 (by decide) ?_
      refine g_sub [(0, .ref sb), (1, .ref (g 0 0)), (2, .ref (am 0)), (3, .ref (qa 0)), (4, .int (x4 + 3))] [3, 4, 5, 6, 0] rfl ?_
      refine g_wide (k2 := 117 + (513 - n)) (j2 := 2344 + 6 * (513 - n)) (by omega) (by omega) ?_
      exact ih (by omega) _ _ _ _ _ _ _ _ _ _ _ _ _ hw
    · replace hw := hw.2 c203
      refine g_aload_n X 5 dL_law_771 rfl rfl ?_
      refine g_iconst (v := 0) X rfl dL_law_772 ?_
      refine g_lald X 116 4 dL_law_773 rfl rfl (vp_in_nI (n := 0) (by decide) (by decide)) ?_
      refine g_iload X 0 dL_law_774 rfl ?_
      refine g_i2l X dL_law_776 ?_
      refine g_lcmp X dL_law_777 ?_
      refine g_if_eq X 783 dL_law_778 (by decide) (fun c204 => ?_) (fun c204 => ?_)
      · replace hw := hw.1 c204
        refine g_goto X 1318 dL_law_783 (by decide) ?_
        refine g_iinc X [(4, .int (x4 + 3)), (6, .int r197), (5, .int r192), (0, .ref sb), (1, .ref (g 0 0)), (2, .ref (am 0)), (3, .ref (qa 0))] 6 dL_law_1318 rfl rfl (by decide) rfl ?_
        refine g_goto X 23 dL_law_1321 (by decide) ?_
        refine g_sub [(0, .ref sb), (1, .ref (g 0 0)), (2, .ref (am 0)), (3, .ref (qa 0)), (4, .int (x4 + 3))] [3, 4, 5, 6, 0] rfl ?_
        refine g_wide (k2 := 117 + (513 - n)) (j2 := 2344 + 6 * (513 - n)) (by omega) (by omega) ?_
        exact ih (by omega) _ _ _ _ _ _ _ _ _ _ _ _ _ hw
      · replace hw := hw.2 c204
        refine g_iconst (v := 0) X rfl dL_law_781 ?_
        exact hw.elim
  · replace hw := hw.2 c202
    refine g_iconst (v := 0) X rfl dL_law_764 ?_
    exact hw.elim
set_option maxHeartbeats 20000000 in
set_option maxRecDepth 20000 in
theorem kL_arm_13 {p : Program} {l : Launch} {e : Env} {s : State} {m : MethodId} {args : Array Value} {below : List Frame} {meth : Method} {c : Code} {D : va_G} {ct : Nat → ClassId} {A : Nat → Prop} {Q : State → Prop} {sb L : Nat} {xs : Nat → Int32} {g : Nat → Nat → Nat} {am qa : Nat → Nat} (hl9 : l.stackTraces = false) (X : Cx p s m args meth c cL_law 9 RL wsL_law D (tyz ct) A s.heap ret) (XX : XL A s) (hX : va_X sb L xs s s.heap) (hbl : sb < s.heap.size) (hbA : ¬ A sb) (hend : ∀ (k j : Nat) (w : va_W) (lv : List (Nat × Value)), k ≤ 601024 → j ≤ 7293034 → GG p l e room_1 s m args below meth c D A s.heap 9 Q (w) (k) (j) lv 1325 [.int 1])  {n : Nat} (ih : n ≤ 513 → ∀ (kc : Mem) (v : Mem) (sl : Nat → Mem) (b : Mem) (r : Nat → Mem) (tx : Mem) (y : Mem) (o : Mem) (x : Mem) (w : Mem) (hs : Int64) (ou : Nat → Int64) (x4 : Int32), PL_law_23 xs L n kc v sl b r tx y o x w hs ou x4 → GG p l e room_1 s m args below meth c D A s.heap 9 Q (fl [wC ct g kc, wS ct (g 1) v, wS ct (g 2) (sl 0), wS ct (g 3) (sl 1), wV ct g b, wS ct (g 5) (r 0), wS ct (g 6) (r 1), wS ct (g 7) (r 2), wS ct (g 8) (r 3), wS ct (g 9) (r 4), wS ct (g 10) (r 5), wT ct (g 11) tx, wL ct (g 12) y, wO ct (g 13) o, wR ct (g 14) x, wM ct am w hs, wQ ct qa ou]) (117 + (513 - n)) (2344 + 6 * (513 - n)) [(0, .ref sb), (1, .ref (g 0 0)), (2, .ref (am 0)), (3, .ref (qa 0)), (4, .int x4)] 23 []) (hn9 : n + 1 ≤ 513) (kc : Mem) (v : Mem) (sl : Nat → Mem) (b : Mem) (r : Nat → Mem) (tx : Mem) (y : Mem) (o : Mem) (x : Mem) (w : Mem) (hs : Int64) (ou : Nat → Int64) (x4 : Int32) (c205 : ((xs (ix x4)) &&& 31) = 13) (hw : vp_in (x4 + 1) L ∧ vp_in (x4 + 2) L ∧ PL_personOf kc v ou (xs (ix (x4 + 1))) (xs (ix (x4 + 2))) (fun r208 ou210 => vp_in (x4 + 1) L ∧ vp_in (x4 + 2) L ∧ PX8_personOf w hs (xs (ix (x4 + 1))) (xs (ix (x4 + 2))) (fun r213 w215 => PX8_thrown w215 hs (fun r216 => ((r216 = r208) → ((¬ r208 = 0) → PL_law_23 xs L n kc v sl b r tx y o x w215 hs ou210 (x4 + 3)) ∧ ((r208 = 0) → (((lg_cmp (ou210 0) r213.toInt64) = 0) → PL_law_23 xs L n kc v sl b r tx y o x w215 hs ou210 (x4 + 3)) ∧ ((¬ (lg_cmp (ou210 0) r213.toInt64) = 0) → False))) ∧ ((¬ r216 = r208) → False))))) : GG p l e room_1 s m args below meth c D A s.heap 9 Q (fl [wC ct g kc, wS ct (g 1) v, wS ct (g 2) (sl 0), wS ct (g 3) (sl 1), wV ct g b, wS ct (g 5) (r 0), wS ct (g 6) (r 1), wS ct (g 7) (r 2), wS ct (g 8) (r 3), wS ct (g 9) (r 4), wS ct (g 10) (r 5), wT ct (g 11) tx, wL ct (g 12) y, wO ct (g 13) o, wR ct (g 14) x, wM ct am w hs, wQ ct qa ou]) (117 + (513 - (n + 1))) (2344 + 6 * (513 - (n + 1))) [(0, .ref sb), (1, .ref (g 0 0)), (2, .ref (am 0)), (3, .ref (qa 0)), (4, .int x4)] 786 [] := by
  refine g_aload_n X 1 dL_law_786 rfl rfl ?_
  refine g_aload_n X 0 dL_law_787 rfl rfl ?_
  refine g_iload X 4 dL_law_788 rfl ?_
  refine g_iconst (v := 1) X rfl dL_law_790 ?_
  refine g_iadd X dL_law_791 ?_
  obtain ⟨h206, hw⟩ := hw
  refine g_sld X hX hbl hbA h206 dL_law_792 ?_
  refine g_aload_n X 0 dL_law_793 rfl rfl ?_
  refine g_iload X 4 dL_law_794 rfl ?_
  refine g_iconst (v := 2) X rfl dL_law_796 ?_
  refine g_iadd X dL_law_797 ?_
  obtain ⟨h207, hw⟩ := hw
  refine g_sld X hX hbl hbA h207 dL_law_798 ?_
  refine g_aload_n X 3 dL_law_799 rfl rfl ?_
  refine g_chS X XX [wC ct g kc, wS ct (g 1) v, wS ct (g 2) (sl 0), wS ct (g 3) (sl 1), wV ct g b, wS ct (g 5) (r 0), wS ct (g 6) (r 1), wS ct (g 7) (r 2), wS ct (g 8) (r 3), wS ct (g 9) (r 4), wS ct (g 10) (r 5), wT ct (g 11) tx, wL ct (g 12) y, wO ct (g 13) o, wR ct (g 14) x, wM ct am w hs, wQ ct qa ou] (fun (u209 : (Nat → Int64)) => [wC ct g kc, wS ct (g 1) v, wS ct (g 2) (sl 0), wS ct (g 3) (sl 1), wV ct g b, wS ct (g 5) (r 0), wS ct (g 6) (r 1), wS ct (g 7) (r 2), wS ct (g 8) (r 3), wS ct (g 9) (r 4), wS ct (g 10) (r 5), wT ct (g 11) tx, wL ct (g 12) y, wO ct (g 13) o, wR ct (g 14) x, wM ct am w hs, wQ ct qa u209]) (fun (u209 : (Nat → Int64)) => fl [wC ct g kc, wS ct (g 1) v, wS ct (g 2) (sl 0), wS ct (g 3) (sl 1), wV ct g b, wS ct (g 5) (r 0), wS ct (g 6) (r 1), wS ct (g 7) (r 2), wS ct (g 8) (r 3), wS ct (g 9) (r 4), wS ct (g 10) (r 5), wT ct (g 11) tx, wL ct (g 12) y, wO ct (g 13) o, wR ct (g 14) x, wM ct am w hs, wQ ct qa u209]) 17 [0, 1, 16] [2, 3, 4, 5, 6, 7, 8, 9, 10, 11, 12, 13, 14, 15] (kL_personOf l hl9 D ct g qa kc v ou (xs (ix (x4 + 1))) (xs (ix (x4 + 2))) _ hw) (vx_cwSW 4 X.1.2.2.2.2 gL_law_L_personOf rfl rfl rfl (by decide +kernel) ⟨Nat.le_of_ble_eq_true rfl, Nat.le_of_ble_eq_true rfl⟩) dL_law_800 rfl rfl (Nat.le_of_ble_eq_true rfl) ⟨by show _ ≤ 601024; omega, by show _ ≤ 7293034; omega⟩ rfl rfl rfl (by decide) (fun _ => rfl) (fun _ => lq_0_1_16) (fun _ => rfl) (fun _ => rfl) (fun r208 u209 hw => ?_)
  obtain ⟨ou210, hou210⟩ : ∃ z : Nat → Int64, z = u209 := ⟨_, rfl⟩
  rw [← hou210] at hw
  rw [← hou210]
  refine g_istore X [(5, .int r208), (0, .ref sb), (1, .ref (g 0 0)), (2, .ref (am 0)), (3, .ref (qa 0)), (4, .int x4)] dL_law_803 (by decide) rfl ?_
  refine g_aload_n X 3 dL_law_805 rfl rfl ?_
  refine g_aload_n X 1 dL_law_806 rfl rfl ?_
  refine g_iload X 5 dL_law_807 rfl ?_
  refine g_iconst (v := 1) X rfl dL_law_809 ?_
  refine g_iadd X dL_law_810 ?_
  obtain ⟨h211, hw⟩ := hw
  refine g_sld X hX hbl hbA h211 dL_law_811 ?_
  refine g_aload_n X 1 dL_law_812 rfl rfl ?_
  refine g_iload X 5 dL_law_813 rfl ?_
  refine g_iconst (v := 2) X rfl dL_law_815 ?_
  refine g_iadd X dL_law_816 ?_
  obtain ⟨h212, hw⟩ := hw
  refine g_sld X hX hbl hbA h212 dL_law_817 ?_
  refine g_ciV X [wC ct g kc, wS ct (g 1) v, wS ct (g 2) (sl 0), wS ct (g 3) (sl 1), wV ct g b, wS ct (g 5) (r 0), wS ct (g 6) (r 1), wS ct (g 7) (r 2), wS ct (g 8) (r 3), wS ct (g 9) (r 4), wS ct (g 10) (r 5), wT ct (g 11) tx, wL ct (g 12) y, wO ct (g 13) o, wR ct (g 14) x, wM ct am w hs, wQ ct qa ou210] (fun (u214 : Mem) => [wC ct g kc, wS ct (g 1) v, wS ct (g 2) (sl 0), wS ct (g 3) (sl 1), wV ct g b, wS ct (g 5) (r 0), wS ct (g 6) (r 1), wS ct (g 7) (r 2), wS ct (g 8) (r 3), wS ct (g 9) (r 4), wS ct (g 10) (r 5), wT ct (g 11) tx, wL ct (g 12) y, wO ct (g 13) o, wR ct (g 14) x, wM ct am u214 hs, wQ ct qa ou210]) (fun (u214 : Mem) => fl [wC ct g kc, wS ct (g 1) v, wS ct (g 2) (sl 0), wS ct (g 3) (sl 1), wV ct g b, wS ct (g 5) (r 0), wS ct (g 6) (r 1), wS ct (g 7) (r 2), wS ct (g 8) (r 3), wS ct (g 9) (r 4), wS ct (g 10) (r 5), wT ct (g 11) tx, wL ct (g 12) y, wO ct (g 13) o, wR ct (g 14) x, wM ct am u214 hs, wQ ct qa ou210]) 17 [15] [0, 1, 2, 3, 4, 5, 6, 7, 8, 9, 10, 11, 12, 13, 14, 16] 0 (kX8_personOf l D ct am w hs (xs (ix (x4 + 1))) (xs (ix (x4 + 2))) _ hw) (cwV 2 X.1.2.2.2.2 gL_law_X8_personOf rfl rfl rfl (by decide +kernel) ⟨Nat.le_of_ble_eq_true rfl, Nat.le_of_ble_eq_true rfl⟩) dL_law_818 rfl rfl (Nat.le_of_ble_eq_true rfl) ⟨by show _ ≤ 601024; omega, by show _ ≤ 7293034; omega⟩ rfl rfl rfl (by decide) (fun _ => rfl) (fun _ => lq_15) (fun _ => rfl) (fun _ => rfl) rfl rfl rfl (fun r213 u214 hw => ?_)
  obtain ⟨w215, hw215⟩ : ∃ z : Mem, z = u214 := ⟨_, rfl⟩
  rw [← hw215] at hw
  rw [← hw215]
  refine g_istore X [(6, .int r213), (5, .int r208), (0, .ref sb), (1, .ref (g 0 0)), (2, .ref (am 0)), (3, .ref (qa 0)), (4, .int x4)] dL_law_821 (by decide) rfl ?_
  refine g_aload_n X 4 dL_law_823 rfl rfl ?_
  refine g_ciV X [wC ct g kc, wS ct (g 1) v, wS ct (g 2) (sl 0), wS ct (g 3) (sl 1), wV ct g b, wS ct (g 5) (r 0), wS ct (g 6) (r 1), wS ct (g 7) (r 2), wS ct (g 8) (r 3), wS ct (g 9) (r 4), wS ct (g 10) (r 5), wT ct (g 11) tx, wL ct (g 12) y, wO ct (g 13) o, wR ct (g 14) x, wM ct am w215 hs, wQ ct qa ou210] (fun (_ : Unit) => [wC ct g kc, wS ct (g 1) v, wS ct (g 2) (sl 0), wS ct (g 3) (sl 1), wV ct g b, wS ct (g 5) (r 0), wS ct (g 6) (r 1), wS ct (g 7) (r 2), wS ct (g 8) (r 3), wS ct (g 9) (r 4), wS ct (g 10) (r 5), wT ct (g 11) tx, wL ct (g 12) y, wO ct (g 13) o, wR ct (g 14) x, wM ct am w215 hs, wQ ct qa ou210]) (fun _ => fl [wC ct g kc, wS ct (g 1) v, wS ct (g 2) (sl 0), wS ct (g 3) (sl 1), wV ct g b, wS ct (g 5) (r 0), wS ct (g 6) (r 1), wS ct (g 7) (r 2), wS ct (g 8) (r 3), wS ct (g 9) (r 4), wS ct (g 10) (r 5), wT ct (g 11) tx, wL ct (g 12) y, wO ct (g 13) o, wR ct (g 14) x, wM ct am w215 hs, wQ ct qa ou210]) 17 [15] [0, 1, 2, 3, 4, 5, 6, 7, 8, 9, 10, 11, 12, 13, 14, 16] 0 (kX8_thrown l D ct am w215 hs _ hw) (cwV 0 X.1.2.2.2.2 gL_law_X8_thrown rfl rfl rfl (by decide +kernel) ⟨Nat.le_of_ble_eq_true rfl, Nat.le_of_ble_eq_true rfl⟩) dL_law_824 rfl rfl (Nat.le_of_ble_eq_true rfl) ⟨by show _ ≤ 601024; omega, by show _ ≤ 7293034; omega⟩ rfl rfl rfl (by decide) (fun _ => rfl) (fun _ => lq_15) (fun _ => rfl) (fun _ => rfl) rfl rfl rfl (fun r216 _ hw => ?_)
  refine g_iload X 1 dL_law_827 rfl ?_
  refine g_icmp_eq X 834 dL_law_829 (by decide) (fun c218 => ?_) (fun c218 => ?_)
  · replace hw := hw.1 c218
    refine g_iload X 1 dL_law_834 rfl ?_
    refine g_if_ne X 851 dL_law_836 (by decide) (fun c219 => ?_) (fun c219 => ?_)
    · replace hw := hw.1 c219
      refine g_goto X 1318 dL_law_851 (by decide) ?_
      refine g_iinc X [(4, .int (x4 + 3)), (6, .int r213), (5, .int r208), (0, .ref sb), (1, .ref (g 0 0)), (2, .ref (am 0)), (3, .ref (qa 0))] 6 dL_law_1318 rfl rfl (by decide) rfl ?_
      refine g_goto X 23 dL_law_1321 (by decide) ?_
      refine g_sub [(0, .ref sb), (1, .ref (g 0 0)), (2, .ref (am 0)), (3, .ref (qa 0)), (4, .int (x4 + 3))] [3, 4, 5, 6, 0] rfl ?_
      refine g_wide (k2 := 117 + (513 - n)) (j2 := 2344 + 6 * (513 - n)) (by omega) (by omega) ?_
      exact ih (by omega) _ _ _ _ _ _ _ _ _ _ _ _ _ hw
    · replace hw := hw.2 c219
      refine g_aload_n X 5 dL_law_839 rfl rfl ?_
      refine g_iconst (v := 0) X rfl dL_law_840 ?_
      refine g_lald X 116 4 dL_law_841 rfl rfl (vp_in_nI (n := 0) (by decide) (by decide)) ?_
      refine g_iload X 0 dL_law_842 rfl ?_
      refine g_i2l X dL_law_844 ?_
      refine g_lcmp X dL_law_845 ?_
      refine g_if_eq X 851 dL_law_846 (by decide) (fun c220 => ?_) (fun c220 => ?_)
      · replace hw := hw.1 c220
        refine g_goto X 1318 dL_law_851 (by decide) ?_
        refine g_iinc X [(4, .int (x4 + 3)), (6, .int r213), (5, .int r208), (0, .ref sb), (1, .ref (g 0 0)), (2, .ref (am 0)), (3, .ref (qa 0))] 6 dL_law_1318 rfl rfl (by decide) rfl ?_
        refine g_goto X 23 dL_law_1321 (by decide) ?_
        refine g_sub [(0, .ref sb), (1, .ref (g 0 0)), (2, .ref (am 0)), (3, .ref (qa 0)), (4, .int (x4 + 3))] [3, 4, 5, 6, 0] rfl ?_
        refine g_wide (k2 := 117 + (513 - n)) (j2 := 2344 + 6 * (513 - n)) (by omega) (by omega) ?_
        exact ih (by omega) _ _ _ _ _ _ _ _ _ _ _ _ _ hw
      · replace hw := hw.2 c220
        refine g_iconst (v := 0) X rfl dL_law_849 ?_
        exact hw.elim
  · replace hw := hw.2 c218
    refine g_iconst (v := 0) X rfl dL_law_832 ?_
    exact hw.elim
set_option maxHeartbeats 20000000 in
set_option maxRecDepth 20000 in
theorem kL_arm_14 {p : Program} {l : Launch} {e : Env} {s : State} {m : MethodId} {args : Array Value} {below : List Frame} {meth : Method} {c : Code} {D : va_G} {ct : Nat → ClassId} {A : Nat → Prop} {Q : State → Prop} {sb L : Nat} {xs : Nat → Int32} {g : Nat → Nat → Nat} {am qa : Nat → Nat} (hl9 : l.stackTraces = false) (X : Cx p s m args meth c cL_law 9 RL wsL_law D (tyz ct) A s.heap ret) (XX : XL A s) (hX : va_X sb L xs s s.heap) (hbl : sb < s.heap.size) (hbA : ¬ A sb) (hend : ∀ (k j : Nat) (w : va_W) (lv : List (Nat × Value)), k ≤ 601024 → j ≤ 7293034 → GG p l e room_1 s m args below meth c D A s.heap 9 Q (w) (k) (j) lv 1325 [.int 1])  {n : Nat} (ih : n ≤ 513 → ∀ (kc : Mem) (v : Mem) (sl : Nat → Mem) (b : Mem) (r : Nat → Mem) (tx : Mem) (y : Mem) (o : Mem) (x : Mem) (w : Mem) (hs : Int64) (ou : Nat → Int64) (x4 : Int32), PL_law_23 xs L n kc v sl b r tx y o x w hs ou x4 → GG p l e room_1 s m args below meth c D A s.heap 9 Q (fl [wC ct g kc, wS ct (g 1) v, wS ct (g 2) (sl 0), wS ct (g 3) (sl 1), wV ct g b, wS ct (g 5) (r 0), wS ct (g 6) (r 1), wS ct (g 7) (r 2), wS ct (g 8) (r 3), wS ct (g 9) (r 4), wS ct (g 10) (r 5), wT ct (g 11) tx, wL ct (g 12) y, wO ct (g 13) o, wR ct (g 14) x, wM ct am w hs, wQ ct qa ou]) (117 + (513 - n)) (2344 + 6 * (513 - n)) [(0, .ref sb), (1, .ref (g 0 0)), (2, .ref (am 0)), (3, .ref (qa 0)), (4, .int x4)] 23 []) (hn9 : n + 1 ≤ 513) (kc : Mem) (v : Mem) (sl : Nat → Mem) (b : Mem) (r : Nat → Mem) (tx : Mem) (y : Mem) (o : Mem) (x : Mem) (w : Mem) (hs : Int64) (ou : Nat → Int64) (x4 : Int32) (c221 : ((xs (ix x4)) &&& 31) = 14) (hw : vp_in (x4 + 1) L ∧ vp_in (x4 + 2) L ∧ PL_coupleOf kc v ou (xs (ix (x4 + 1))) (xs (ix (x4 + 2))) (fun r224 ou226 => vp_in (x4 + 1) L ∧ vp_in (x4 + 2) L ∧ PX8_coupleOf w hs (xs (ix (x4 + 1))) (xs (ix (x4 + 2))) (fun r229 w231 => PX8_thrown w231 hs (fun r232 => ((r232 = r224) → ((¬ r224 = 0) → PL_law_23 xs L n kc v sl b r tx y o x w231 hs ou226 (x4 + 3)) ∧ ((r224 = 0) → (((lg_cmp (ou226 0) r229.toInt64) = 0) → PL_law_23 xs L n kc v sl b r tx y o x w231 hs ou226 (x4 + 3)) ∧ ((¬ (lg_cmp (ou226 0) r229.toInt64) = 0) → False))) ∧ ((¬ r232 = r224) → False))))) : GG p l e room_1 s m args below meth c D A s.heap 9 Q (fl [wC ct g kc, wS ct (g 1) v, wS ct (g 2) (sl 0), wS ct (g 3) (sl 1), wV ct g b, wS ct (g 5) (r 0), wS ct (g 6) (r 1), wS ct (g 7) (r 2), wS ct (g 8) (r 3), wS ct (g 9) (r 4), wS ct (g 10) (r 5), wT ct (g 11) tx, wL ct (g 12) y, wO ct (g 13) o, wR ct (g 14) x, wM ct am w hs, wQ ct qa ou]) (117 + (513 - (n + 1))) (2344 + 6 * (513 - (n + 1))) [(0, .ref sb), (1, .ref (g 0 0)), (2, .ref (am 0)), (3, .ref (qa 0)), (4, .int x4)] 854 [] := by
  refine g_aload_n X 1 dL_law_854 rfl rfl ?_
  refine g_aload_n X 0 dL_law_855 rfl rfl ?_
  refine g_iload X 4 dL_law_856 rfl ?_
  refine g_iconst (v := 1) X rfl dL_law_858 ?_
  refine g_iadd X dL_law_859 ?_
  obtain ⟨h222, hw⟩ := hw
  refine g_sld X hX hbl hbA h222 dL_law_860 ?_
  refine g_aload_n X 0 dL_law_861 rfl rfl ?_
  refine g_iload X 4 dL_law_862 rfl ?_
  refine g_iconst (v := 2) X rfl dL_law_864 ?_
  refine g_iadd X dL_law_865 ?_
  obtain ⟨h223, hw⟩ := hw
  refine g_sld X hX hbl hbA h223 dL_law_866 ?_
  refine g_aload_n X 3 dL_law_867 rfl rfl ?_
  refine g_chS X XX [wC ct g kc, wS ct (g 1) v, wS ct (g 2) (sl 0), wS ct (g 3) (sl 1), wV ct g b, wS ct (g 5) (r 0), wS ct (g 6) (r 1), wS ct (g 7) (r 2), wS ct (g 8) (r 3), wS ct (g 9) (r 4), wS ct (g 10) (r 5), wT ct (g 11) tx, wL ct (g 12) y, wO ct (g 13) o, wR ct (g 14) x, wM ct am w hs, wQ ct qa ou] (fun (u225 : (Nat → Int64)) => [wC ct g kc, wS ct (g 1) v, wS ct (g 2) (sl 0), wS ct (g 3) (sl 1), wV ct g b, wS ct (g 5) (r 0), wS ct (g 6) (r 1), wS ct (g 7) (r 2), wS ct (g 8) (r 3), wS ct (g 9) (r 4), wS ct (g 10) (r 5), wT ct (g 11) tx, wL ct (g 12) y, wO ct (g 13) o, wR ct (g 14) x, wM ct am w hs, wQ ct qa u225]) (fun (u225 : (Nat → Int64)) => fl [wC ct g kc, wS ct (g 1) v, wS ct (g 2) (sl 0), wS ct (g 3) (sl 1), wV ct g b, wS ct (g 5) (r 0), wS ct (g 6) (r 1), wS ct (g 7) (r 2), wS ct (g 8) (r 3), wS ct (g 9) (r 4), wS ct (g 10) (r 5), wT ct (g 11) tx, wL ct (g 12) y, wO ct (g 13) o, wR ct (g 14) x, wM ct am w hs, wQ ct qa u225]) 17 [0, 1, 16] [2, 3, 4, 5, 6, 7, 8, 9, 10, 11, 12, 13, 14, 15] (kL_coupleOf l hl9 D ct g qa kc v ou (xs (ix (x4 + 1))) (xs (ix (x4 + 2))) _ hw) (vx_cwSW 4 X.1.2.2.2.2 gL_law_L_coupleOf rfl rfl rfl (by decide +kernel) ⟨Nat.le_of_ble_eq_true rfl, Nat.le_of_ble_eq_true rfl⟩) dL_law_868 rfl rfl (Nat.le_of_ble_eq_true rfl) ⟨by show _ ≤ 601024; omega, by show _ ≤ 7293034; omega⟩ rfl rfl rfl (by decide) (fun _ => rfl) (fun _ => lq_0_1_16) (fun _ => rfl) (fun _ => rfl) (fun r224 u225 hw => ?_)
  obtain ⟨ou226, hou226⟩ : ∃ z : Nat → Int64, z = u225 := ⟨_, rfl⟩
  rw [← hou226] at hw
  rw [← hou226]
  refine g_istore X [(5, .int r224), (0, .ref sb), (1, .ref (g 0 0)), (2, .ref (am 0)), (3, .ref (qa 0)), (4, .int x4)] dL_law_871 (by decide) rfl ?_
  refine g_aload_n X 3 dL_law_873 rfl rfl ?_
  refine g_aload_n X 1 dL_law_874 rfl rfl ?_
  refine g_iload X 5 dL_law_875 rfl ?_
  refine g_iconst (v := 1) X rfl dL_law_877 ?_
  refine g_iadd X dL_law_878 ?_
  obtain ⟨h227, hw⟩ := hw
  refine g_sld X hX hbl hbA h227 dL_law_879 ?_
  refine g_aload_n X 1 dL_law_880 rfl rfl ?_
  refine g_iload X 5 dL_law_881 rfl ?_
  refine g_iconst (v := 2) X rfl dL_law_883 ?_
  refine g_iadd X dL_law_884 ?_
  obtain ⟨h228, hw⟩ := hw
  refine g_sld X hX hbl hbA h228 dL_law_885 ?_
  refine g_ciV X [wC ct g kc, wS ct (g 1) v, wS ct (g 2) (sl 0), wS ct (g 3) (sl 1), wV ct g b, wS ct (g 5) (r 0), wS ct (g 6) (r 1), wS ct (g 7) (r 2), wS ct (g 8) (r 3), wS ct (g 9) (r 4), wS ct (g 10) (r 5), wT ct (g 11) tx, wL ct (g 12) y, wO ct (g 13) o, wR ct (g 14) x, wM ct am w hs, wQ ct qa ou226] (fun (u230 : Mem) => [wC ct g kc, wS ct (g 1) v, wS ct (g 2) (sl 0), wS ct (g 3) (sl 1), wV ct g b, wS ct (g 5) (r 0), wS ct (g 6) (r 1), wS ct (g 7) (r 2), wS ct (g 8) (r 3), wS ct (g 9) (r 4), wS ct (g 10) (r 5), wT ct (g 11) tx, wL ct (g 12) y, wO ct (g 13) o, wR ct (g 14) x, wM ct am u230 hs, wQ ct qa ou226]) (fun (u230 : Mem) => fl [wC ct g kc, wS ct (g 1) v, wS ct (g 2) (sl 0), wS ct (g 3) (sl 1), wV ct g b, wS ct (g 5) (r 0), wS ct (g 6) (r 1), wS ct (g 7) (r 2), wS ct (g 8) (r 3), wS ct (g 9) (r 4), wS ct (g 10) (r 5), wT ct (g 11) tx, wL ct (g 12) y, wO ct (g 13) o, wR ct (g 14) x, wM ct am u230 hs, wQ ct qa ou226]) 17 [15] [0, 1, 2, 3, 4, 5, 6, 7, 8, 9, 10, 11, 12, 13, 14, 16] 0 (kX8_coupleOf l D ct am w hs (xs (ix (x4 + 1))) (xs (ix (x4 + 2))) _ hw) (cwV 2 X.1.2.2.2.2 gL_law_X8_coupleOf rfl rfl rfl (by decide +kernel) ⟨Nat.le_of_ble_eq_true rfl, Nat.le_of_ble_eq_true rfl⟩) dL_law_886 rfl rfl (Nat.le_of_ble_eq_true rfl) ⟨by show _ ≤ 601024; omega, by show _ ≤ 7293034; omega⟩ rfl rfl rfl (by decide) (fun _ => rfl) (fun _ => lq_15) (fun _ => rfl) (fun _ => rfl) rfl rfl rfl (fun r229 u230 hw => ?_)
  obtain ⟨w231, hw231⟩ : ∃ z : Mem, z = u230 := ⟨_, rfl⟩
  rw [← hw231] at hw
  rw [← hw231]
  refine g_istore X [(6, .int r229), (5, .int r224), (0, .ref sb), (1, .ref (g 0 0)), (2, .ref (am 0)), (3, .ref (qa 0)), (4, .int x4)] dL_law_889 (by decide) rfl ?_
  refine g_aload_n X 4 dL_law_891 rfl rfl ?_
  refine g_ciV X [wC ct g kc, wS ct (g 1) v, wS ct (g 2) (sl 0), wS ct (g 3) (sl 1), wV ct g b, wS ct (g 5) (r 0), wS ct (g 6) (r 1), wS ct (g 7) (r 2), wS ct (g 8) (r 3), wS ct (g 9) (r 4), wS ct (g 10) (r 5), wT ct (g 11) tx, wL ct (g 12) y, wO ct (g 13) o, wR ct (g 14) x, wM ct am w231 hs, wQ ct qa ou226] (fun (_ : Unit) => [wC ct g kc, wS ct (g 1) v, wS ct (g 2) (sl 0), wS ct (g 3) (sl 1), wV ct g b, wS ct (g 5) (r 0), wS ct (g 6) (r 1), wS ct (g 7) (r 2), wS ct (g 8) (r 3), wS ct (g 9) (r 4), wS ct (g 10) (r 5), wT ct (g 11) tx, wL ct (g 12) y, wO ct (g 13) o, wR ct (g 14) x, wM ct am w231 hs, wQ ct qa ou226]) (fun _ => fl [wC ct g kc, wS ct (g 1) v, wS ct (g 2) (sl 0), wS ct (g 3) (sl 1), wV ct g b, wS ct (g 5) (r 0), wS ct (g 6) (r 1), wS ct (g 7) (r 2), wS ct (g 8) (r 3), wS ct (g 9) (r 4), wS ct (g 10) (r 5), wT ct (g 11) tx, wL ct (g 12) y, wO ct (g 13) o, wR ct (g 14) x, wM ct am w231 hs, wQ ct qa ou226]) 17 [15] [0, 1, 2, 3, 4, 5, 6, 7, 8, 9, 10, 11, 12, 13, 14, 16] 0 (kX8_thrown l D ct am w231 hs _ hw) (cwV 0 X.1.2.2.2.2 gL_law_X8_thrown rfl rfl rfl (by decide +kernel) ⟨Nat.le_of_ble_eq_true rfl, Nat.le_of_ble_eq_true rfl⟩) dL_law_892 rfl rfl (Nat.le_of_ble_eq_true rfl) ⟨by show _ ≤ 601024; omega, by show _ ≤ 7293034; omega⟩ rfl rfl rfl (by decide) (fun _ => rfl) (fun _ => lq_15) (fun _ => rfl) (fun _ => rfl) rfl rfl rfl (fun r232 _ hw => ?_)
  refine g_iload X 1 dL_law_895 rfl ?_
  refine g_icmp_eq X 902 dL_law_897 (by decide) (fun c234 => ?_) (fun c234 => ?_)
  · replace hw := hw.1 c234
    refine g_iload X 1 dL_law_902 rfl ?_
    refine g_if_ne X 919 dL_law_904 (by decide) (fun c235 => ?_) (fun c235 => ?_)
    · replace hw := hw.1 c235
      refine g_goto X 1318 dL_law_919 (by decide) ?_
      refine g_iinc X [(4, .int (x4 + 3)), (6, .int r229), (5, .int r224), (0, .ref sb), (1, .ref (g 0 0)), (2, .ref (am 0)), (3, .ref (qa 0))] 6 dL_law_1318 rfl rfl (by decide) rfl ?_
      refine g_goto X 23 dL_law_1321 (by decide) ?_
      refine g_sub [(0, .ref sb), (1, .ref (g 0 0)), (2, .ref (am 0)), (3, .ref (qa 0)), (4, .int (x4 + 3))] [3, 4, 5, 6, 0] rfl ?_
      refine g_wide (k2 := 117 + (513 - n)) (j2 := 2344 + 6 * (513 - n)) (by omega) (by omega) ?_
      exact ih (by omega) _ _ _ _ _ _ _ _ _ _ _ _ _ hw
    · replace hw := hw.2 c235
      refine g_aload_n X 5 dL_law_907 rfl rfl ?_
      refine g_iconst (v := 0) X rfl dL_law_908 ?_
      refine g_lald X 116 4 dL_law_909 rfl rfl (vp_in_nI (n := 0) (by decide) (by decide)) ?_
      refine g_iload X 0 dL_law_910 rfl ?_
      refine g_i2l X dL_law_912 ?_
      refine g_lcmp X dL_law_913 ?_
      refine g_if_eq X 919 dL_law_914 (by decide) (fun c236 => ?_) (fun c236 => ?_)
      · replace hw := hw.1 c236
        refine g_goto X 1318 dL_law_919 (by decide) ?_
        refine g_iinc X [(4, .int (x4 + 3)), (6, .int r229), (5, .int r224), (0, .ref sb), (1, .ref (g 0 0)), (2, .ref (am 0)), (3, .ref (qa 0))] 6 dL_law_1318 rfl rfl (by decide) rfl ?_
        refine g_goto X 23 dL_law_1321 (by decide) ?_
        refine g_sub [(0, .ref sb), (1, .ref (g 0 0)), (2, .ref (am 0)), (3, .ref (qa 0)), (4, .int (x4 + 3))] [3, 4, 5, 6, 0] rfl ?_
        refine g_wide (k2 := 117 + (513 - n)) (j2 := 2344 + 6 * (513 - n)) (by omega) (by omega) ?_
        exact ih (by omega) _ _ _ _ _ _ _ _ _ _ _ _ _ hw
      · replace hw := hw.2 c236
        refine g_iconst (v := 0) X rfl dL_law_917 ?_
        exact hw.elim
  · replace hw := hw.2 c234
    refine g_iconst (v := 0) X rfl dL_law_900 ?_
    exact hw.elim
set_option maxHeartbeats 20000000 in
set_option maxRecDepth 20000 in
theorem kL_arm_15 {p : Program} {l : Launch} {e : Env} {s : State} {m : MethodId} {args : Array Value} {below : List Frame} {meth : Method} {c : Code} {D : va_G} {ct : Nat → ClassId} {A : Nat → Prop} {Q : State → Prop} {sb L : Nat} {xs : Nat → Int32} {g : Nat → Nat → Nat} {am qa : Nat → Nat} (hl9 : l.stackTraces = false) (X : Cx p s m args meth c cL_law 9 RL wsL_law D (tyz ct) A s.heap ret) (XX : XL A s) (hX : va_X sb L xs s s.heap) (hbl : sb < s.heap.size) (hbA : ¬ A sb) (hend : ∀ (k j : Nat) (w : va_W) (lv : List (Nat × Value)), k ≤ 601024 → j ≤ 7293034 → GG p l e room_1 s m args below meth c D A s.heap 9 Q (w) (k) (j) lv 1325 [.int 1])  {n : Nat} (ih : n ≤ 513 → ∀ (kc : Mem) (v : Mem) (sl : Nat → Mem) (b : Mem) (r : Nat → Mem) (tx : Mem) (y : Mem) (o : Mem) (x : Mem) (w : Mem) (hs : Int64) (ou : Nat → Int64) (x4 : Int32), PL_law_23 xs L n kc v sl b r tx y o x w hs ou x4 → GG p l e room_1 s m args below meth c D A s.heap 9 Q (fl [wC ct g kc, wS ct (g 1) v, wS ct (g 2) (sl 0), wS ct (g 3) (sl 1), wV ct g b, wS ct (g 5) (r 0), wS ct (g 6) (r 1), wS ct (g 7) (r 2), wS ct (g 8) (r 3), wS ct (g 9) (r 4), wS ct (g 10) (r 5), wT ct (g 11) tx, wL ct (g 12) y, wO ct (g 13) o, wR ct (g 14) x, wM ct am w hs, wQ ct qa ou]) (117 + (513 - n)) (2344 + 6 * (513 - n)) [(0, .ref sb), (1, .ref (g 0 0)), (2, .ref (am 0)), (3, .ref (qa 0)), (4, .int x4)] 23 []) (hn9 : n + 1 ≤ 513) (kc : Mem) (v : Mem) (sl : Nat → Mem) (b : Mem) (r : Nat → Mem) (tx : Mem) (y : Mem) (o : Mem) (x : Mem) (w : Mem) (hs : Int64) (ou : Nat → Int64) (x4 : Int32) (c237 : ((xs (ix x4)) &&& 31) = 15) (hw : vp_in (x4 + 1) L ∧ vp_in (x4 + 2) L ∧ PL_at kc v ou (xs (ix (x4 + 1))) (xs (ix (x4 + 2))) (fun r240 ou242 => vp_in (x4 + 1) L ∧ vp_in (x4 + 2) L ∧ PX8_at w hs (xs (ix (x4 + 1))) (xs (ix (x4 + 2))) (fun r245 w247 => PX8_thrown w247 hs (fun r248 => ((r248 = r240) → ((¬ r240 = 0) → PL_law_23 xs L n kc v sl b r tx y o x w247 hs ou242 (x4 + 3)) ∧ ((r240 = 0) → (((lg_cmp (ou242 0) r245.toInt64) = 0) → PL_law_23 xs L n kc v sl b r tx y o x w247 hs ou242 (x4 + 3)) ∧ ((¬ (lg_cmp (ou242 0) r245.toInt64) = 0) → False))) ∧ ((¬ r248 = r240) → False))))) : GG p l e room_1 s m args below meth c D A s.heap 9 Q (fl [wC ct g kc, wS ct (g 1) v, wS ct (g 2) (sl 0), wS ct (g 3) (sl 1), wV ct g b, wS ct (g 5) (r 0), wS ct (g 6) (r 1), wS ct (g 7) (r 2), wS ct (g 8) (r 3), wS ct (g 9) (r 4), wS ct (g 10) (r 5), wT ct (g 11) tx, wL ct (g 12) y, wO ct (g 13) o, wR ct (g 14) x, wM ct am w hs, wQ ct qa ou]) (117 + (513 - (n + 1))) (2344 + 6 * (513 - (n + 1))) [(0, .ref sb), (1, .ref (g 0 0)), (2, .ref (am 0)), (3, .ref (qa 0)), (4, .int x4)] 922 [] := by
  refine g_aload_n X 1 dL_law_922 rfl rfl ?_
  refine g_aload_n X 0 dL_law_923 rfl rfl ?_
  refine g_iload X 4 dL_law_924 rfl ?_
  refine g_iconst (v := 1) X rfl dL_law_926 ?_
  refine g_iadd X dL_law_927 ?_
  obtain ⟨h238, hw⟩ := hw
  refine g_sld X hX hbl hbA h238 dL_law_928 ?_
  refine g_aload_n X 0 dL_law_929 rfl rfl ?_
  refine g_iload X 4 dL_law_930 rfl ?_
  refine g_iconst (v := 2) X rfl dL_law_932 ?_
  refine g_iadd X dL_law_933 ?_
  obtain ⟨h239, hw⟩ := hw
  refine g_sld X hX hbl hbA h239 dL_law_934 ?_
  refine g_aload_n X 3 dL_law_935 rfl rfl ?_
  refine g_chS X XX [wC ct g kc, wS ct (g 1) v, wS ct (g 2) (sl 0), wS ct (g 3) (sl 1), wV ct g b, wS ct (g 5) (r 0), wS ct (g 6) (r 1), wS ct (g 7) (r 2), wS ct (g 8) (r 3), wS ct (g 9) (r 4), wS ct (g 10) (r 5), wT ct (g 11) tx, wL ct (g 12) y, wO ct (g 13) o, wR ct (g 14) x, wM ct am w hs, wQ ct qa ou] (fun (u241 : (Nat → Int64)) => [wC ct g kc, wS ct (g 1) v, wS ct (g 2) (sl 0), wS ct (g 3) (sl 1), wV ct g b, wS ct (g 5) (r 0), wS ct (g 6) (r 1), wS ct (g 7) (r 2), wS ct (g 8) (r 3), wS ct (g 9) (r 4), wS ct (g 10) (r 5), wT ct (g 11) tx, wL ct (g 12) y, wO ct (g 13) o, wR ct (g 14) x, wM ct am w hs, wQ ct qa u241]) (fun (u241 : (Nat → Int64)) => fl [wC ct g kc, wS ct (g 1) v, wS ct (g 2) (sl 0), wS ct (g 3) (sl 1), wV ct g b, wS ct (g 5) (r 0), wS ct (g 6) (r 1), wS ct (g 7) (r 2), wS ct (g 8) (r 3), wS ct (g 9) (r 4), wS ct (g 10) (r 5), wT ct (g 11) tx, wL ct (g 12) y, wO ct (g 13) o, wR ct (g 14) x, wM ct am w hs, wQ ct qa u241]) 17 [0, 1, 16] [2, 3, 4, 5, 6, 7, 8, 9, 10, 11, 12, 13, 14, 15] (kL_at l hl9 D ct g qa kc v ou (xs (ix (x4 + 1))) (xs (ix (x4 + 2))) _ hw) (vx_cwSW 4 X.1.2.2.2.2 gL_law_L_at rfl rfl rfl (by decide +kernel) ⟨Nat.le_of_ble_eq_true rfl, Nat.le_of_ble_eq_true rfl⟩) dL_law_936 rfl rfl (Nat.le_of_ble_eq_true rfl) ⟨by show _ ≤ 601024; omega, by show _ ≤ 7293034; omega⟩ rfl rfl rfl (by decide) (fun _ => rfl) (fun _ => lq_0_1_16) (fun _ => rfl) (fun _ => rfl) (fun r240 u241 hw => ?_)
  obtain ⟨ou242, hou242⟩ : ∃ z : Nat → Int64, z = u241 := ⟨_, rfl⟩
  rw [← hou242] at hw
  rw [← hou242]
  refine g_istore X [(5, .int r240), (0, .ref sb), (1, .ref (g 0 0)), (2, .ref (am 0)), (3, .ref (qa 0)), (4, .int x4)] dL_law_939 (by decide) rfl ?_
  refine g_aload_n X 3 dL_law_941 rfl rfl ?_
  refine g_aload_n X 1 dL_law_942 rfl rfl ?_
  refine g_iload X 5 dL_law_943 rfl ?_
  refine g_iconst (v := 1) X rfl dL_law_945 ?_
  refine g_iadd X dL_law_946 ?_
  obtain ⟨h243, hw⟩ := hw
  refine g_sld X hX hbl hbA h243 dL_law_947 ?_
  refine g_aload_n X 1 dL_law_948 rfl rfl ?_
  refine g_iload X 5 dL_law_949 rfl ?_
  refine g_iconst (v := 2) X rfl dL_law_951 ?_
  refine g_iadd X dL_law_952 ?_
  obtain ⟨h244, hw⟩ := hw
  refine g_sld X hX hbl hbA h244 dL_law_953 ?_
  refine g_ciV X [wC ct g kc, wS ct (g 1) v, wS ct (g 2) (sl 0), wS ct (g 3) (sl 1), wV ct g b, wS ct (g 5) (r 0), wS ct (g 6) (r 1), wS ct (g 7) (r 2), wS ct (g 8) (r 3), wS ct (g 9) (r 4), wS ct (g 10) (r 5), wT ct (g 11) tx, wL ct (g 12) y, wO ct (g 13) o, wR ct (g 14) x, wM ct am w hs, wQ ct qa ou242] (fun (u246 : Mem) => [wC ct g kc, wS ct (g 1) v, wS ct (g 2) (sl 0), wS ct (g 3) (sl 1), wV ct g b, wS ct (g 5) (r 0), wS ct (g 6) (r 1), wS ct (g 7) (r 2), wS ct (g 8) (r 3), wS ct (g 9) (r 4), wS ct (g 10) (r 5), wT ct (g 11) tx, wL ct (g 12) y, wO ct (g 13) o, wR ct (g 14) x, wM ct am u246 hs, wQ ct qa ou242]) (fun (u246 : Mem) => fl [wC ct g kc, wS ct (g 1) v, wS ct (g 2) (sl 0), wS ct (g 3) (sl 1), wV ct g b, wS ct (g 5) (r 0), wS ct (g 6) (r 1), wS ct (g 7) (r 2), wS ct (g 8) (r 3), wS ct (g 9) (r 4), wS ct (g 10) (r 5), wT ct (g 11) tx, wL ct (g 12) y, wO ct (g 13) o, wR ct (g 14) x, wM ct am u246 hs, wQ ct qa ou242]) 17 [15] [0, 1, 2, 3, 4, 5, 6, 7, 8, 9, 10, 11, 12, 13, 14, 16] 0 (kX8_at l D ct am w hs (xs (ix (x4 + 1))) (xs (ix (x4 + 2))) _ hw) (cwV 2 X.1.2.2.2.2 gL_law_X8_at rfl rfl rfl (by decide +kernel) ⟨Nat.le_of_ble_eq_true rfl, Nat.le_of_ble_eq_true rfl⟩) dL_law_954 rfl rfl (Nat.le_of_ble_eq_true rfl) ⟨by show _ ≤ 601024; omega, by show _ ≤ 7293034; omega⟩ rfl rfl rfl (by decide) (fun _ => rfl) (fun _ => lq_15) (fun _ => rfl) (fun _ => rfl) rfl rfl rfl (fun r245 u246 hw => ?_)
  obtain ⟨w247, hw247⟩ : ∃ z : Mem, z = u246 := ⟨_, rfl⟩
  rw [← hw247] at hw
  rw [← hw247]
  refine g_istore X [(6, .int r245), (5, .int r240), (0, .ref sb), (1, .ref (g 0 0)), (2, .ref (am 0)), (3, .ref (qa 0)), (4, .int x4)] dL_law_957 (by decide) rfl ?_
  refine g_aload_n X 4 dL_law_959 rfl rfl ?_
  refine g_ciV X [wC ct g kc, wS ct (g 1) v, wS ct (g 2) (sl 0), wS ct (g 3) (sl 1), wV ct g b, wS ct (g 5) (r 0), wS ct (g 6) (r 1), wS ct (g 7) (r 2), wS ct (g 8) (r 3), wS ct (g 9) (r 4), wS ct (g 10) (r 5), wT ct (g 11) tx, wL ct (g 12) y, wO ct (g 13) o, wR ct (g 14) x, wM ct am w247 hs, wQ ct qa ou242] (fun (_ : Unit) => [wC ct g kc, wS ct (g 1) v, wS ct (g 2) (sl 0), wS ct (g 3) (sl 1), wV ct g b, wS ct (g 5) (r 0), wS ct (g 6) (r 1), wS ct (g 7) (r 2), wS ct (g 8) (r 3), wS ct (g 9) (r 4), wS ct (g 10) (r 5), wT ct (g 11) tx, wL ct (g 12) y, wO ct (g 13) o, wR ct (g 14) x, wM ct am w247 hs, wQ ct qa ou242]) (fun _ => fl [wC ct g kc, wS ct (g 1) v, wS ct (g 2) (sl 0), wS ct (g 3) (sl 1), wV ct g b, wS ct (g 5) (r 0), wS ct (g 6) (r 1), wS ct (g 7) (r 2), wS ct (g 8) (r 3), wS ct (g 9) (r 4), wS ct (g 10) (r 5), wT ct (g 11) tx, wL ct (g 12) y, wO ct (g 13) o, wR ct (g 14) x, wM ct am w247 hs, wQ ct qa ou242]) 17 [15] [0, 1, 2, 3, 4, 5, 6, 7, 8, 9, 10, 11, 12, 13, 14, 16] 0 (kX8_thrown l D ct am w247 hs _ hw) (cwV 0 X.1.2.2.2.2 gL_law_X8_thrown rfl rfl rfl (by decide +kernel) ⟨Nat.le_of_ble_eq_true rfl, Nat.le_of_ble_eq_true rfl⟩) dL_law_960 rfl rfl (Nat.le_of_ble_eq_true rfl) ⟨by show _ ≤ 601024; omega, by show _ ≤ 7293034; omega⟩ rfl rfl rfl (by decide) (fun _ => rfl) (fun _ => lq_15) (fun _ => rfl) (fun _ => rfl) rfl rfl rfl (fun r248 _ hw => ?_)
  refine g_iload X 1 dL_law_963 rfl ?_
  refine g_icmp_eq X 970 dL_law_965 (by decide) (fun c250 => ?_) (fun c250 => ?_)
  · replace hw := hw.1 c250
    refine g_iload X 1 dL_law_970 rfl ?_
    refine g_if_ne X 987 dL_law_972 (by decide) (fun c251 => ?_) (fun c251 => ?_)
    · replace hw := hw.1 c251
      refine g_goto X 1318 dL_law_987 (by decide) ?_
      refine g_iinc X [(4, .int (x4 + 3)), (6, .int r245), (5, .int r240), (0, .ref sb), (1, .ref (g 0 0)), (2, .ref (am 0)), (3, .ref (qa 0))] 6 dL_law_1318 rfl rfl (by decide) rfl ?_
      refine g_goto X 23 dL_law_1321 (by decide) ?_
      refine g_sub [(0, .ref sb), (1, .ref (g 0 0)), (2, .ref (am 0)), (3, .ref (qa 0)), (4, .int (x4 + 3))] [3, 4, 5, 6, 0] rfl ?_
      refine g_wide (k2 := 117 + (513 - n)) (j2 := 2344 + 6 * (513 - n)) (by omega) (by omega) ?_
      exact ih (by omega) _ _ _ _ _ _ _ _ _ _ _ _ _ hw
    · replace hw := hw.2 c251
      refine g_aload_n X 5 dL_law_975 rfl rfl ?_
      refine g_iconst (v := 0) X rfl dL_law_976 ?_
      refine g_lald X 116 4 dL_law_977 rfl rfl (vp_in_nI (n := 0) (by decide) (by decide)) ?_
      refine g_iload X 0 dL_law_978 rfl ?_
      refine g_i2l X dL_law_980 ?_
      refine g_lcmp X dL_law_981 ?_
      refine g_if_eq X 987 dL_law_982 (by decide) (fun c252 => ?_) (fun c252 => ?_)
      · replace hw := hw.1 c252
        refine g_goto X 1318 dL_law_987 (by decide) ?_
        refine g_iinc X [(4, .int (x4 + 3)), (6, .int r245), (5, .int r240), (0, .ref sb), (1, .ref (g 0 0)), (2, .ref (am 0)), (3, .ref (qa 0))] 6 dL_law_1318 rfl rfl (by decide) rfl ?_
        refine g_goto X 23 dL_law_1321 (by decide) ?_
        refine g_sub [(0, .ref sb), (1, .ref (g 0 0)), (2, .ref (am 0)), (3, .ref (qa 0)), (4, .int (x4 + 3))] [3, 4, 5, 6, 0] rfl ?_
        refine g_wide (k2 := 117 + (513 - n)) (j2 := 2344 + 6 * (513 - n)) (by omega) (by omega) ?_
        exact ih (by omega) _ _ _ _ _ _ _ _ _ _ _ _ _ hw
      · replace hw := hw.2 c252
        refine g_iconst (v := 0) X rfl dL_law_985 ?_
        exact hw.elim
  · replace hw := hw.2 c250
    refine g_iconst (v := 0) X rfl dL_law_968 ?_
    exact hw.elim
