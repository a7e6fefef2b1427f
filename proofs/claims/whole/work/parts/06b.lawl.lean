set_option maxHeartbeats 20000000 in
set_option maxRecDepth 20000 in
theorem kL_arm_6 {p : Program} {l : Launch} {e : Env} {s : State} {m : MethodId} {args : Array Value} {below : List Frame} {meth : Method} {c : Code} {D : va_G} {ct : Nat → ClassId} {A : Nat → Prop} {Q : State → Prop} {sb L : Nat} {xs : Nat → Int32} {g : Nat → Nat → Nat} {am qa : Nat → Nat} (hl9 : l.stackTraces = false) (X : Cx p s m args meth c cL_law 9 RL wsL_law D (tyz ct) A s.heap ret) (XX : XL A s) (hX : va_X sb L xs s s.heap) (hbl : sb < s.heap.size) (hbA : ¬ A sb) (hend : ∀ (k j : Nat) (w : va_W) (lv : List (Nat × Value)), k ≤ 601024 → j ≤ 7293034 → GG p l e room_1 s m args below meth c D A s.heap 9 Q (w) (k) (j) lv 1325 [.int 1])  {n : Nat} (ih : n ≤ 513 → ∀ (kc : Mem) (v : Mem) (sl : Nat → Mem) (b : Mem) (r : Nat → Mem) (tx : Mem) (y : Mem) (o : Mem) (x : Mem) (w : Mem) (hs : Int64) (ou : Nat → Int64) (x4 : Int32), PL_law_23 xs L n kc v sl b r tx y o x w hs ou x4 → GG p l e room_1 s m args below meth c D A s.heap 9 Q (fl [wC ct g kc, wS ct (g 1) v, wS ct (g 2) (sl 0), wS ct (g 3) (sl 1), wV ct g b, wS ct (g 5) (r 0), wS ct (g 6) (r 1), wS ct (g 7) (r 2), wS ct (g 8) (r 3), wS ct (g 9) (r 4), wS ct (g 10) (r 5), wT ct (g 11) tx, wL ct (g 12) y, wO ct (g 13) o, wR ct (g 14) x, wM ct am w hs, wQ ct qa ou]) (117 + (513 - n)) (2344 + 6 * (513 - n)) [(0, .ref sb), (1, .ref (g 0 0)), (2, .ref (am 0)), (3, .ref (qa 0)), (4, .int x4)] 23 []) (hn9 : n + 1 ≤ 513) (kc : Mem) (v : Mem) (sl : Nat → Mem) (b : Mem) (r : Nat → Mem) (tx : Mem) (y : Mem) (o : Mem) (x : Mem) (w : Mem) (hs : Int64) (ou : Nat → Int64) (x4 : Int32) (c112 : ((xs (ix x4)) &&& 31) = 6) (hw : vp_in (x4 + 1) L ∧ PL_append kc tx ou (xs (ix (x4 + 1))) (fun r114 tx116 ou117 => vp_in (x4 + 1) L ∧ PX8_append w hs (xs (ix (x4 + 1))) (fun r119 w121 => PX8_thrown w121 hs (fun r122 => ((r122 = r114) → ((¬ r114 = 0) → PL_law_23 xs L n kc v sl b r tx116 y o x w121 hs ou117 (x4 + 3)) ∧ ((r114 = 0) → (((lg_cmp (ou117 0) r119.toInt64) = 0) → PL_law_23 xs L n kc v sl b r tx116 y o x w121 hs ou117 (x4 + 3)) ∧ ((¬ (lg_cmp (ou117 0) r119.toInt64) = 0) → False))) ∧ ((¬ r122 = r114) → False))))) : GG p l e room_1 s m args below meth c D A s.heap 9 Q (fl [wC ct g kc, wS ct (g 1) v, wS ct (g 2) (sl 0), wS ct (g 3) (sl 1), wV ct g b, wS ct (g 5) (r 0), wS ct (g 6) (r 1), wS ct (g 7) (r 2), wS ct (g 8) (r 3), wS ct (g 9) (r 4), wS ct (g 10) (r 5), wT ct (g 11) tx, wL ct (g 12) y, wO ct (g 13) o, wR ct (g 14) x, wM ct am w hs, wQ ct qa ou]) (117 + (513 - (n + 1))) (2344 + 6 * (513 - (n + 1))) [(0, .ref sb), (1, .ref (g 0 0)), (2, .ref (am 0)), (3, .ref (qa 0)), (4, .int x4)] 504 [] := by
  refine g_aload_n X 1 dL_law_504 rfl rfl ?_
  refine g_aload_n X 0 dL_law_505 rfl rfl ?_
  refine g_iload X 4 dL_law_506 rfl ?_
  refine g_iconst (v := 1) X rfl dL_law_508 ?_
  refine g_iadd X dL_law_509 ?_
  obtain ⟨h113, hw⟩ := hw
  refine g_sld X hX hbl hbA h113 dL_law_510 ?_
  refine g_aload_n X 3 dL_law_511 rfl rfl ?_
  refine g_chS X XX [wC ct g kc, wS ct (g 1) v, wS ct (g 2) (sl 0), wS ct (g 3) (sl 1), wV ct g b, wS ct (g 5) (r 0), wS ct (g 6) (r 1), wS ct (g 7) (r 2), wS ct (g 8) (r 3), wS ct (g 9) (r 4), wS ct (g 10) (r 5), wT ct (g 11) tx, wL ct (g 12) y, wO ct (g 13) o, wR ct (g 14) x, wM ct am w hs, wQ ct qa ou] (fun (u115 : Mem × (Nat → Int64)) => [wC ct g kc, wS ct (g 1) v, wS ct (g 2) (sl 0), wS ct (g 3) (sl 1), wV ct g b, wS ct (g 5) (r 0), wS ct (g 6) (r 1), wS ct (g 7) (r 2), wS ct (g 8) (r 3), wS ct (g 9) (r 4), wS ct (g 10) (r 5), wT ct (g 11) u115.1, wL ct (g 12) y, wO ct (g 13) o, wR ct (g 14) x, wM ct am w hs, wQ ct qa u115.2]) (fun (u115 : Mem × (Nat → Int64)) => fl [wC ct g kc, wS ct (g 1) v, wS ct (g 2) (sl 0), wS ct (g 3) (sl 1), wV ct g b, wS ct (g 5) (r 0), wS ct (g 6) (r 1), wS ct (g 7) (r 2), wS ct (g 8) (r 3), wS ct (g 9) (r 4), wS ct (g 10) (r 5), wT ct (g 11) u115.1, wL ct (g 12) y, wO ct (g 13) o, wR ct (g 14) x, wM ct am w hs, wQ ct qa u115.2]) 17 [0, 11, 16] [1, 2, 3, 4, 5, 6, 7, 8, 9, 10, 12, 13, 14, 15] (kL_append l hl9 D ct g qa kc tx ou (xs (ix (x4 + 1))) _ hw) (vx_cwSW 3 X.1.2.2.2.2 gL_law_L_append rfl rfl rfl (by decide +kernel) ⟨Nat.le_of_ble_eq_true rfl, Nat.le_of_ble_eq_true rfl⟩) dL_law_512 rfl rfl (Nat.le_of_ble_eq_true rfl) ⟨by show _ ≤ 601024; omega, by show _ ≤ 7293034; omega⟩ rfl rfl rfl (by decide) (fun _ => rfl) (fun _ => rfl) (fun _ => rfl) (fun _ => rfl) (fun r114 u115 hw => ?_)
  obtain ⟨tx116, htx116⟩ : ∃ z : Mem, z = u115.1 := ⟨_, rfl⟩
  rw [← htx116] at hw
  rw [← htx116]
  obtain ⟨ou117, hou117⟩ : ∃ z : Nat → Int64, z = u115.2 := ⟨_, rfl⟩
  rw [← hou117] at hw
  rw [← hou117]
  refine g_istore X [(5, .int r114), (0, .ref sb), (1, .ref (g 0 0)), (2, .ref (am 0)), (3, .ref (qa 0)), (4, .int x4)] dL_law_515 (by decide) rfl ?_
  refine g_aload_n X 3 dL_law_517 rfl rfl ?_
  refine g_aload_n X 1 dL_law_518 rfl rfl ?_
  refine g_iload X 5 dL_law_519 rfl ?_
  refine g_iconst (v := 1) X rfl dL_law_521 ?_
  refine g_iadd X dL_law_522 ?_
  obtain ⟨h118, hw⟩ := hw
  refine g_sld X hX hbl hbA h118 dL_law_523 ?_
  refine g_ciV X [wC ct g kc, wS ct (g 1) v, wS ct (g 2) (sl 0), wS ct (g 3) (sl 1), wV ct g b, wS ct (g 5) (r 0), wS ct (g 6) (r 1), wS ct (g 7) (r 2), wS ct (g 8) (r 3), wS ct (g 9) (r 4), wS ct (g 10) (r 5), wT ct (g 11) tx116, wL ct (g 12) y, wO ct (g 13) o, wR ct (g 14) x, wM ct am w hs, wQ ct qa ou117] (fun (u120 : Mem) => [wC ct g kc, wS ct (g 1) v, wS ct (g 2) (sl 0), wS ct (g 3) (sl 1), wV ct g b, wS ct (g 5) (r 0), wS ct (g 6) (r 1), wS ct (g 7) (r 2), wS ct (g 8) (r 3), wS ct (g 9) (r 4), wS ct (g 10) (r 5), wT ct (g 11) tx116, wL ct (g 12) y, wO ct (g 13) o, wR ct (g 14) x, wM ct am u120 hs, wQ ct qa ou117]) (fun (u120 : Mem) => fl [wC ct g kc, wS ct (g 1) v, wS ct (g 2) (sl 0), wS ct (g 3) (sl 1), wV ct g b, wS ct (g 5) (r 0), wS ct (g 6) (r 1), wS ct (g 7) (r 2), wS ct (g 8) (r 3), wS ct (g 9) (r 4), wS ct (g 10) (r 5), wT ct (g 11) tx116, wL ct (g 12) y, wO ct (g 13) o, wR ct (g 14) x, wM ct am u120 hs, wQ ct qa ou117]) 17 [15] [0, 1, 2, 3, 4, 5, 6, 7, 8, 9, 10, 11, 12, 13, 14, 16] 0 (kX8_append l D ct am w hs (xs (ix (x4 + 1))) _ hw) (cwV 1 X.1.2.2.2.2 gL_law_X8_append rfl rfl rfl (by decide +kernel) ⟨Nat.le_of_ble_eq_true rfl, Nat.le_of_ble_eq_true rfl⟩) dL_law_524 rfl rfl (Nat.le_of_ble_eq_true rfl) ⟨by show _ ≤ 601024; omega, by show _ ≤ 7293034; omega⟩ rfl rfl rfl (by decide) (fun _ => rfl) (fun _ => rfl) (fun _ => rfl) (fun _ => rfl) rfl rfl rfl (fun r119 u120 hw => ?_)
  obtain ⟨w121, hw121⟩ : ∃ z : Mem, z = u120 := ⟨_, rfl⟩
  rw [← hw121] at hw
  rw [← hw121]
  refine g_istore X [(6, .int r119), (5, .int r114), (0, .ref sb), (1, .ref (g 0 0)), (2, .ref (am 0)), (3, .ref (qa 0)), (4, .int x4)] dL_law_527 (by decide) rfl ?_
  refine g_aload_n X 4 dL_law_529 rfl rfl ?_
  refine g_ciV X [wC ct g kc, wS ct (g 1) v, wS ct (g 2) (sl 0), wS ct (g 3) (sl 1), wV ct g b, wS ct (g 5) (r 0), wS ct (g 6) (r 1), wS ct (g 7) (r 2), wS ct (g 8) (r 3), wS ct (g 9) (r 4), wS ct (g 10) (r 5), wT ct (g 11) tx116, wL ct (g 12) y, wO ct (g 13) o, wR ct (g 14) x, wM ct am w121 hs, wQ ct qa ou117] (fun (_ : Unit) => [wC ct g kc, wS ct (g 1) v, wS ct (g 2) (sl 0), wS ct (g 3) (sl 1), wV ct g b, wS ct (g 5) (r 0), wS ct (g 6) (r 1), wS ct (g 7) (r 2), wS ct (g 8) (r 3), wS ct (g 9) (r 4), wS ct (g 10) (r 5), wT ct (g 11) tx116, wL ct (g 12) y, wO ct (g 13) o, wR ct (g 14) x, wM ct am w121 hs, wQ ct qa ou117]) (fun _ => fl [wC ct g kc, wS ct (g 1) v, wS ct (g 2) (sl 0), wS ct (g 3) (sl 1), wV ct g b, wS ct (g 5) (r 0), wS ct (g 6) (r 1), wS ct (g 7) (r 2), wS ct (g 8) (r 3), wS ct (g 9) (r 4), wS ct (g 10) (r 5), wT ct (g 11) tx116, wL ct (g 12) y, wO ct (g 13) o, wR ct (g 14) x, wM ct am w121 hs, wQ ct qa ou117]) 17 [15] [0, 1, 2, 3, 4, 5, 6, 7, 8, 9, 10, 11, 12, 13, 14, 16] 0 (kX8_thrown l D ct am w121 hs _ hw) (cwV 0 X.1.2.2.2.2 gL_law_X8_thrown rfl rfl rfl (by decide +kernel) ⟨Nat.le_of_ble_eq_true rfl, Nat.le_of_ble_eq_true rfl⟩) dL_law_530 rfl rfl (Nat.le_of_ble_eq_true rfl) ⟨by show _ ≤ 601024; omega, by show _ ≤ 7293034; omega⟩ rfl rfl rfl (by decide) (fun _ => rfl) (fun _ => rfl) (fun _ => rfl) (fun _ => rfl) rfl rfl rfl (fun r122 _ hw => ?_)
  refine g_iload X 1 dL_law_533 rfl ?_
  refine g_icmp_eq X 540 dL_law_535 (by decide) (fun c124 => ?_) (fun c124 => ?_)
  · replace hw := hw.1 c124
    refine g_iload X 1 dL_law_540 rfl ?_
    refine g_if_ne X 557 dL_law_542 (by decide) (fun c125 => ?_) (fun c125 => ?_)
    · replace hw := hw.1 c125
      refine g_goto X 1318 dL_law_557 (by decide) ?_
      refine g_iinc X [(4, .int (x4 + 3)), (6, .int r119), (5, .int r114), (0, .ref sb), (1, .ref (g 0 0)), (2, .ref (am 0)), (3, .ref (qa 0))] 6 dL_law_1318 rfl rfl (by decide) rfl ?_
      refine g_goto X 23 dL_law_1321 (by decide) ?_
      refine g_sub [(0, .ref sb), (1, .ref (g 0 0)), (2, .ref (am 0)), (3, .ref (qa 0)), (4, .int (x4 + 3))] [3, 4, 5, 6, 0] rfl ?_
      refine g_wide (k2 := 117 + (513 - n)) (j2 := 2344 + 6 * (513 - n)) (by omega) (by omega) ?_
      exact ih (by omega) _ _ _ _ _ _ _ _ _ _ _ _ _ hw
    · replace hw := hw.2 c125
      refine g_aload_n X 5 dL_law_545 rfl rfl ?_
      refine g_iconst (v := 0) X rfl dL_law_546 ?_
      refine g_lald X 116 4 dL_law_547 rfl rfl (vp_in_nI (n := 0) (by decide) (by decide)) ?_
      refine g_iload X 0 dL_law_548 rfl ?_
      refine g_i2l X dL_law_550 ?_
      refine g_lcmp X dL_law_551 ?_
      refine g_if_eq X 557 dL_law_552 (by decide) (fun c126 => ?_) (fun c126 => ?_)
      · replace hw := hw.1 c126
        refine g_goto X 1318 dL_law_557 (by decide) ?_
        refine g_iinc X [(4, .int (x4 + 3)), (6, .int r119), (5, .int r114), (0, .ref sb), (1, .ref (g 0 0)), (2, .ref (am 0)), (3, .ref (qa 0))] 6 dL_law_1318 rfl rfl (by decide) rfl ?_
        refine g_goto X 23 dL_law_1321 (by decide) ?_
        refine g_sub [(0, .ref sb), (1, .ref (g 0 0)), (2, .ref (am 0)), (3, .ref (qa 0)), (4, .int (x4 + 3))] [3, 4, 5, 6, 0] rfl ?_
        refine g_wide (k2 := 117 + (513 - n)) (j2 := 2344 + 6 * (513 - n)) (by omega) (by omega) ?_
        exact ih (by omega) _ _ _ _ _ _ _ _ _ _ _ _ _ hw
      · replace hw := hw.2 c126
        refine g_iconst (v := 0) X rfl dL_law_555 ?_
        exact hw.elim
  · replace hw := hw.2 c124
    refine g_iconst (v := 0) X rfl dL_law_538 ?_
    exact hw.elim
set_option maxHeartbeats 20000000 in
set_option maxRecDepth 20000 in
theorem kL_arm_7 {p : Program} {l : Launch} {e : Env} {s : State} {m : MethodId} {args : Array Value} {below : List Frame} {meth : Method} {c : Code} {D : va_G} {ct : Nat → ClassId} {A : Nat → Prop} {Q : State → Prop} {sb L : Nat} {xs : Nat → Int32} {g : Nat → Nat → Nat} {am qa : Nat → Nat} (hl9 : l.stackTraces = false) (X : Cx p s m args meth c cL_law 9 RL wsL_law D (tyz ct) A s.heap ret) (XX : XL A s) (hX : va_X sb L xs s s.heap) (hbl : sb < s.heap.size) (hbA : ¬ A sb) (hend : ∀ (k j : Nat) (w : va_W) (lv : List (Nat × Value)), k ≤ 601024 → j ≤ 7293034 → GG p l e room_1 s m args below meth c D A s.heap 9 Q (w) (k) (j) lv 1325 [.int 1])  {n : Nat} (ih : n ≤ 513 → ∀ (kc : Mem) (v : Mem) (sl : Nat → Mem) (b : Mem) (r : Nat → Mem) (tx : Mem) (y : Mem) (o : Mem) (x : Mem) (w : Mem) (hs : Int64) (ou : Nat → Int64) (x4 : Int32), PL_law_23 xs L n kc v sl b r tx y o x w hs ou x4 → GG p l e room_1 s m args below meth c D A s.heap 9 Q (fl [wC ct g kc, wS ct (g 1) v, wS ct (g 2) (sl 0), wS ct (g 3) (sl 1), wV ct g b, wS ct (g 5) (r 0), wS ct (g 6) (r 1), wS ct (g 7) (r 2), wS ct (g 8) (r 3), wS ct (g 9) (r 4), wS ct (g 10) (r 5), wT ct (g 11) tx, wL ct (g 12) y, wO ct (g 13) o, wR ct (g 14) x, wM ct am w hs, wQ ct qa ou]) (117 + (513 - n)) (2344 + 6 * (513 - n)) [(0, .ref sb), (1, .ref (g 0 0)), (2, .ref (am 0)), (3, .ref (qa 0)), (4, .int x4)] 23 []) (hn9 : n + 1 ≤ 513) (kc : Mem) (v : Mem) (sl : Nat → Mem) (b : Mem) (r : Nat → Mem) (tx : Mem) (y : Mem) (o : Mem) (x : Mem) (w : Mem) (hs : Int64) (ou : Nat → Int64) (x4 : Int32) (c127 : ((xs (ix x4)) &&& 31) = 7) (hw : PX7_clearBuffer kc tx (fun r128 tx130 => PX8_clearBuffer w hs (fun r131 w133 => ((r128 = r131) → PL_law_23 xs L n kc v sl b r tx130 y o x w133 hs ou (x4 + 3)) ∧ ((¬ r128 = r131) → False)))) : GG p l e room_1 s m args below meth c D A s.heap 9 Q (fl [wC ct g kc, wS ct (g 1) v, wS ct (g 2) (sl 0), wS ct (g 3) (sl 1), wV ct g b, wS ct (g 5) (r 0), wS ct (g 6) (r 1), wS ct (g 7) (r 2), wS ct (g 8) (r 3), wS ct (g 9) (r 4), wS ct (g 10) (r 5), wT ct (g 11) tx, wL ct (g 12) y, wO ct (g 13) o, wR ct (g 14) x, wM ct am w hs, wQ ct qa ou]) (117 + (513 - (n + 1))) (2344 + 6 * (513 - (n + 1))) [(0, .ref sb), (1, .ref (g 0 0)), (2, .ref (am 0)), (3, .ref (qa 0)), (4, .int x4)] 560 [] := by
  refine g_aload_n X 1 dL_law_560 rfl rfl ?_
  refine g_ciV X [wC ct g kc, wS ct (g 1) v, wS ct (g 2) (sl 0), wS ct (g 3) (sl 1), wV ct g b, wS ct (g 5) (r 0), wS ct (g 6) (r 1), wS ct (g 7) (r 2), wS ct (g 8) (r 3), wS ct (g 9) (r 4), wS ct (g 10) (r 5), wT ct (g 11) tx, wL ct (g 12) y, wO ct (g 13) o, wR ct (g 14) x, wM ct am w hs, wQ ct qa ou] (fun (u129 : Mem) => [wC ct g kc, wS ct (g 1) v, wS ct (g 2) (sl 0), wS ct (g 3) (sl 1), wV ct g b, wS ct (g 5) (r 0), wS ct (g 6) (r 1), wS ct (g 7) (r 2), wS ct (g 8) (r 3), wS ct (g 9) (r 4), wS ct (g 10) (r 5), wT ct (g 11) u129, wL ct (g 12) y, wO ct (g 13) o, wR ct (g 14) x, wM ct am w hs, wQ ct qa ou]) (fun (u129 : Mem) => fl [wC ct g kc, wS ct (g 1) v, wS ct (g 2) (sl 0), wS ct (g 3) (sl 1), wV ct g b, wS ct (g 5) (r 0), wS ct (g 6) (r 1), wS ct (g 7) (r 2), wS ct (g 8) (r 3), wS ct (g 9) (r 4), wS ct (g 10) (r 5), wT ct (g 11) u129, wL ct (g 12) y, wO ct (g 13) o, wR ct (g 14) x, wM ct am w hs, wQ ct qa ou]) 17 [0, 11] [1, 2, 3, 4, 5, 6, 7, 8, 9, 10, 12, 13, 14, 15, 16] 0 (kX7_clearBuffer l D ct g kc tx _ hw) (cwV 0 X.1.2.2.2.2 gL_law_X7_clearBuffer rfl rfl rfl (by decide +kernel) ⟨Nat.le_of_ble_eq_true rfl, Nat.le_of_ble_eq_true rfl⟩) dL_law_561 rfl rfl (Nat.le_of_ble_eq_true rfl) ⟨by show _ ≤ 601024; omega, by show _ ≤ 7293034; omega⟩ rfl rfl rfl (by decide) (fun _ => rfl) (fun _ => rfl) (fun _ => rfl) (fun _ => rfl) rfl rfl rfl (fun r128 u129 hw => ?_)
  obtain ⟨tx130, htx130⟩ : ∃ z : Mem, z = u129 := ⟨_, rfl⟩
  rw [← htx130] at hw
  rw [← htx130]
  refine g_aload_n X 2 dL_law_564 rfl rfl ?_
  refine g_ciV X [wC ct g kc, wS ct (g 1) v, wS ct (g 2) (sl 0), wS ct (g 3) (sl 1), wV ct g b, wS ct (g 5) (r 0), wS ct (g 6) (r 1), wS ct (g 7) (r 2), wS ct (g 8) (r 3), wS ct (g 9) (r 4), wS ct (g 10) (r 5), wT ct (g 11) tx130, wL ct (g 12) y, wO ct (g 13) o, wR ct (g 14) x, wM ct am w hs, wQ ct qa ou] (fun (u132 : Mem) => [wC ct g kc, wS ct (g 1) v, wS ct (g 2) (sl 0), wS ct (g 3) (sl 1), wV ct g b, wS ct (g 5) (r 0), wS ct (g 6) (r 1), wS ct (g 7) (r 2), wS ct (g 8) (r 3), wS ct (g 9) (r 4), wS ct (g 10) (r 5), wT ct (g 11) tx130, wL ct (g 12) y, wO ct (g 13) o, wR ct (g 14) x, wM ct am u132 hs, wQ ct qa ou]) (fun (u132 : Mem) => fl [wC ct g kc, wS ct (g 1) v, wS ct (g 2) (sl 0), wS ct (g 3) (sl 1), wV ct g b, wS ct (g 5) (r 0), wS ct (g 6) (r 1), wS ct (g 7) (r 2), wS ct (g 8) (r 3), wS ct (g 9) (r 4), wS ct (g 10) (r 5), wT ct (g 11) tx130, wL ct (g 12) y, wO ct (g 13) o, wR ct (g 14) x, wM ct am u132 hs, wQ ct qa ou]) 17 [15] [0, 1, 2, 3, 4, 5, 6, 7, 8, 9, 10, 11, 12, 13, 14, 16] 0 (kX8_clearBuffer l D ct am w hs _ hw) (cwV 0 X.1.2.2.2.2 gL_law_X8_clearBuffer rfl rfl rfl (by decide +kernel) ⟨Nat.le_of_ble_eq_true rfl, Nat.le_of_ble_eq_true rfl⟩) dL_law_565 rfl rfl (Nat.le_of_ble_eq_true rfl) ⟨by show _ ≤ 601024; omega, by show _ ≤ 7293034; omega⟩ rfl rfl rfl (by decide) (fun _ => rfl) (fun _ => rfl) (fun _ => rfl) (fun _ => rfl) rfl rfl rfl (fun r131 u132 hw => ?_)
  obtain ⟨w133, hw133⟩ : ∃ z : Mem, z = u132 := ⟨_, rfl⟩
  rw [← hw133] at hw
  rw [← hw133]
  refine g_icmp_eq X 1318 dL_law_568 (by decide) (fun c134 => ?_) (fun c134 => ?_)
  · replace hw := hw.1 c134
    refine g_iinc X [(4, .int (x4 + 3)), (0, .ref sb), (1, .ref (g 0 0)), (2, .ref (am 0)), (3, .ref (qa 0))] 4 dL_law_1318 rfl rfl (by decide) rfl ?_
    refine g_goto X 23 dL_law_1321 (by decide) ?_
    refine g_sub [(0, .ref sb), (1, .ref (g 0 0)), (2, .ref (am 0)), (3, .ref (qa 0)), (4, .int (x4 + 3))] [1, 2, 3, 4, 0] rfl ?_
    refine g_wide (k2 := 117 + (513 - n)) (j2 := 2344 + 6 * (513 - n)) (by omega) (by omega) ?_
    exact ih (by omega) _ _ _ _ _ _ _ _ _ _ _ _ _ hw
  · replace hw := hw.2 c134
    refine g_iconst (v := 0) X rfl dL_law_571 ?_
    exact hw.elim
set_option maxHeartbeats 20000000 in
set_option maxRecDepth 20000 in
theorem kL_arm_8 {p : Program} {l : Launch} {e : Env} {s : State} {m : MethodId} {args : Array Value} {below : List Frame} {meth : Method} {c : Code} {D : va_G} {ct : Nat → ClassId} {A : Nat → Prop} {Q : State → Prop} {sb L : Nat} {xs : Nat → Int32} {g : Nat → Nat → Nat} {am qa : Nat → Nat} (hl9 : l.stackTraces = false) (X : Cx p s m args meth c cL_law 9 RL wsL_law D (tyz ct) A s.heap ret) (XX : XL A s) (hX : va_X sb L xs s s.heap) (hbl : sb < s.heap.size) (hbA : ¬ A sb) (hend : ∀ (k j : Nat) (w : va_W) (lv : List (Nat × Value)), k ≤ 601024 → j ≤ 7293034 → GG p l e room_1 s m args below meth c D A s.heap 9 Q (w) (k) (j) lv 1325 [.int 1])  {n : Nat} (ih : n ≤ 513 → ∀ (kc : Mem) (v : Mem) (sl : Nat → Mem) (b : Mem) (r : Nat → Mem) (tx : Mem) (y : Mem) (o : Mem) (x : Mem) (w : Mem) (hs : Int64) (ou : Nat → Int64) (x4 : Int32), PL_law_23 xs L n kc v sl b r tx y o x w hs ou x4 → GG p l e room_1 s m args below meth c D A s.heap 9 Q (fl [wC ct g kc, wS ct (g 1) v, wS ct (g 2) (sl 0), wS ct (g 3) (sl 1), wV ct g b, wS ct (g 5) (r 0), wS ct (g 6) (r 1), wS ct (g 7) (r 2), wS ct (g 8) (r 3), wS ct (g 9) (r 4), wS ct (g 10) (r 5), wT ct (g 11) tx, wL ct (g 12) y, wO ct (g 13) o, wR ct (g 14) x, wM ct am w hs, wQ ct qa ou]) (117 + (513 - n)) (2344 + 6 * (513 - n)) [(0, .ref sb), (1, .ref (g 0 0)), (2, .ref (am 0)), (3, .ref (qa 0)), (4, .int x4)] 23 []) (hn9 : n + 1 ≤ 513) (kc : Mem) (v : Mem) (sl : Nat → Mem) (b : Mem) (r : Nat → Mem) (tx : Mem) (y : Mem) (o : Mem) (x : Mem) (w : Mem) (hs : Int64) (ou : Nat → Int64) (x4 : Int32) (c135 : ((xs (ix x4)) &&& 31) = 8) (hw : PX7_firstError kc tx (fun r136 => PX8_firstError w hs (fun r138 w140 => ((r136 = r138) → PL_law_23 xs L n kc v sl b r tx y o x w140 hs ou (x4 + 3)) ∧ ((¬ r136 = r138) → False)))) : GG p l e room_1 s m args below meth c D A s.heap 9 Q (fl [wC ct g kc, wS ct (g 1) v, wS ct (g 2) (sl 0), wS ct (g 3) (sl 1), wV ct g b, wS ct (g 5) (r 0), wS ct (g 6) (r 1), wS ct (g 7) (r 2), wS ct (g 8) (r 3), wS ct (g 9) (r 4), wS ct (g 10) (r 5), wT ct (g 11) tx, wL ct (g 12) y, wO ct (g 13) o, wR ct (g 14) x, wM ct am w hs, wQ ct qa ou]) (117 + (513 - (n + 1))) (2344 + 6 * (513 - (n + 1))) [(0, .ref sb), (1, .ref (g 0 0)), (2, .ref (am 0)), (3, .ref (qa 0)), (4, .int x4)] 573 [] := by
  refine g_aload_n X 1 dL_law_573 rfl rfl ?_
  refine g_ciV X [wC ct g kc, wS ct (g 1) v, wS ct (g 2) (sl 0), wS ct (g 3) (sl 1), wV ct g b, wS ct (g 5) (r 0), wS ct (g 6) (r 1), wS ct (g 7) (r 2), wS ct (g 8) (r 3), wS ct (g 9) (r 4), wS ct (g 10) (r 5), wT ct (g 11) tx, wL ct (g 12) y, wO ct (g 13) o, wR ct (g 14) x, wM ct am w hs, wQ ct qa ou] (fun (_ : Unit) => [wC ct g kc, wS ct (g 1) v, wS ct (g 2) (sl 0), wS ct (g 3) (sl 1), wV ct g b, wS ct (g 5) (r 0), wS ct (g 6) (r 1), wS ct (g 7) (r 2), wS ct (g 8) (r 3), wS ct (g 9) (r 4), wS ct (g 10) (r 5), wT ct (g 11) tx, wL ct (g 12) y, wO ct (g 13) o, wR ct (g 14) x, wM ct am w hs, wQ ct qa ou]) (fun _ => fl [wC ct g kc, wS ct (g 1) v, wS ct (g 2) (sl 0), wS ct (g 3) (sl 1), wV ct g b, wS ct (g 5) (r 0), wS ct (g 6) (r 1), wS ct (g 7) (r 2), wS ct (g 8) (r 3), wS ct (g 9) (r 4), wS ct (g 10) (r 5), wT ct (g 11) tx, wL ct (g 12) y, wO ct (g 13) o, wR ct (g 14) x, wM ct am w hs, wQ ct qa ou]) 17 [0, 11] [1, 2, 3, 4, 5, 6, 7, 8, 9, 10, 12, 13, 14, 15, 16] 0 (kX7_firstError l D ct g kc tx _ hw) (cwV 0 X.1.2.2.2.2 gL_law_X7_firstError rfl rfl rfl (by decide +kernel) ⟨Nat.le_of_ble_eq_true rfl, Nat.le_of_ble_eq_true rfl⟩) dL_law_574 rfl rfl (Nat.le_of_ble_eq_true rfl) ⟨by show _ ≤ 601024; omega, by show _ ≤ 7293034; omega⟩ rfl rfl rfl (by decide) (fun _ => rfl) (fun _ => rfl) (fun _ => rfl) (fun _ => rfl) rfl rfl rfl (fun r136 _ hw => ?_)
  refine g_aload_n X 2 dL_law_577 rfl rfl ?_
  refine g_ciV X [wC ct g kc, wS ct (g 1) v, wS ct (g 2) (sl 0), wS ct (g 3) (sl 1), wV ct g b, wS ct (g 5) (r 0), wS ct (g 6) (r 1), wS ct (g 7) (r 2), wS ct (g 8) (r 3), wS ct (g 9) (r 4), wS ct (g 10) (r 5), wT ct (g 11) tx, wL ct (g 12) y, wO ct (g 13) o, wR ct (g 14) x, wM ct am w hs, wQ ct qa ou] (fun (u139 : Mem) => [wC ct g kc, wS ct (g 1) v, wS ct (g 2) (sl 0), wS ct (g 3) (sl 1), wV ct g b, wS ct (g 5) (r 0), wS ct (g 6) (r 1), wS ct (g 7) (r 2), wS ct (g 8) (r 3), wS ct (g 9) (r 4), wS ct (g 10) (r 5), wT ct (g 11) tx, wL ct (g 12) y, wO ct (g 13) o, wR ct (g 14) x, wM ct am u139 hs, wQ ct qa ou]) (fun (u139 : Mem) => fl [wC ct g kc, wS ct (g 1) v, wS ct (g 2) (sl 0), wS ct (g 3) (sl 1), wV ct g b, wS ct (g 5) (r 0), wS ct (g 6) (r 1), wS ct (g 7) (r 2), wS ct (g 8) (r 3), wS ct (g 9) (r 4), wS ct (g 10) (r 5), wT ct (g 11) tx, wL ct (g 12) y, wO ct (g 13) o, wR ct (g 14) x, wM ct am u139 hs, wQ ct qa ou]) 17 [15] [0, 1, 2, 3, 4, 5, 6, 7, 8, 9, 10, 11, 12, 13, 14, 16] 0 (kX8_firstError l D ct am w hs _ hw) (cwV 0 X.1.2.2.2.2 gL_law_X8_firstError rfl rfl rfl (by decide +kernel) ⟨Nat.le_of_ble_eq_true rfl, Nat.le_of_ble_eq_true rfl⟩) dL_law_578 rfl rfl (Nat.le_of_ble_eq_true rfl) ⟨by show _ ≤ 601024; omega, by show _ ≤ 7293034; omega⟩ rfl rfl rfl (by decide) (fun _ => rfl) (fun _ => rfl) (fun _ => rfl) (fun _ => rfl) rfl rfl rfl (fun r138 u139 hw => ?_)
  obtain ⟨w140, hw140⟩ : ∃ z : Mem, z = u139 := ⟨_, rfl⟩
  rw [← hw140] at hw
  rw [← hw140]
  refine g_icmp_eq X 1318 dL_law_581 (by decide) (fun c141 => ?_) (fun c141 => ?_)
  · replace hw := hw.1 c141
    refine g_iinc X [(4, .int (x4 + 3)), (0, .ref sb), (1, .ref (g 0 0)), (2, .ref (am 0)), (3, .ref (qa 0))] 4 dL_law_1318 rfl rfl (by decide) rfl ?_
    refine g_goto X 23 dL_law_1321 (by decide) ?_
    refine g_sub [(0, .ref sb), (1, .ref (g 0 0)), (2, .ref (am 0)), (3, .ref (qa 0)), (4, .int (x4 + 3))] [1, 2, 3, 4, 0] rfl ?_
    refine g_wide (k2 := 117 + (513 - n)) (j2 := 2344 + 6 * (513 - n)) (by omega) (by omega) ?_
    exact ih (by omega) _ _ _ _ _ _ _ _ _ _ _ _ _ hw
  · replace hw := hw.2 c141
    refine g_iconst (v := 0) X rfl dL_law_584 ?_
    exact hw.elim
set_option maxHeartbeats 20000000 in
set_option maxRecDepth 20000 in
theorem kL_arm_9 {p : Program} {l : Launch} {e : Env} {s : State} {m : MethodId} {args : Array Value} {below : List Frame} {meth : Method} {c : Code} {D : va_G} {ct : Nat → ClassId} {A : Nat → Prop} {Q : State → Prop} {sb L : Nat} {xs : Nat → Int32} {g : Nat → Nat → Nat} {am qa : Nat → Nat} (hl9 : l.stackTraces = false) (X : Cx p s m args meth c cL_law 9 RL wsL_law D (tyz ct) A s.heap ret) (XX : XL A s) (hX : va_X sb L xs s s.heap) (hbl : sb < s.heap.size) (hbA : ¬ A sb) (hend : ∀ (k j : Nat) (w : va_W) (lv : List (Nat × Value)), k ≤ 601024 → j ≤ 7293034 → GG p l e room_1 s m args below meth c D A s.heap 9 Q (w) (k) (j) lv 1325 [.int 1])  {n : Nat} (ih : n ≤ 513 → ∀ (kc : Mem) (v : Mem) (sl : Nat → Mem) (b : Mem) (r : Nat → Mem) (tx : Mem) (y : Mem) (o : Mem) (x : Mem) (w : Mem) (hs : Int64) (ou : Nat → Int64) (x4 : Int32), PL_law_23 xs L n kc v sl b r tx y o x w hs ou x4 → GG p l e room_1 s m args below meth c D A s.heap 9 Q (fl [wC ct g kc, wS ct (g 1) v, wS ct (g 2) (sl 0), wS ct (g 3) (sl 1), wV ct g b, wS ct (g 5) (r 0), wS ct (g 6) (r 1), wS ct (g 7) (r 2), wS ct (g 8) (r 3), wS ct (g 9) (r 4), wS ct (g 10) (r 5), wT ct (g 11) tx, wL ct (g 12) y, wO ct (g 13) o, wR ct (g 14) x, wM ct am w hs, wQ ct qa ou]) (117 + (513 - n)) (2344 + 6 * (513 - n)) [(0, .ref sb), (1, .ref (g 0 0)), (2, .ref (am 0)), (3, .ref (qa 0)), (4, .int x4)] 23 []) (hn9 : n + 1 ≤ 513) (kc : Mem) (v : Mem) (sl : Nat → Mem) (b : Mem) (r : Nat → Mem) (tx : Mem) (y : Mem) (o : Mem) (x : Mem) (w : Mem) (hs : Int64) (ou : Nat → Int64) (x4 : Int32) (c142 : ((xs (ix x4)) &&& 31) = 9) (hw : PL_run kc v b r tx ou (fun r143 v145 b146 r147 tx148 ou149 => PX8_run w hs (fun r150 w152 => PX8_thrown w152 hs (fun r153 => ((r153 = r143) → ((¬ r143 = 0) → PL_law_23 xs L n kc v145 sl b146 r147 tx148 y o x w152 hs ou149 (x4 + 3)) ∧ ((r143 = 0) → (((lg_cmp (ou149 0) r150.toInt64) = 0) → PL_law_23 xs L n kc v145 sl b146 r147 tx148 y o x w152 hs ou149 (x4 + 3)) ∧ ((¬ (lg_cmp (ou149 0) r150.toInt64) = 0) → False))) ∧ ((¬ r153 = r143) → False))))) : GG p l e room_1 s m args below meth c D A s.heap 9 Q (fl [wC ct g kc, wS ct (g 1) v, wS ct (g 2) (sl 0), wS ct (g 3) (sl 1), wV ct g b, wS ct (g 5) (r 0), wS ct (g 6) (r 1), wS ct (g 7) (r 2), wS ct (g 8) (r 3), wS ct (g 9) (r 4), wS ct (g 10) (r 5), wT ct (g 11) tx, wL ct (g 12) y, wO ct (g 13) o, wR ct (g 14) x, wM ct am w hs, wQ ct qa ou]) (117 + (513 - (n + 1))) (2344 + 6 * (513 - (n + 1))) [(0, .ref sb), (1, .ref (g 0 0)), (2, .ref (am 0)), (3, .ref (qa 0)), (4, .int x4)] 586 [] := by
  refine g_aload_n X 1 dL_law_586 rfl rfl ?_
  refine g_aload_n X 3 dL_law_587 rfl rfl ?_
  refine g_chS X XX [wC ct g kc, wS ct (g 1) v, wS ct (g 2) (sl 0), wS ct (g 3) (sl 1), wV ct g b, wS ct (g 5) (r 0), wS ct (g 6) (r 1), wS ct (g 7) (r 2), wS ct (g 8) (r 3), wS ct (g 9) (r 4), wS ct (g 10) (r 5), wT ct (g 11) tx, wL ct (g 12) y, wO ct (g 13) o, wR ct (g 14) x, wM ct am w hs, wQ ct qa ou] (fun (u144 : Mem × Mem × (Nat → Mem) × Mem × (Nat → Int64)) => [wC ct g kc, wS ct (g 1) u144.1, wS ct (g 2) (sl 0), wS ct (g 3) (sl 1), wV ct g u144.2.1, wS ct (g 5) (u144.2.2.1 0), wS ct (g 6) (u144.2.2.1 1), wS ct (g 7) (u144.2.2.1 2), wS ct (g 8) (u144.2.2.1 3), wS ct (g 9) (u144.2.2.1 4), wS ct (g 10) (u144.2.2.1 5), wT ct (g 11) u144.2.2.2.1, wL ct (g 12) y, wO ct (g 13) o, wR ct (g 14) x, wM ct am w hs, wQ ct qa u144.2.2.2.2]) (fun (u144 : Mem × Mem × (Nat → Mem) × Mem × (Nat → Int64)) => fl [wC ct g kc, wS ct (g 1) u144.1, wS ct (g 2) (sl 0), wS ct (g 3) (sl 1), wV ct g u144.2.1, wS ct (g 5) (u144.2.2.1 0), wS ct (g 6) (u144.2.2.1 1), wS ct (g 7) (u144.2.2.1 2), wS ct (g 8) (u144.2.2.1 3), wS ct (g 9) (u144.2.2.1 4), wS ct (g 10) (u144.2.2.1 5), wT ct (g 11) u144.2.2.2.1, wL ct (g 12) y, wO ct (g 13) o, wR ct (g 14) x, wM ct am w hs, wQ ct qa u144.2.2.2.2]) 17 [0, 1, 4, 5, 6, 7, 8, 9, 10, 11, 16] [2, 3, 12, 13, 14, 15] (kL_run l hl9 D ct g qa kc v b r tx ou _ hw) (vx_cwSW 2 X.1.2.2.2.2 gL_law_L_run rfl rfl rfl (by decide +kernel) ⟨Nat.le_of_ble_eq_true rfl, Nat.le_of_ble_eq_true rfl⟩) dL_law_588 rfl rfl (Nat.le_of_ble_eq_true rfl) ⟨by show _ ≤ 601024; omega, by show _ ≤ 7293034; omega⟩ rfl rfl rfl (by decide) (fun _ => rfl) (fun _ => rfl) (fun _ => rfl) (fun _ => rfl) (fun r143 u144 hw => ?_)
  obtain ⟨v145, hv145⟩ : ∃ z : Mem, z = u144.1 := ⟨_, rfl⟩
  rw [← hv145] at hw
  rw [← hv145]
  obtain ⟨b146, hb146⟩ : ∃ z : Mem, z = u144.2.1 := ⟨_, rfl⟩
  rw [← hb146] at hw
  rw [← hb146]
  obtain ⟨r147, hr147⟩ : ∃ z : Nat → Mem, z = u144.2.2.1 := ⟨_, rfl⟩
  rw [← hr147] at hw
  rw [← hr147]
  obtain ⟨tx148, htx148⟩ : ∃ z : Mem, z = u144.2.2.2.1 := ⟨_, rfl⟩
  rw [← htx148] at hw
  rw [← htx148]
  obtain ⟨ou149, hou149⟩ : ∃ z : Nat → Int64, z = u144.2.2.2.2 := ⟨_, rfl⟩
  rw [← hou149] at hw
  rw [← hou149]
  refine g_istore X [(5, .int r143), (0, .ref sb), (1, .ref (g 0 0)), (2, .ref (am 0)), (3, .ref (qa 0)), (4, .int x4)] dL_law_591 (by decide) rfl ?_
  refine g_aload_n X 3 dL_law_593 rfl rfl ?_
  refine g_ciV X [wC ct g kc, wS ct (g 1) v145, wS ct (g 2) (sl 0), wS ct (g 3) (sl 1), wV ct g b146, wS ct (g 5) (r147 0), wS ct (g 6) (r147 1), wS ct (g 7) (r147 2), wS ct (g 8) (r147 3), wS ct (g 9) (r147 4), wS ct (g 10) (r147 5), wT ct (g 11) tx148, wL ct (g 12) y, wO ct (g 13) o, wR ct (g 14) x, wM ct am w hs, wQ ct qa ou149] (fun (u151 : Mem) => [wC ct g kc, wS ct (g 1) v145, wS ct (g 2) (sl 0), wS ct (g 3) (sl 1), wV ct g b146, wS ct (g 5) (r147 0), wS ct (g 6) (r147 1), wS ct (g 7) (r147 2), wS ct (g 8) (r147 3), wS ct (g 9) (r147 4), wS ct (g 10) (r147 5), wT ct (g 11) tx148, wL ct (g 12) y, wO ct (g 13) o, wR ct (g 14) x, wM ct am u151 hs, wQ ct qa ou149]) (fun (u151 : Mem) => fl [wC ct g kc, wS ct (g 1) v145, wS ct (g 2) (sl 0), wS ct (g 3) (sl 1), wV ct g b146, wS ct (g 5) (r147 0), wS ct (g 6) (r147 1), wS ct (g 7) (r147 2), wS ct (g 8) (r147 3), wS ct (g 9) (r147 4), wS ct (g 10) (r147 5), wT ct (g 11) tx148, wL ct (g 12) y, wO ct (g 13) o, wR ct (g 14) x, wM ct am u151 hs, wQ ct qa ou149]) 17 [15] [0, 1, 2, 3, 4, 5, 6, 7, 8, 9, 10, 11, 12, 13, 14, 16] 0 (kX8_run l D ct am w hs _ hw) (cwV 0 X.1.2.2.2.2 gL_law_X8_run rfl rfl rfl (by decide +kernel) ⟨Nat.le_of_ble_eq_true rfl, Nat.le_of_ble_eq_true rfl⟩) dL_law_594 rfl rfl (Nat.le_of_ble_eq_true rfl) ⟨by show _ ≤ 601024; omega, by show _ ≤ 7293034; omega⟩ rfl rfl rfl (by decide) (fun _ => rfl) (fun _ => rfl) (fun _ => rfl) (fun _ => rfl) rfl rfl rfl (fun r150 u151 hw => ?_)
  obtain ⟨w152, hw152⟩ : ∃ z : Mem, z = u151 := ⟨_, rfl⟩
  rw [← hw152] at hw
  rw [← hw152]
  refine g_istore X [(6, .int r150), (5, .int r143), (0, .ref sb), (1, .ref (g 0 0)), (2, .ref (am 0)), (3, .ref (qa 0)), (4, .int x4)] dL_law_597 (by decide) rfl ?_
  refine g_aload_n X 4 dL_law_599 rfl rfl ?_
  refine g_ciV X [wC ct g kc, wS ct (g 1) v145, wS ct (g 2) (sl 0), wS ct (g 3) (sl 1), wV ct g b146, wS ct (g 5) (r147 0), wS ct (g 6) (r147 1), wS ct (g 7) (r147 2), wS ct (g 8) (r147 3), wS ct (g 9) (r147 4), wS ct (g 10) (r147 5), wT ct (g 11) tx148, wL ct (g 12) y, wO ct (g 13) o, wR ct (g 14) x, wM ct am w152 hs, wQ ct qa ou149] (fun (_ : Unit) => [wC ct g kc, wS ct (g 1) v145, wS ct (g 2) (sl 0), wS ct (g 3) (sl 1), wV ct g b146, wS ct (g 5) (r147 0), wS ct (g 6) (r147 1), wS ct (g 7) (r147 2), wS ct (g 8) (r147 3), wS ct (g 9) (r147 4), wS ct (g 10) (r147 5), wT ct (g 11) tx148, wL ct (g 12) y, wO ct (g 13) o, wR ct (g 14) x, wM ct am w152 hs, wQ ct qa ou149]) (fun _ => fl [wC ct g kc, wS ct (g 1) v145, wS ct (g 2) (sl 0), wS ct (g 3) (sl 1), wV ct g b146, wS ct (g 5) (r147 0), wS ct (g 6) (r147 1), wS ct (g 7) (r147 2), wS ct (g 8) (r147 3), wS ct (g 9) (r147 4), wS ct (g 10) (r147 5), wT ct (g 11) tx148, wL ct (g 12) y, wO ct (g 13) o, wR ct (g 14) x, wM ct am w152 hs, wQ ct qa ou149]) 17 [15] [0, 1, 2, 3, 4, 5, 6, 7, 8, 9, 10, 11, 12, 13, 14, 16] 0 (kX8_thrown l D ct am w152 hs _ hw) (cwV 0 X.1.2.2.2.2 gL_law_X8_thrown rfl rfl rfl (by decide +kernel) ⟨Nat.le_of_ble_eq_true rfl, Nat.le_of_ble_eq_true rfl⟩) dL_law_600 rfl rfl (Nat.le_of_ble_eq_true rfl) ⟨by show _ ≤ 601024; omega, by show _ ≤ 7293034; omega⟩ rfl rfl rfl (by decide) (fun _ => rfl) (fun _ => rfl) (fun _ => rfl) (fun _ => rfl) rfl rfl rfl (fun r153 _ hw => ?_)
  refine g_iload X 1 dL_law_603 rfl ?_
  refine g_icmp_eq X 610 dL_law_605 (by decide) (fun c155 => ?_) (fun c155 => ?_)
  · replace hw := hw.1 c155
    refine g_iload X 1 dL_law_610 rfl ?_
    refine g_if_ne X 627 dL_law_612 (by decide) (fun c156 => ?_) (fun c156 => ?_)
    · replace hw := hw.1 c156
      refine g_goto X 1318 dL_law_627 (by decide) ?_
      refine g_iinc X [(4, .int (x4 + 3)), (6, .int r150), (5, .int r143), (0, .ref sb), (1, .ref (g 0 0)), (2, .ref (am 0)), (3, .ref (qa 0))] 6 dL_law_1318 rfl rfl (by decide) rfl ?_
      refine g_goto X 23 dL_law_1321 (by decide) ?_
      refine g_sub [(0, .ref sb), (1, .ref (g 0 0)), (2, .ref (am 0)), (3, .ref (qa 0)), (4, .int (x4 + 3))] [3, 4, 5, 6, 0] rfl ?_
      refine g_wide (k2 := 117 + (513 - n)) (j2 := 2344 + 6 * (513 - n)) (by omega) (by omega) ?_
      exact ih (by omega) _ _ _ _ _ _ _ _ _ _ _ _ _ hw
    · replace hw := hw.2 c156
      refine g_aload_n X 5 dL_law_615 rfl rfl ?_
      refine g_iconst (v := 0) X rfl dL_law_616 ?_
      refine g_lald X 116 4 dL_law_617 rfl rfl (vp_in_nI (n := 0) (by decide) (by decide)) ?_
      refine g_iload X 0 dL_law_618 rfl ?_
      refine g_i2l X dL_law_620 ?_
      refine g_lcmp X dL_law_621 ?_
      refine g_if_eq X 627 dL_law_622 (by decide) (fun c157 => ?_) (fun c157 => ?_)
      · replace hw := hw.1 c157
        refine g_goto X 1318 dL_law_627 (by decide) ?_
        refine g_iinc X [(4, .int (x4 + 3)), (6, .int r150), (5, .int r143), (0, .ref sb), (1, .ref (g 0 0)), (2, .ref (am 0)), (3, .ref (qa 0))] 6 dL_law_1318 rfl rfl (by decide) rfl ?_
        refine g_goto X 23 dL_law_1321 (by decide) ?_
        refine g_sub [(0, .ref sb), (1, .ref (g 0 0)), (2, .ref (am 0)), (3, .ref (qa 0)), (4, .int (x4 + 3))] [3, 4, 5, 6, 0] rfl ?_
        refine g_wide (k2 := 117 + (513 - n)) (j2 := 2344 + 6 * (513 - n)) (by omega) (by omega) ?_
        exact ih (by omega) _ _ _ _ _ _ _ _ _ _ _ _ _ hw
      · replace hw := hw.2 c157
        refine g_iconst (v := 0) X rfl dL_law_625 ?_
        exact hw.elim
  · replace hw := hw.2 c155
    refine g_iconst (v := 0) X rfl dL_law_608 ?_
    exact hw.elim
set_option maxHeartbeats 20000000 in
set_option maxRecDepth 20000 in
theorem kL_arm_10 {p : Program} {l : Launch} {e : Env} {s : State} {m : MethodId} {args : Array Value} {below : List Frame} {meth : Method} {c : Code} {D : va_G} {ct : Nat → ClassId} {A : Nat → Prop} {Q : State → Prop} {sb L : Nat} {xs : Nat → Int32} {g : Nat → Nat → Nat} {am qa : Nat → Nat} (hl9 : l.stackTraces = false) (X : Cx p s m args meth c cL_law 9 RL wsL_law D (tyz ct) A s.heap ret) (XX : XL A s) (hX : va_X sb L xs s s.heap) (hbl : sb < s.heap.size) (hbA : ¬ A sb) (hend : ∀ (k j : Nat) (w : va_W) (lv : List (Nat × Value)), k ≤ 601024 → j ≤ 7293034 → GG p l e room_1 s m args below meth c D A s.heap 9 Q (w) (k) (j) lv 1325 [.int 1])  {n : Nat} (ih : n ≤ 513 → ∀ (kc : Mem) (v : Mem) (sl : Nat → Mem) (b : Mem) (r : Nat → Mem) (tx : Mem) (y : Mem) (o : Mem) (x : Mem) (w : Mem) (hs : Int64) (ou : Nat → Int64) (x4 : Int32), PL_law_23 xs L n kc v sl b r tx y o x w hs ou x4 → GG p l e room_1 s m args below meth c D A s.heap 9 Q (fl [wC ct g kc, wS ct (g 1) v, wS ct (g 2) (sl 0), wS ct (g 3) (sl 1), wV ct g b, wS ct (g 5) (r 0), wS ct (g 6) (r 1), wS ct (g 7) (r 2), wS ct (g 8) (r 3), wS ct (g 9) (r 4), wS ct (g 10) (r 5), wT ct (g 11) tx, wL ct (g 12) y, wO ct (g 13) o, wR ct (g 14) x, wM ct am w hs, wQ ct qa ou]) (117 + (513 - n)) (2344 + 6 * (513 - n)) [(0, .ref sb), (1, .ref (g 0 0)), (2, .ref (am 0)), (3, .ref (qa 0)), (4, .int x4)] 23 []) (hn9 : n + 1 ≤ 513) (kc : Mem) (v : Mem) (sl : Nat → Mem) (b : Mem) (r : Nat → Mem) (tx : Mem) (y : Mem) (o : Mem) (x : Mem) (w : Mem) (hs : Int64) (ou : Nat → Int64) (x4 : Int32) (c158 : ((xs (ix x4)) &&& 31) = 10) (hw : vp_in (x4 + 1) L ∧ PL_keep kc v sl ou (xs (ix (x4 + 1))) (fun r160 kc162 sl163 ou164 => vp_in (x4 + 1) L ∧ PX8_keep w hs (xs (ix (x4 + 1))) (fun r166 w168 => PX8_thrown w168 hs (fun r169 => ((r169 = r160) → ((¬ r160 = 0) → PL_law_23 xs L n kc162 v sl163 b r tx y o x w168 hs ou164 (x4 + 3)) ∧ ((r160 = 0) → (((lg_cmp (ou164 0) r166.toInt64) = 0) → PL_law_23 xs L n kc162 v sl163 b r tx y o x w168 hs ou164 (x4 + 3)) ∧ ((¬ (lg_cmp (ou164 0) r166.toInt64) = 0) → False))) ∧ ((¬ r169 = r160) → False))))) : GG p l e room_1 s m args below meth c D A s.heap 9 Q (fl [wC ct g kc, wS ct (g 1) v, wS ct (g 2) (sl 0), wS ct (g 3) (sl 1), wV ct g b, wS ct (g 5) (r 0), wS ct (g 6) (r 1), wS ct (g 7) (r 2), wS ct (g 8) (r 3), wS ct (g 9) (r 4), wS ct (g 10) (r 5), wT ct (g 11) tx, wL ct (g 12) y, wO ct (g 13) o, wR ct (g 14) x, wM ct am w hs, wQ ct qa ou]) (117 + (513 - (n + 1))) (2344 + 6 * (513 - (n + 1))) [(0, .ref sb), (1, .ref (g 0 0)), (2, .ref (am 0)), (3, .ref (qa 0)), (4, .int x4)] 630 [] := by
  refine g_aload_n X 1 dL_law_630 rfl rfl ?_
  refine g_aload_n X 0 dL_law_631 rfl rfl ?_
  refine g_iload X 4 dL_law_632 rfl ?_
  refine g_iconst (v := 1) X rfl dL_law_634 ?_
  refine g_iadd X dL_law_635 ?_
  obtain ⟨h159, hw⟩ := hw
  refine g_sld X hX hbl hbA h159 dL_law_636 ?_
  refine g_aload_n X 3 dL_law_637 rfl rfl ?_
  refine g_chS X XX [wC ct g kc, wS ct (g 1) v, wS ct (g 2) (sl 0), wS ct (g 3) (sl 1), wV ct g b, wS ct (g 5) (r 0), wS ct (g 6) (r 1), wS ct (g 7) (r 2), wS ct (g 8) (r 3), wS ct (g 9) (r 4), wS ct (g 10) (r 5), wT ct (g 11) tx, wL ct (g 12) y, wO ct (g 13) o, wR ct (g 14) x, wM ct am w hs, wQ ct qa ou] (fun (u161 : Mem × (Nat → Mem) × (Nat → Int64)) => [wC ct g u161.1, wS ct (g 1) v, wS ct (g 2) (u161.2.1 0), wS ct (g 3) (u161.2.1 1), wV ct g b, wS ct (g 5) (r 0), wS ct (g 6) (r 1), wS ct (g 7) (r 2), wS ct (g 8) (r 3), wS ct (g 9) (r 4), wS ct (g 10) (r 5), wT ct (g 11) tx, wL ct (g 12) y, wO ct (g 13) o, wR ct (g 14) x, wM ct am w hs, wQ ct qa u161.2.2]) (fun (u161 : Mem × (Nat → Mem) × (Nat → Int64)) => fl [wC ct g u161.1, wS ct (g 1) v, wS ct (g 2) (u161.2.1 0), wS ct (g 3) (u161.2.1 1), wV ct g b, wS ct (g 5) (r 0), wS ct (g 6) (r 1), wS ct (g 7) (r 2), wS ct (g 8) (r 3), wS ct (g 9) (r 4), wS ct (g 10) (r 5), wT ct (g 11) tx, wL ct (g 12) y, wO ct (g 13) o, wR ct (g 14) x, wM ct am w hs, wQ ct qa u161.2.2]) 17 [0, 1, 2, 3, 16] [4, 5, 6, 7, 8, 9, 10, 11, 12, 13, 14, 15] (kL_keep l hl9 D ct g qa kc v sl ou (xs (ix (x4 + 1))) _ hw) (vx_cwSW 3 X.1.2.2.2.2 gL_law_L_keep rfl rfl rfl (by decide +kernel) ⟨Nat.le_of_ble_eq_true rfl, Nat.le_of_ble_eq_true rfl⟩) dL_law_638 rfl rfl (Nat.le_of_ble_eq_true rfl) ⟨by show _ ≤ 601024; omega, by show _ ≤ 7293034; omega⟩ rfl rfl rfl (by decide) (fun _ => rfl) (fun _ => rfl) (fun _ => rfl) (fun _ => rfl) (fun r160 u161 hw => ?_)
  obtain ⟨kc162, hkc162⟩ : ∃ z : Mem, z = u161.1 := ⟨_, rfl⟩
  rw [← hkc162] at hw
  rw [← hkc162]
  obtain ⟨sl163, hsl163⟩ : ∃ z : Nat → Mem, z = u161.2.1 := ⟨_, rfl⟩
  rw [← hsl163] at hw
  rw [← hsl163]
  obtain ⟨ou164, hou164⟩ : ∃ z : Nat → Int64, z = u161.2.2 := ⟨_, rfl⟩
  rw [← hou164] at hw
  rw [← hou164]
  refine g_istore X [(5, .int r160), (0, .ref sb), (1, .ref (g 0 0)), (2, .ref (am 0)), (3, .ref (qa 0)), (4, .int x4)] dL_law_641 (by decide) rfl ?_
  refine g_aload_n X 3 dL_law_643 rfl rfl ?_
  refine g_aload_n X 1 dL_law_644 rfl rfl ?_
  refine g_iload X 5 dL_law_645 rfl ?_
  refine g_iconst (v := 1) X rfl dL_law_647 ?_
  refine g_iadd X dL_law_648 ?_
  obtain ⟨h165, hw⟩ := hw
  refine g_sld X hX hbl hbA h165 dL_law_649 ?_
  refine g_ciV X [wC ct g kc162, wS ct (g 1) v, wS ct (g 2) (sl163 0), wS ct (g 3) (sl163 1), wV ct g b, wS ct (g 5) (r 0), wS ct (g 6) (r 1), wS ct (g 7) (r 2), wS ct (g 8) (r 3), wS ct (g 9) (r 4), wS ct (g 10) (r 5), wT ct (g 11) tx, wL ct (g 12) y, wO ct (g 13) o, wR ct (g 14) x, wM ct am w hs, wQ ct qa ou164] (fun (u167 : Mem) => [wC ct g kc162, wS ct (g 1) v, wS ct (g 2) (sl163 0), wS ct (g 3) (sl163 1), wV ct g b, wS ct (g 5) (r 0), wS ct (g 6) (r 1), wS ct (g 7) (r 2), wS ct (g 8) (r 3), wS ct (g 9) (r 4), wS ct (g 10) (r 5), wT ct (g 11) tx, wL ct (g 12) y, wO ct (g 13) o, wR ct (g 14) x, wM ct am u167 hs, wQ ct qa ou164]) (fun (u167 : Mem) => fl [wC ct g kc162, wS ct (g 1) v, wS ct (g 2) (sl163 0), wS ct (g 3) (sl163 1), wV ct g b, wS ct (g 5) (r 0), wS ct (g 6) (r 1), wS ct (g 7) (r 2), wS ct (g 8) (r 3), wS ct (g 9) (r 4), wS ct (g 10) (r 5), wT ct (g 11) tx, wL ct (g 12) y, wO ct (g 13) o, wR ct (g 14) x, wM ct am u167 hs, wQ ct qa ou164]) 17 [15] [0, 1, 2, 3, 4, 5, 6, 7, 8, 9, 10, 11, 12, 13, 14, 16] 0 (kX8_keep l D ct am w hs (xs (ix (x4 + 1))) _ hw) (cwV 1 X.1.2.2.2.2 gL_law_X8_keep rfl rfl rfl (by decide +kernel) ⟨Nat.le_of_ble_eq_true rfl, Nat.le_of_ble_eq_true rfl⟩) dL_law_650 rfl rfl (Nat.le_of_ble_eq_true rfl) ⟨by show _ ≤ 601024; omega, by show _ ≤ 7293034; omega⟩ rfl rfl rfl (by decide) (fun _ => rfl) (fun _ => rfl) (fun _ => rfl) (fun _ => rfl) rfl rfl rfl (fun r166 u167 hw => ?_)
  obtain ⟨w168, hw168⟩ : ∃ z : Mem, z = u167 := ⟨_, rfl⟩
  rw [← hw168] at hw
  rw [← hw168]
  refine g_istore X [(6, .int r166), (5, .int r160), (0, .ref sb), (1, .ref (g 0 0)), (2, .ref (am 0)), (3, .ref (qa 0)), (4, .int x4)] dL_law_653 (by decide) rfl ?_
  refine g_aload_n X 4 dL_law_655 rfl rfl ?_
  refine g_ciV X [wC ct g kc162, wS ct (g 1) v, wS ct (g 2) (sl163 0), wS ct (g 3) (sl163 1), wV ct g b, wS ct (g 5) (r 0), wS ct (g 6) (r 1), wS ct (g 7) (r 2), wS ct (g 8) (r 3), wS ct (g 9) (r 4), wS ct (g 10) (r 5), wT ct (g 11) tx, wL ct (g 12) y, wO ct (g 13) o, wR ct (g 14) x, wM ct am w168 hs, wQ ct qa ou164] (fun (_ : Unit) => [wC ct g kc162, wS ct (g 1) v, wS ct (g 2) (sl163 0), wS ct (g 3) (sl163 1), wV ct g b, wS ct (g 5) (r 0), wS ct (g 6) (r 1), wS ct (g 7) (r 2), wS ct (g 8) (r 3), wS ct (g 9) (r 4), wS ct (g 10) (r 5), wT ct (g 11) tx, wL ct (g 12) y, wO ct (g 13) o, wR ct (g 14) x, wM ct am w168 hs, wQ ct qa ou164]) (fun _ => fl [wC ct g kc162, wS ct (g 1) v, wS ct (g 2) (sl163 0), wS ct (g 3) (sl163 1), wV ct g b, wS ct (g 5) (r 0), wS ct (g 6) (r 1), wS ct (g 7) (r 2), wS ct (g 8) (r 3), wS ct (g 9) (r 4), wS ct (g 10) (r 5), wT ct (g 11) tx, wL ct (g 12) y, wO ct (g 13) o, wR ct (g 14) x, wM ct am w168 hs, wQ ct qa ou164]) 17 [15] [0, 1, 2, 3, 4, 5, 6, 7, 8, 9, 10, 11, 12, 13, 14, 16] 0 (kX8_thrown l D ct am w168 hs _ hw) (cwV 0 X.1.2.2.2.2 gL_law_X8_thrown rfl rfl rfl (by decide +kernel) ⟨Nat.le_of_ble_eq_true rfl, Nat.le_of_ble_eq_true rfl⟩) dL_law_656 rfl rfl (Nat.le_of_ble_eq_true rfl) ⟨by show _ ≤ 601024; omega, by show _ ≤ 7293034; omega⟩ rfl rfl rfl (by decide) (fun _ => rfl) (fun _ => rfl) (fun _ => rfl) (fun _ => rfl) rfl rfl rfl (fun r169 _ hw => ?_)
  refine g_iload X 1 dL_law_659 rfl ?_
  refine g_icmp_eq X 666 dL_law_661 (by decide) (fun c171 => ?_) (fun c171 => ?_)
  · replace hw := hw.1 c171
    refine g_iload X 1 dL_law_666 rfl ?_
    refine g_if_ne X 683 dL_law_668 (by decide) (fun c172 => ?_) (fun c172 => ?_)
    · replace hw := hw.1 c172
      refine g_goto X 1318 dL_law_683 (by decide) ?_
      refine g_iinc X [(4, .int (x4 + 3)), (6, .int r166), (5, .int r160), (0, .ref sb), (1, .ref (g 0 0)), (2, .ref (am 0)), (3, .ref (qa 0))] 6 dL_law_1318 rfl rfl (by decide) rfl ?_
      refine g_goto X 23 dL_law_1321 (by decide) ?_
      refine g_sub [(0, .ref sb), (1, .ref (g 0 0)), (2, .ref (am 0)), (3, .ref (qa 0)), (4, .int (x4 + 3))] [3, 4, 5, 6, 0] rfl ?_
      refine g_wide (k2 := 117 + (513 - n)) (j2 := 2344 + 6 * (513 - n)) (by omega) (by omega) ?_
      exact ih (by omega) _ _ _ _ _ _ _ _ _ _ _ _ _ hw
    · replace hw := hw.2 c172
      refine g_aload_n X 5 dL_law_671 rfl rfl ?_
      refine g_iconst (v := 0) X rfl dL_law_672 ?_
      refine g_lald X 116 4 dL_law_673 rfl rfl (vp_in_nI (n := 0) (by decide) (by decide)) ?_
      refine g_iload X 0 dL_law_674 rfl ?_
      refine g_i2l X dL_law_676 ?_
      refine g_lcmp X dL_law_677 ?_
      refine g_if_eq X 683 dL_law_678 (by decide) (fun c173 => ?_) (fun c173 => ?_)
      · replace hw := hw.1 c173
        refine g_goto X 1318 dL_law_683 (by decide) ?_
        refine g_iinc X [(4, .int (x4 + 3)), (6, .int r166), (5, .int r160), (0, .ref sb), (1, .ref (g 0 0)), (2, .ref (am 0)), (3, .ref (qa 0))] 6 dL_law_1318 rfl rfl (by decide) rfl ?_
        refine g_goto X 23 dL_law_1321 (by decide) ?_
        refine g_sub [(0, .ref sb), (1, .ref (g 0 0)), (2, .ref (am 0)), (3, .ref (qa 0)), (4, .int (x4 + 3))] [3, 4, 5, 6, 0] rfl ?_
        refine g_wide (k2 := 117 + (513 - n)) (j2 := 2344 + 6 * (513 - n)) (by omega) (by omega) ?_
        exact ih (by omega) _ _ _ _ _ _ _ _ _ _ _ _ _ hw
      · replace hw := hw.2 c173
        refine g_iconst (v := 0) X rfl dL_law_681 ?_
        exact hw.elim
  · replace hw := hw.2 c171
    refine g_iconst (v := 0) X rfl dL_law_664 ?_
    exact hw.elim
set_option maxHeartbeats 20000000 in
set_option maxRecDepth 20000 in
theorem kL_arm_11 {p : Program} {l : Launch} {e : Env} {s : State} {m : MethodId} {args : Array Value} {below : List Frame} {meth : Method} {c : Code} {D : va_G} {ct : Nat → ClassId} {A : Nat → Prop} {Q : State → Prop} {sb L : Nat} {xs : Nat → Int32} {g : Nat → Nat → Nat} {am qa : Nat → Nat} (hl9 : l.stackTraces = false) (X : Cx p s m args meth c cL_law 9 RL wsL_law D (tyz ct) A s.heap ret) (XX : XL A s) (hX : va_X sb L xs s s.heap) (hbl : sb < s.heap.size) (hbA : ¬ A sb) (hend : ∀ (k j : Nat) (w : va_W) (lv : List (Nat × Value)), k ≤ 601024 → j ≤ 7293034 → GG p l e room_1 s m args below meth c D A s.heap 9 Q (w) (k) (j) lv 1325 [.int 1])  {n : Nat} (ih : n ≤ 513 → ∀ (kc : Mem) (v : Mem) (sl : Nat → Mem) (b : Mem) (r : Nat → Mem) (tx : Mem) (y : Mem) (o : Mem) (x : Mem) (w : Mem) (hs : Int64) (ou : Nat → Int64) (x4 : Int32), PL_law_23 xs L n kc v sl b r tx y o x w hs ou x4 → GG p l e room_1 s m args below meth c D A s.heap 9 Q (fl [wC ct g kc, wS ct (g 1) v, wS ct (g 2) (sl 0), wS ct (g 3) (sl 1), wV ct g b, wS ct (g 5) (r 0), wS ct (g 6) (r 1), wS ct (g 7) (r 2), wS ct (g 8) (r 3), wS ct (g 9) (r 4), wS ct (g 10) (r 5), wT ct (g 11) tx, wL ct (g 12) y, wO ct (g 13) o, wR ct (g 14) x, wM ct am w hs, wQ ct qa ou]) (117 + (513 - n)) (2344 + 6 * (513 - n)) [(0, .ref sb), (1, .ref (g 0 0)), (2, .ref (am 0)), (3, .ref (qa 0)), (4, .int x4)] 23 []) (hn9 : n + 1 ≤ 513) (kc : Mem) (v : Mem) (sl : Nat → Mem) (b : Mem) (r : Nat → Mem) (tx : Mem) (y : Mem) (o : Mem) (x : Mem) (w : Mem) (hs : Int64) (ou : Nat → Int64) (x4 : Int32) (c174 : ((xs (ix x4)) &&& 31) = 11) (hw : vp_in (x4 + 1) L ∧ PL_goBack kc v sl b r ou (xs (ix (x4 + 1))) (fun r176 v178 b179 r180 ou181 => vp_in (x4 + 1) L ∧ PX8_goBack w hs (xs (ix (x4 + 1))) (fun r183 w185 => PX8_thrown w185 hs (fun r186 => ((r186 = r176) → ((¬ r176 = 0) → PL_law_23 xs L n kc v178 sl b179 r180 tx y o x w185 hs ou181 (x4 + 3)) ∧ ((r176 = 0) → (((lg_cmp (ou181 0) r183.toInt64) = 0) → PL_law_23 xs L n kc v178 sl b179 r180 tx y o x w185 hs ou181 (x4 + 3)) ∧ ((¬ (lg_cmp (ou181 0) r183.toInt64) = 0) → False))) ∧ ((¬ r186 = r176) → False))))) : GG p l e room_1 s m args below meth c D A s.heap 9 Q (fl [wC ct g kc, wS ct (g 1) v, wS ct (g 2) (sl 0), wS ct (g 3) (sl 1), wV ct g b, wS ct (g 5) (r 0), wS ct (g 6) (r 1), wS ct (g 7) (r 2), wS ct (g 8) (r 3), wS ct (g 9) (r 4), wS ct (g 10) (r 5), wT ct (g 11) tx, wL ct (g 12) y, wO ct (g 13) o, wR ct (g 14) x, wM ct am w hs, wQ ct qa ou]) (117 + (513 - (n + 1))) (2344 + 6 * (513 - (n + 1))) [(0, .ref sb), (1, .ref (g 0 0)), (2, .ref (am 0)), (3, .ref (qa 0)), (4, .int x4)] 686 [] := by
  refine g_aload_n X 1 dL_law_686 rfl rfl ?_
  refine g_aload_n X 0 dL_law_687 rfl rfl ?_
  refine g_iload X 4 dL_law_688 rfl ?_
  refine g_iconst (v := 1) X rfl dL_law_690 ?_
  refine g_iadd X dL_law_691 ?_
  obtain ⟨h175, hw⟩ := hw
  refine g_sld X hX hbl hbA h175 dL_law_692 ?_
  refine g_aload_n X 3 dL_law_693 rfl rfl ?_
  refine g_chS X XX [wC ct g kc, wS ct (g 1) v, wS ct (g 2) (sl 0), wS ct (g 3) (sl 1), wV ct g b, wS ct (g 5) (r 0), wS ct (g 6) (r 1), wS ct (g 7) (r 2), wS ct (g 8) (r 3), wS ct (g 9) (r 4), wS ct (g 10) (r 5), wT ct (g 11) tx, wL ct (g 12) y, wO ct (g 13) o, wR ct (g 14) x, wM ct am w hs, wQ ct qa ou] (fun (u177 : Mem × Mem × (Nat → Mem) × (Nat → Int64)) => [wC ct g kc, wS ct (g 1) u177.1, wS ct (g 2) (sl 0), wS ct (g 3) (sl 1), wV ct g u177.2.1, wS ct (g 5) (u177.2.2.1 0), wS ct (g 6) (u177.2.2.1 1), wS ct (g 7) (u177.2.2.1 2), wS ct (g 8) (u177.2.2.1 3), wS ct (g 9) (u177.2.2.1 4), wS ct (g 10) (u177.2.2.1 5), wT ct (g 11) tx, wL ct (g 12) y, wO ct (g 13) o, wR ct (g 14) x, wM ct am w hs, wQ ct qa u177.2.2.2]) (fun (u177 : Mem × Mem × (Nat → Mem) × (Nat → Int64)) => fl [wC ct g kc, wS ct (g 1) u177.1, wS ct (g 2) (sl 0), wS ct (g 3) (sl 1), wV ct g u177.2.1, wS ct (g 5) (u177.2.2.1 0), wS ct (g 6) (u177.2.2.1 1), wS ct (g 7) (u177.2.2.1 2), wS ct (g 8) (u177.2.2.1 3), wS ct (g 9) (u177.2.2.1 4), wS ct (g 10) (u177.2.2.1 5), wT ct (g 11) tx, wL ct (g 12) y, wO ct (g 13) o, wR ct (g 14) x, wM ct am w hs, wQ ct qa u177.2.2.2]) 17 [0, 1, 2, 3, 4, 5, 6, 7, 8, 9, 10, 16] [11, 12, 13, 14, 15] (kL_goBack l hl9 D ct g qa kc v sl b r ou (xs (ix (x4 + 1))) _ hw) (vx_cwSW 3 X.1.2.2.2.2 gL_law_L_goBack rfl rfl rfl (by decide +kernel) ⟨Nat.le_of_ble_eq_true rfl, Nat.le_of_ble_eq_true rfl⟩) dL_law_694 rfl rfl (Nat.le_of_ble_eq_true rfl) ⟨by show _ ≤ 601024; omega, by show _ ≤ 7293034; omega⟩ rfl rfl rfl (by decide) (fun _ => rfl) (fun _ => rfl) (fun _ => rfl) (fun _ => rfl) (fun r176 u177 hw => ?_)
  obtain ⟨v178, hv178⟩ : ∃ z : Mem, z = u177.1 := ⟨_, rfl⟩
  rw [← hv178] at hw
  rw [← hv178]
  obtain ⟨b179, hb179⟩ : ∃ z : Mem, z = u177.2.1 := ⟨_, rfl⟩
  rw [← hb179] at hw
  rw [← hb179]
  obtain ⟨r180, hr180⟩ : ∃ z : Nat → Mem, z = u177.2.2.1 := ⟨_, rfl⟩
  rw [← hr180] at hw
  rw [← hr180]
  obtain ⟨ou181, hou181⟩ : ∃ z : Nat → Int64, z = u177.2.2.2 := ⟨_, rfl⟩
  rw [← hou181] at hw
  rw [← hou181]
  refine g_istore X [(5, .int r176), (0, .ref sb), (1, .ref (g 0 0)), (2, .ref (am 0)), (3, .ref (qa 0)), (4, .int x4)] dL_law_697 (by decide) rfl ?_
  refine g_aload_n X 3 dL_law_699 rfl rfl ?_
  refine g_aload_n X 1 dL_law_700 rfl rfl ?_
  refine g_iload X 5 dL_law_701 rfl ?_
  refine g_iconst (v := 1) X rfl dL_law_703 ?_
  refine g_iadd X dL_law_704 ?_
  obtain ⟨h182, hw⟩ := hw
  refine g_sld X hX hbl hbA h182 dL_law_705 ?_
  refine g_ciV X [wC ct g kc, wS ct (g 1) v178, wS ct (g 2) (sl 0), wS ct (g 3) (sl 1), wV ct g b179, wS ct (g 5) (r180 0), wS ct (g 6) (r180 1), wS ct (g 7) (r180 2), wS ct (g 8) (r180 3), wS ct (g 9) (r180 4), wS ct (g 10) (r180 5), wT ct (g 11) tx, wL ct (g 12) y, wO ct (g 13) o, wR ct (g 14) x, wM ct am w hs, wQ ct qa ou181] (fun (u184 : Mem) => [wC ct g kc, wS ct (g 1) v178, wS ct (g 2) (sl 0), wS ct (g 3) (sl 1), wV ct g b179, wS ct (g 5) (r180 0), wS ct (g 6) (r180 1), wS ct (g 7) (r180 2), wS ct (g 8) (r180 3), wS ct (g 9) (r180 4), wS ct (g 10) (r180 5), wT ct (g 11) tx, wL ct (g 12) y, wO ct (g 13) o, wR ct (g 14) x, wM ct am u184 hs, wQ ct qa ou181]) (fun (u184 : Mem) => fl [wC ct g kc, wS ct (g 1) v178, wS ct (g 2) (sl 0), wS ct (g 3) (sl 1), wV ct g b179, wS ct (g 5) (r180 0), wS ct (g 6) (r180 1), wS ct (g 7) (r180 2), wS ct (g 8) (r180 3), wS ct (g 9) (r180 4), wS ct (g 10) (r180 5), wT ct (g 11) tx, wL ct (g 12) y, wO ct (g 13) o, wR ct (g 14) x, wM ct am u184 hs, wQ ct qa ou181]) 17 [15] [0, 1, 2, 3, 4, 5, 6, 7, 8, 9, 10, 11, 12, 13, 14, 16] 0 (kX8_goBack l D ct am w hs (xs (ix (x4 + 1))) _ hw) (cwV 1 X.1.2.2.2.2 gL_law_X8_goBack rfl rfl rfl (by decide +kernel) ⟨Nat.le_of_ble_eq_true rfl, Nat.le_of_ble_eq_true rfl⟩) dL_law_706 rfl rfl (Nat.le_of_ble_eq_true rfl) ⟨by show _ ≤ 601024; omega, by show _ ≤ 7293034; omega⟩ rfl rfl rfl (by decide) (fun _ => rfl) (fun _ => rfl) (fun _ => rfl) (fun _ => rfl) rfl rfl rfl (fun r183 u184 hw => ?_)
  obtain ⟨w185, hw185⟩ : ∃ z : Mem, z = u184 := ⟨_, rfl⟩
  rw [← hw185] at hw
  rw [← hw185]
  refine g_istore X [(6, .int r183), (5, .int r176), (0, .ref sb), (1, .ref (g 0 0)), (2, .ref (am 0)), (3, .ref (qa 0)), (4, .int x4)] dL_law_709 (by decide) rfl ?_
  refine g_aload_n X 4 dL_law_711 rfl rfl ?_
  refine g_ciV X [wC ct g kc, wS ct (g 1) v178, wS ct (g 2) (sl 0), wS ct (g 3) (sl 1), wV ct g b179, wS ct (g 5) (r180 0), wS ct (g 6) (r180 1), wS ct (g 7) (r180 2), wS ct (g 8) (r180 3), wS ct (g 9) (r180 4), wS ct (g 10) (r180 5), wT ct (g 11) tx, wL ct (g 12) y, wO ct (g 13) o, wR ct (g 14) x, wM ct am w185 hs, wQ ct qa ou181] (fun (_ : Unit) => [wC ct g kc, wS ct (g 1) v178, wS ct (g 2) (sl 0), wS ct (g 3) (sl 1), wV ct g b179, wS ct (g 5) (r180 0), wS ct (g 6) (r180 1), wS ct (g 7) (r180 2), wS ct (g 8) (r180 3), wS ct (g 9) (r180 4), wS ct (g 10) (r180 5), wT ct (g 11) tx, wL ct (g 12) y, wO ct (g 13) o, wR ct (g 14) x, wM ct am w185 hs, wQ ct qa ou181]) (fun _ => fl [wC ct g kc, wS ct (g 1) v178, wS ct (g 2) (sl 0), wS ct (g 3) (sl 1), wV ct g b179, wS ct (g 5) (r180 0), wS ct (g 6) (r180 1), wS ct (g 7) (r180 2), wS ct (g 8) (r180 3), wS ct (g 9) (r180 4), wS ct (g 10) (r180 5), wT ct (g 11) tx, wL ct (g 12) y, wO ct (g 13) o, wR ct (g 14) x, wM ct am w185 hs, wQ ct qa ou181]) 17 [15] [0, 1, 2, 3, 4, 5, 6, 7, 8, 9, 10, 11, 12, 13, 14, 16] 0 (kX8_thrown l D ct am w185 hs _ hw) (cwV 0 X.1.2.2.2.2 gL_law_X8_thrown rfl rfl rfl (by decide +kernel) ⟨Nat.le_of_ble_eq_true rfl, Nat.le_of_ble_eq_true rfl⟩) dL_law_712 rfl rfl (Nat.le_of_ble_eq_true rfl) ⟨by show _ ≤ 601024; omega, by show _ ≤ 7293034; omega⟩ rfl rfl rfl (by decide) (fun _ => rfl) (fun _ => rfl) (fun _ => rfl) (fun _ => rfl) rfl rfl rfl (fun r186 _ hw => ?_)
  refine g_iload X 1 dL_law_715 rfl ?_
  refine g_icmp_eq X 722 dL_law_717 (by decide) (fun c188 => ?_) (fun c188 => ?_)
  · replace hw := hw.1 c188
    refine g_iload X 1 dL_law_722 rfl ?_
    refine g_if_ne X 739 dL_law_724 (by decide) (fun c189 => ?_) (fun c189 => ?_)
    · replace hw := hw.1 c189
      refine g_goto X 1318 dL_law_739 (by decide) ?_
      refine g_iinc X [(4, .int (x4 + 3)), (6, .int r183), (5, .int r176), (0, .ref sb), (1, .ref (g 0 0)), (2, .ref (am 0)), (3, .ref (qa 0))] 6 dL_law_1318 rfl rfl (by decide) rfl ?_
      refine g_goto X 23 dL_law_1321 (by decide) ?_
      refine g_sub [(0, .ref sb), (1, .ref (g 0 0)), (2, .ref (am 0)), (3, .ref (qa 0)), (4, .int (x4 + 3))] [3, 4, 5, 6, 0] rfl ?_
      refine g_wide (k2 := 117 + (513 - n)) (j2 := 2344 + 6 * (513 - n)) (by omega) (by omega) ?_
      exact ih (by omega) _ _ _ _ _ _ _ _ _ _ _ _ _ hw
    · replace hw := hw.2 c189
      refine g_aload_n X 5 dL_law_727 rfl rfl ?_
      refine g_iconst (v := 0) X rfl dL_law_728 ?_
      refine g_lald X 116 4 dL_law_729 rfl rfl (vp_in_nI (n := 0) (by decide) (by decide)) ?_
      refine g_iload X 0 dL_law_730 rfl ?_
      refine g_i2l X dL_law_732 ?_
      refine g_lcmp X dL_law_733 ?_
      refine g_if_eq X 739 dL_law_734 (by decide) (fun c190 => ?_) (fun c190 => ?_)
      · replace hw := hw.1 c190
        refine g_goto X 1318 dL_law_739 (by decide) ?_
        refine g_iinc X [(4, .int (x4 + 3)), (6, .int r183), (5, .int r176), (0, .ref sb), (1, .ref (g 0 0)), (2, .ref (am 0)), (3, .ref (qa 0))] 6 dL_law_1318 rfl rfl (by decide) rfl ?_
        refine g_goto X 23 dL_law_1321 (by decide) ?_
        refine g_sub [(0, .ref sb), (1, .ref (g 0 0)), (2, .ref (am 0)), (3, .ref (qa 0)), (4, .int (x4 + 3))] [3, 4, 5, 6, 0] rfl ?_
        refine g_wide (k2 := 117 + (513 - n)) (j2 := 2344 + 6 * (513 - n)) (by omega) (by omega) ?_
        exact ih (by omega) _ _ _ _ _ _ _ _ _ _ _ _ _ hw
      · replace hw := hw.2 c190
        refine g_iconst (v := 0) X rfl dL_law_737 ?_
        exact hw.elim
  · replace hw := hw.2 c188
    refine g_iconst (v := 0) X rfl dL_law_720 ?_
    exact hw.elim
