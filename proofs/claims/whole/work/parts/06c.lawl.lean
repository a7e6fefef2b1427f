set_option maxHeartbeats 20000000 in
set_option maxRecDepth 20000 in
theorem kL_arm_16 {p : Program} {l : Launch} {e : Env} {s : State} {m : MethodId} {args : Array Value} {below : List Frame} {meth : Method} {c : Code} {D : va_G} {ct : Nat → ClassId} {A : Nat → Prop} {Q : State → Prop} {sb L : Nat} {xs : Nat → Int32} {g : Nat → Nat → Nat} {am qa : Nat → Nat} (hl9 : l.stackTraces = false) (X : Cx p s m args meth c cL_law 9 RL wsL_law D (tyz ct) A s.heap ret) (XX : XL A s) (hX : va_X sb L xs s s.heap) (hbl : sb < s.heap.size) (hbA : ¬ A sb) (hend : ∀ (k j : Nat) (w : va_W) (lv : List (Nat × Value)), k ≤ 601024 → j ≤ 7293034 → GG p l e room_1 s m args below meth c D A s.heap 9 Q (w) (k) (j) lv 1325 [.int 1])  {n : Nat} (ih : n ≤ 513 → ∀ (kc : Mem) (v : Mem) (sl : Nat → Mem) (b : Mem) (r : Nat → Mem) (tx : Mem) (y : Mem) (o : Mem) (x : Mem) (w : Mem) (hs : Int64) (ou : Nat → Int64) (x4 : Int32), PL_law_23 xs L n kc v sl b r tx y o x w hs ou x4 → GG p l e room_1 s m args below meth c D A s.heap 9 Q (fl [wC ct g kc, wS ct (g 1) v, wS ct (g 2) (sl 0), wS ct (g 3) (sl 1), wV ct g b, wS ct (g 5) (r 0), wS ct (g 6) (r 1), wS ct (g 7) (r 2), wS ct (g 8) (r 3), wS ct (g 9) (r 4), wS ct (g 10) (r 5), wT ct (g 11) tx, wL ct (g 12) y, wO ct (g 13) o, wR ct (g 14) x, wM ct am w hs, wQ ct qa ou]) (117 + (513 - n)) (2344 + 6 * (513 - n)) [(0, .ref sb), (1, .ref (g 0 0)), (2, .ref (am 0)), (3, .ref (qa 0)), (4, .int x4)] 23 []) (hn9 : n + 1 ≤ 513) (kc : Mem) (v : Mem) (sl : Nat → Mem) (b : Mem) (r : Nat → Mem) (tx : Mem) (y : Mem) (o : Mem) (x : Mem) (w : Mem) (hs : Int64) (ou : Nat → Int64) (x4 : Int32) (c253 : ((xs (ix x4)) &&& 31) = 16) (hw : vp_in (x4 + 1) L ∧ vp_in (x4 + 2) L ∧ PL_crossings kc v y ou (xs (ix (x4 + 1))) (xs (ix (x4 + 2))) (fun r256 y258 ou259 => vp_in (x4 + 1) L ∧ vp_in (x4 + 2) L ∧ PX8_crossings w hs (xs (ix (x4 + 1))) (xs (ix (x4 + 2))) (fun r262 w264 => PX8_thrown w264 hs (fun r265 => ((r265 = r256) → ((¬ r256 = 0) → PL_law_23 xs L n kc v sl b r tx y258 o x w264 hs ou259 (x4 + 3)) ∧ ((r256 = 0) → (((lg_cmp (ou259 0) r262.toInt64) = 0) → PL_law_23 xs L n kc v sl b r tx y258 o x w264 hs ou259 (x4 + 3)) ∧ ((¬ (lg_cmp (ou259 0) r262.toInt64) = 0) → False))) ∧ ((¬ r265 = r256) → False))))) : GG p l e room_1 s m args below meth c D A s.heap 9 Q (fl [wC ct g kc, wS ct (g 1) v, wS ct (g 2) (sl 0), wS ct (g 3) (sl 1), wV ct g b, wS ct (g 5) (r 0), wS ct (g 6) (r 1), wS ct (g 7) (r 2), wS ct (g 8) (r 3), wS ct (g 9) (r 4), wS ct (g 10) (r 5), wT ct (g 11) tx, wL ct (g 12) y, wO ct (g 13) o, wR ct (g 14) x, wM ct am w hs, wQ ct qa ou]) (117 + (513 - (n + 1))) (2344 + 6 * (513 - (n + 1))) [(0, .ref sb), (1, .ref (g 0 0)), (2, .ref (am 0)), (3, .ref (qa 0)), (4, .int x4)] 990 [] := by
  refine g_aload_n X 1 dL_law_990 rfl rfl ?_
  refine g_aload_n X 0 dL_law_991 rfl rfl ?_
  refine g_iload X 4 dL_law_992 rfl ?_
  refine g_iconst (v := 1) X rfl dL_law_994 ?_
  refine g_iadd X dL_law_995 ?_
  obtain ⟨h254, hw⟩ := hw
  refine g_sld X hX hbl hbA h254 dL_law_996 ?_
  refine g_aload_n X 0 dL_law_997 rfl rfl ?_
  refine g_iload X 4 dL_law_998 rfl ?_
  refine g_iconst (v := 2) X rfl dL_law_1000 ?_
  refine g_iadd X dL_law_1001 ?_
  obtain ⟨h255, hw⟩ := hw
  refine g_sld X hX hbl hbA h255 dL_law_1002 ?_
  refine g_aload_n X 3 dL_law_1003 rfl rfl ?_
  refine g_chS X XX [wC ct g kc, wS ct (g 1) v, wS ct (g 2) (sl 0), wS ct (g 3) (sl 1), wV ct g b, wS ct (g 5) (r 0), wS ct (g 6) (r 1), wS ct (g 7) (r 2), wS ct (g 8) (r 3), wS ct (g 9) (r 4), wS ct (g 10) (r 5), wT ct (g 11) tx, wL ct (g 12) y, wO ct (g 13) o, wR ct (g 14) x, wM ct am w hs, wQ ct qa ou] (fun (u257 : Mem × (Nat → Int64)) => [wC ct g kc, wS ct (g 1) v, wS ct (g 2) (sl 0), wS ct (g 3) (sl 1), wV ct g b, wS ct (g 5) (r 0), wS ct (g 6) (r 1), wS ct (g 7) (r 2), wS ct (g 8) (r 3), wS ct (g 9) (r 4), wS ct (g 10) (r 5), wT ct (g 11) tx, wL ct (g 12) u257.1, wO ct (g 13) o, wR ct (g 14) x, wM ct am w hs, wQ ct qa u257.2]) (fun (u257 : Mem × (Nat → Int64)) => fl [wC ct g kc, wS ct (g 1) v, wS ct (g 2) (sl 0), wS ct (g 3) (sl 1), wV ct g b, wS ct (g 5) (r 0), wS ct (g 6) (r 1), wS ct (g 7) (r 2), wS ct (g 8) (r 3), wS ct (g 9) (r 4), wS ct (g 10) (r 5), wT ct (g 11) tx, wL ct (g 12) u257.1, wO ct (g 13) o, wR ct (g 14) x, wM ct am w hs, wQ ct qa u257.2]) 17 [0, 1, 12, 16] [2, 3, 4, 5, 6, 7, 8, 9, 10, 11, 13, 14, 15] (kL_crossings l hl9 D ct g qa kc v y ou (xs (ix (x4 + 1))) (xs (ix (x4 + 2))) _ hw) (vx_cwSW 4 X.1.2.2.2.2 gL_law_L_crossings rfl rfl rfl (by decide +kernel) ⟨Nat.le_of_ble_eq_true rfl, Nat.le_of_ble_eq_true rfl⟩) dL_law_1004 rfl rfl (Nat.le_of_ble_eq_true rfl) ⟨by show _ ≤ 601024; omega, by show _ ≤ 7293034; omega⟩ rfl rfl rfl (by decide) (fun _ => rfl) (fun _ => lq_0_1_12_16) (fun _ => rfl) (fun _ => rfl) (fun r256 u257 hw => ?_)
  obtain ⟨y258, hy258⟩ : ∃ z : Mem, z = u257.1 := ⟨_, rfl⟩
  rw [← hy258] at hw
  rw [← hy258]
  obtain ⟨ou259, hou259⟩ : ∃ z : Nat → Int64, z = u257.2 := ⟨_, rfl⟩
  rw [← hou259] at hw
  rw [← hou259]
  refine g_istore X [(5, .int r256), (0, .ref sb), (1, .ref (g 0 0)), (2, .ref (am 0)), (3, .ref (qa 0)), (4, .int x4)] dL_law_1007 (by decide) rfl ?_
  refine g_aload_n X 3 dL_law_1009 rfl rfl ?_
  refine g_aload_n X 1 dL_law_1010 rfl rfl ?_
  refine g_iload X 5 dL_law_1011 rfl ?_
  refine g_iconst (v := 1) X rfl dL_law_1013 ?_
  refine g_iadd X dL_law_1014 ?_
  obtain ⟨h260, hw⟩ := hw
  refine g_sld X hX hbl hbA h260 dL_law_1015 ?_
  refine g_aload_n X 1 dL_law_1016 rfl rfl ?_
  refine g_iload X 5 dL_law_1017 rfl ?_
  refine g_iconst (v := 2) X rfl dL_law_1019 ?_
  refine g_iadd X dL_law_1020 ?_
  obtain ⟨h261, hw⟩ := hw
  refine g_sld X hX hbl hbA h261 dL_law_1021 ?_
  refine g_ciV X [wC ct g kc, wS ct (g 1) v, wS ct (g 2) (sl 0), wS ct (g 3) (sl 1), wV ct g b, wS ct (g 5) (r 0), wS ct (g 6) (r 1), wS ct (g 7) (r 2), wS ct (g 8) (r 3), wS ct (g 9) (r 4), wS ct (g 10) (r 5), wT ct (g 11) tx, wL ct (g 12) y258, wO ct (g 13) o, wR ct (g 14) x, wM ct am w hs, wQ ct qa ou259] (fun (u263 : Mem) => [wC ct g kc, wS ct (g 1) v, wS ct (g 2) (sl 0), wS ct (g 3) (sl 1), wV ct g b, wS ct (g 5) (r 0), wS ct (g 6) (r 1), wS ct (g 7) (r 2), wS ct (g 8) (r 3), wS ct (g 9) (r 4), wS ct (g 10) (r 5), wT ct (g 11) tx, wL ct (g 12) y258, wO ct (g 13) o, wR ct (g 14) x, wM ct am u263 hs, wQ ct qa ou259]) (fun (u263 : Mem) => fl [wC ct g kc, wS ct (g 1) v, wS ct (g 2) (sl 0), wS ct (g 3) (sl 1), wV ct g b, wS ct (g 5) (r 0), wS ct (g 6) (r 1), wS ct (g 7) (r 2), wS ct (g 8) (r 3), wS ct (g 9) (r 4), wS ct (g 10) (r 5), wT ct (g 11) tx, wL ct (g 12) y258, wO ct (g 13) o, wR ct (g 14) x, wM ct am u263 hs, wQ ct qa ou259]) 17 [15] [0, 1, 2, 3, 4, 5, 6, 7, 8, 9, 10, 11, 12, 13, 14, 16] 0 (kX8_crossings l D ct am w hs (xs (ix (x4 + 1))) (xs (ix (x4 + 2))) _ hw) (cwV 2 X.1.2.2.2.2 gL_law_X8_crossings rfl rfl rfl (by decide +kernel) ⟨Nat.le_of_ble_eq_true rfl, Nat.le_of_ble_eq_true rfl⟩) dL_law_1022 rfl rfl (Nat.le_of_ble_eq_true rfl) ⟨by show _ ≤ 601024; omega, by show _ ≤ 7293034; omega⟩ rfl rfl rfl (by decide) (fun _ => rfl) (fun _ => lq_15) (fun _ => rfl) (fun _ => rfl) rfl rfl rfl (fun r262 u263 hw => ?_)
  obtain ⟨w264, hw264⟩ : ∃ z : Mem, z = u263 := ⟨_, rfl⟩
  rw [← hw264] at hw
  rw [← hw264]
  refine g_istore X [(6, .int r262), (5, .int r256), (0, .ref sb), (1, .ref (g 0 0)), (2, .ref (am 0)), (3, .ref (qa 0)), (4, .int x4)] dL_law_1025 (by decide) rfl ?_
  refine g_aload_n X 4 dL_law_1027 rfl rfl ?_
  refine g_ciV X [wC ct g kc, wS ct (g 1) v, wS ct (g 2) (sl 0), wS ct (g 3) (sl 1), wV ct g b, wS ct (g 5) (r 0), wS ct (g 6) (r 1), wS ct (g 7) (r 2), wS ct (g 8) (r 3), wS ct (g 9) (r 4), wS ct (g 10) (r 5), wT ct (g 11) tx, wL ct (g 12) y258, wO ct (g 13) o, wR ct (g 14) x, wM ct am w264 hs, wQ ct qa ou259] (fun (_ : Unit) => [wC ct g kc, wS ct (g 1) v, wS ct (g 2) (sl 0), wS ct (g 3) (sl 1), wV ct g b, wS ct (g 5) (r 0), wS ct (g 6) (r 1), wS ct (g 7) (r 2), wS ct (g 8) (r 3), wS ct (g 9) (r 4), wS ct (g 10) (r 5), wT ct (g 11) tx, wL ct (g 12) y258, wO ct (g 13) o, wR ct (g 14) x, wM ct am w264 hs, wQ ct qa ou259]) (fun _ => fl [wC ct g kc, wS ct (g 1) v, wS ct (g 2) (sl 0), wS ct (g 3) (sl 1), wV ct g b, wS ct (g 5) (r 0), wS ct (g 6) (r 1), wS ct (g 7) (r 2), wS ct (g 8) (r 3), wS ct (g 9) (r 4), wS ct (g 10) (r 5), wT ct (g 11) tx, wL ct (g 12) y258, wO ct (g 13) o, wR ct (g 14) x, wM ct am w264 hs, wQ ct qa ou259]) 17 [15] [0, 1, 2, 3, 4, 5, 6, 7, 8, 9, 10, 11, 12, 13, 14, 16] 0 (kX8_thrown l D ct am w264 hs _ hw) (cwV 0 X.1.2.2.2.2 gL_law_X8_thrown rfl rfl rfl (by decide +kernel) ⟨Nat.le_of_ble_eq_true rfl, Nat.le_of_ble_eq_true rfl⟩) dL_law_1028 rfl rfl (Nat.le_of_ble_eq_true rfl) ⟨by show _ ≤ 601024; omega, by show _ ≤ 7293034; omega⟩ rfl rfl rfl (by decide) (fun _ => rfl) (fun _ => lq_15) (fun _ => rfl) (fun _ => rfl) rfl rfl rfl (fun r265 _ hw => ?_)
  refine g_iload X 1 dL_law_1031 rfl ?_
  refine g_icmp_eq X 1038 dL_law_1033 (by decide) (fun c267 => ?_) (fun c267 => ?_)
  · replace hw := hw.1 c267
    refine g_iload X 1 dL_law_1038 rfl ?_
    refine g_if_ne X 1055 dL_law_1040 (by decide) (fun c268 => ?_) (fun c268 => ?_)
    · replace hw := hw.1 c268
      refine g_goto X 1318 dL_law_1055 (by decide) ?_
      refine g_iinc X [(4, .int (x4 + 3)), (6, .int r262), (5, .int r256), (0, .ref sb), (1, .ref (g 0 0)), (2, .ref (am 0)), (3, .ref (qa 0))] 6 dL_law_1318 rfl rfl (by decide) rfl ?_
      refine g_goto X 23 dL_law_1321 (by decide) ?_
      refine g_sub [(0, .ref sb), (1, .ref (g 0 0)), (2, .ref (am 0)), (3, .ref (qa 0)), (4, .int (x4 + 3))] [3, 4, 5, 6, 0] rfl ?_
      refine g_wide (k2 := 117 + (513 - n)) (j2 := 2344 + 6 * (513 - n)) (by omega) (by omega) ?_
      exact ih (by omega) _ _ _ _ _ _ _ _ _ _ _ _ _ hw
    · replace hw := hw.2 c268
      refine g_aload_n X 5 dL_law_1043 rfl rfl ?_
      refine g_iconst (v := 0) X rfl dL_law_1044 ?_
      refine g_lald X 116 4 dL_law_1045 rfl rfl (vp_in_nI (n := 0) (by decide) (by decide)) ?_
      refine g_iload X 0 dL_law_1046 rfl ?_
      refine g_i2l X dL_law_1048 ?_
      refine g_lcmp X dL_law_1049 ?_
      refine g_if_eq X 1055 dL_law_1050 (by decide) (fun c269 => ?_) (fun c269 => ?_)
      · replace hw := hw.1 c269
        refine g_goto X 1318 dL_law_1055 (by decide) ?_
        refine g_iinc X [(4, .int (x4 + 3)), (6, .int r262), (5, .int r256), (0, .ref sb), (1, .ref (g 0 0)), (2, .ref (am 0)), (3, .ref (qa 0))] 6 dL_law_1318 rfl rfl (by decide) rfl ?_
        refine g_goto X 23 dL_law_1321 (by decide) ?_
        refine g_sub [(0, .ref sb), (1, .ref (g 0 0)), (2, .ref (am 0)), (3, .ref (qa 0)), (4, .int (x4 + 3))] [3, 4, 5, 6, 0] rfl ?_
        refine g_wide (k2 := 117 + (513 - n)) (j2 := 2344 + 6 * (513 - n)) (by omega) (by omega) ?_
        exact ih (by omega) _ _ _ _ _ _ _ _ _ _ _ _ _ hw
      · replace hw := hw.2 c269
        refine g_iconst (v := 0) X rfl dL_law_1053 ?_
        exact hw.elim
  · replace hw := hw.2 c267
    refine g_iconst (v := 0) X rfl dL_law_1036 ?_
    exact hw.elim
set_option maxHeartbeats 20000000 in
set_option maxRecDepth 20000 in
theorem kL_arm_17 {p : Program} {l : Launch} {e : Env} {s : State} {m : MethodId} {args : Array Value} {below : List Frame} {meth : Method} {c : Code} {D : va_G} {ct : Nat → ClassId} {A : Nat → Prop} {Q : State → Prop} {sb L : Nat} {xs : Nat → Int32} {g : Nat → Nat → Nat} {am qa : Nat → Nat} (hl9 : l.stackTraces = false) (X : Cx p s m args meth c cL_law 9 RL wsL_law D (tyz ct) A s.heap ret) (XX : XL A s) (hX : va_X sb L xs s s.heap) (hbl : sb < s.heap.size) (hbA : ¬ A sb) (hend : ∀ (k j : Nat) (w : va_W) (lv : List (Nat × Value)), k ≤ 601024 → j ≤ 7293034 → GG p l e room_1 s m args below meth c D A s.heap 9 Q (w) (k) (j) lv 1325 [.int 1])  {n : Nat} (ih : n ≤ 513 → ∀ (kc : Mem) (v : Mem) (sl : Nat → Mem) (b : Mem) (r : Nat → Mem) (tx : Mem) (y : Mem) (o : Mem) (x : Mem) (w : Mem) (hs : Int64) (ou : Nat → Int64) (x4 : Int32), PL_law_23 xs L n kc v sl b r tx y o x w hs ou x4 → GG p l e room_1 s m args below meth c D A s.heap 9 Q (fl [wC ct g kc, wS ct (g 1) v, wS ct (g 2) (sl 0), wS ct (g 3) (sl 1), wV ct g b, wS ct (g 5) (r 0), wS ct (g 6) (r 1), wS ct (g 7) (r 2), wS ct (g 8) (r 3), wS ct (g 9) (r 4), wS ct (g 10) (r 5), wT ct (g 11) tx, wL ct (g 12) y, wO ct (g 13) o, wR ct (g 14) x, wM ct am w hs, wQ ct qa ou]) (117 + (513 - n)) (2344 + 6 * (513 - n)) [(0, .ref sb), (1, .ref (g 0 0)), (2, .ref (am 0)), (3, .ref (qa 0)), (4, .int x4)] 23 []) (hn9 : n + 1 ≤ 513) (kc : Mem) (v : Mem) (sl : Nat → Mem) (b : Mem) (r : Nat → Mem) (tx : Mem) (y : Mem) (o : Mem) (x : Mem) (w : Mem) (hs : Int64) (ou : Nat → Int64) (x4 : Int32) (c270 : ((xs (ix x4)) &&& 31) = 17) (hw : vp_in (x4 + 1) L ∧ PL_count kc v b y ou (xs (ix (x4 + 1))) (fun r272 y274 ou275 => vp_in (x4 + 1) L ∧ PX8_count w hs (xs (ix (x4 + 1))) (fun r277 w279 => PX8_thrown w279 hs (fun r280 => ((r280 = r272) → ((¬ r272 = 0) → PL_law_23 xs L n kc v sl b r tx y274 o x w279 hs ou275 (x4 + 3)) ∧ ((r272 = 0) → (((lg_cmp (ou275 0) r277.toInt64) = 0) → PL_law_23 xs L n kc v sl b r tx y274 o x w279 hs ou275 (x4 + 3)) ∧ ((¬ (lg_cmp (ou275 0) r277.toInt64) = 0) → False))) ∧ ((¬ r280 = r272) → False))))) : GG p l e room_1 s m args below meth c D A s.heap 9 Q (fl [wC ct g kc, wS ct (g 1) v, wS ct (g 2) (sl 0), wS ct (g 3) (sl 1), wV ct g b, wS ct (g 5) (r 0), wS ct (g 6) (r 1), wS ct (g 7) (r 2), wS ct (g 8) (r 3), wS ct (g 9) (r 4), wS ct (g 10) (r 5), wT ct (g 11) tx, wL ct (g 12) y, wO ct (g 13) o, wR ct (g 14) x, wM ct am w hs, wQ ct qa ou]) (117 + (513 - (n + 1))) (2344 + 6 * (513 - (n + 1))) [(0, .ref sb), (1, .ref (g 0 0)), (2, .ref (am 0)), (3, .ref (qa 0)), (4, .int x4)] 1058 [] := by
  refine g_aload_n X 1 dL_law_1058 rfl rfl ?_
  refine g_aload_n X 0 dL_law_1059 rfl rfl ?_
  refine g_iload X 4 dL_law_1060 rfl ?_
  refine g_iconst (v := 1) X rfl dL_law_1062 ?_
  refine g_iadd X dL_law_1063 ?_
  obtain ⟨h271, hw⟩ := hw
  refine g_sld X hX hbl hbA h271 dL_law_1064 ?_
  refine g_aload_n X 3 dL_law_1065 rfl rfl ?_
  refine g_chS X XX [wC ct g kc, wS ct (g 1) v, wS ct (g 2) (sl 0), wS ct (g 3) (sl 1), wV ct g b, wS ct (g 5) (r 0), wS ct (g 6) (r 1), wS ct (g 7) (r 2), wS ct (g 8) (r 3), wS ct (g 9) (r 4), wS ct (g 10) (r 5), wT ct (g 11) tx, wL ct (g 12) y, wO ct (g 13) o, wR ct (g 14) x, wM ct am w hs, wQ ct qa ou] (fun (u273 : Mem × (Nat → Int64)) => [wC ct g kc, wS ct (g 1) v, wS ct (g 2) (sl 0), wS ct (g 3) (sl 1), wV ct g b, wS ct (g 5) (r 0), wS ct (g 6) (r 1), wS ct (g 7) (r 2), wS ct (g 8) (r 3), wS ct (g 9) (r 4), wS ct (g 10) (r 5), wT ct (g 11) tx, wL ct (g 12) u273.1, wO ct (g 13) o, wR ct (g 14) x, wM ct am w hs, wQ ct qa u273.2]) (fun (u273 : Mem × (Nat → Int64)) => fl [wC ct g kc, wS ct (g 1) v, wS ct (g 2) (sl 0), wS ct (g 3) (sl 1), wV ct g b, wS ct (g 5) (r 0), wS ct (g 6) (r 1), wS ct (g 7) (r 2), wS ct (g 8) (r 3), wS ct (g 9) (r 4), wS ct (g 10) (r 5), wT ct (g 11) tx, wL ct (g 12) u273.1, wO ct (g 13) o, wR ct (g 14) x, wM ct am w hs, wQ ct qa u273.2]) 17 [0, 1, 4, 12, 16] [2, 3, 5, 6, 7, 8, 9, 10, 11, 13, 14, 15] (kL_count l hl9 D ct g qa kc v b y ou (xs (ix (x4 + 1))) _ hw) (vx_cwSW 3 X.1.2.2.2.2 gL_law_L_count rfl rfl rfl (by decide +kernel) ⟨Nat.le_of_ble_eq_true rfl, Nat.le_of_ble_eq_true rfl⟩) dL_law_1066 rfl rfl (Nat.le_of_ble_eq_true rfl) ⟨by show _ ≤ 601024; omega, by show _ ≤ 7293034; omega⟩ rfl rfl rfl (by decide) (fun _ => rfl) (fun _ => lq_0_1_4_12_16) (fun _ => rfl) (fun _ => rfl) (fun r272 u273 hw => ?_)
  obtain ⟨y274, hy274⟩ : ∃ z : Mem, z = u273.1 := ⟨_, rfl⟩
  rw [← hy274] at hw
  rw [← hy274]
  obtain ⟨ou275, hou275⟩ : ∃ z : Nat → Int64, z = u273.2 := ⟨_, rfl⟩
  rw [← hou275] at hw
  rw [← hou275]
  refine g_istore X [(5, .int r272), (0, .ref sb), (1, .ref (g 0 0)), (2, .ref (am 0)), (3, .ref (qa 0)), (4, .int x4)] dL_law_1069 (by decide) rfl ?_
  refine g_aload_n X 3 dL_law_1071 rfl rfl ?_
  refine g_aload_n X 1 dL_law_1072 rfl rfl ?_
  refine g_iload X 5 dL_law_1073 rfl ?_
  refine g_iconst (v := 1) X rfl dL_law_1075 ?_
  refine g_iadd X dL_law_1076 ?_
  obtain ⟨h276, hw⟩ := hw
  refine g_sld X hX hbl hbA h276 dL_law_1077 ?_
  refine g_ciV X [wC ct g kc, wS ct (g 1) v, wS ct (g 2) (sl 0), wS ct (g 3) (sl 1), wV ct g b, wS ct (g 5) (r 0), wS ct (g 6) (r 1), wS ct (g 7) (r 2), wS ct (g 8) (r 3), wS ct (g 9) (r 4), wS ct (g 10) (r 5), wT ct (g 11) tx, wL ct (g 12) y274, wO ct (g 13) o, wR ct (g 14) x, wM ct am w hs, wQ ct qa ou275] (fun (u278 : Mem) => [wC ct g kc, wS ct (g 1) v, wS ct (g 2) (sl 0), wS ct (g 3) (sl 1), wV ct g b, wS ct (g 5) (r 0), wS ct (g 6) (r 1), wS ct (g 7) (r 2), wS ct (g 8) (r 3), wS ct (g 9) (r 4), wS ct (g 10) (r 5), wT ct (g 11) tx, wL ct (g 12) y274, wO ct (g 13) o, wR ct (g 14) x, wM ct am u278 hs, wQ ct qa ou275]) (fun (u278 : Mem) => fl [wC ct g kc, wS ct (g 1) v, wS ct (g 2) (sl 0), wS ct (g 3) (sl 1), wV ct g b, wS ct (g 5) (r 0), wS ct (g 6) (r 1), wS ct (g 7) (r 2), wS ct (g 8) (r 3), wS ct (g 9) (r 4), wS ct (g 10) (r 5), wT ct (g 11) tx, wL ct (g 12) y274, wO ct (g 13) o, wR ct (g 14) x, wM ct am u278 hs, wQ ct qa ou275]) 17 [15] [0, 1, 2, 3, 4, 5, 6, 7, 8, 9, 10, 11, 12, 13, 14, 16] 0 (kX8_count l D ct am w hs (xs (ix (x4 + 1))) _ hw) (cwV 1 X.1.2.2.2.2 gL_law_X8_count rfl rfl rfl (by decide +kernel) ⟨Nat.le_of_ble_eq_true rfl, Nat.le_of_ble_eq_true rfl⟩) dL_law_1078 rfl rfl (Nat.le_of_ble_eq_true rfl) ⟨by show _ ≤ 601024; omega, by show _ ≤ 7293034; omega⟩ rfl rfl rfl (by decide) (fun _ => rfl) (fun _ => lq_15) (fun _ => rfl) (fun _ => rfl) rfl rfl rfl (fun r277 u278 hw => ?_)
  obtain ⟨w279, hw279⟩ : ∃ z : Mem, z = u278 := ⟨_, rfl⟩
  rw [← hw279] at hw
  rw [← hw279]
  refine g_istore X [(6, .int r277), (5, .int r272), (0, .ref sb), (1, .ref (g 0 0)), (2, .ref (am 0)), (3, .ref (qa 0)), (4, .int x4)] dL_law_1081 (by decide) rfl ?_
  refine g_aload_n X 4 dL_law_1083 rfl rfl ?_
  refine g_ciV X [wC ct g kc, wS ct (g 1) v, wS ct (g 2) (sl 0), wS ct (g 3) (sl 1), wV ct g b, wS ct (g 5) (r 0), wS ct (g 6) (r 1), wS ct (g 7) (r 2), wS ct (g 8) (r 3), wS ct (g 9) (r 4), wS ct (g 10) (r 5), wT ct (g 11) tx, wL ct (g 12) y274, wO ct (g 13) o, wR ct (g 14) x, wM ct am w279 hs, wQ ct qa ou275] (fun (_ : Unit) => [wC ct g kc, wS ct (g 1) v, wS ct (g 2) (sl 0), wS ct (g 3) (sl 1), wV ct g b, wS ct (g 5) (r 0), wS ct (g 6) (r 1), wS ct (g 7) (r 2), wS ct (g 8) (r 3), wS ct (g 9) (r 4), wS ct (g 10) (r 5), wT ct (g 11) tx, wL ct (g 12) y274, wO ct (g 13) o, wR ct (g 14) x, wM ct am w279 hs, wQ ct qa ou275]) (fun _ => fl [wC ct g kc, wS ct (g 1) v, wS ct (g 2) (sl 0), wS ct (g 3) (sl 1), wV ct g b, wS ct (g 5) (r 0), wS ct (g 6) (r 1), wS ct (g 7) (r 2), wS ct (g 8) (r 3), wS ct (g 9) (r 4), wS ct (g 10) (r 5), wT ct (g 11) tx, wL ct (g 12) y274, wO ct (g 13) o, wR ct (g 14) x, wM ct am w279 hs, wQ ct qa ou275]) 17 [15] [0, 1, 2, 3, 4, 5, 6, 7, 8, 9, 10, 11, 12, 13, 14, 16] 0 (kX8_thrown l D ct am w279 hs _ hw) (cwV 0 X.1.2.2.2.2 gL_law_X8_thrown rfl rfl rfl (by decide +kernel) ⟨Nat.le_of_ble_eq_true rfl, Nat.le_of_ble_eq_true rfl⟩) dL_law_1084 rfl rfl (Nat.le_of_ble_eq_true rfl) ⟨by show _ ≤ 601024; omega, by show _ ≤ 7293034; omega⟩ rfl rfl rfl (by decide) (fun _ => rfl) (fun _ => lq_15) (fun _ => rfl) (fun _ => rfl) rfl rfl rfl (fun r280 _ hw => ?_)
  refine g_iload X 1 dL_law_1087 rfl ?_
  refine g_icmp_eq X 1094 dL_law_1089 (by decide) (fun c282 => ?_) (fun c282 => ?_)
  · replace hw := hw.1 c282
    refine g_iload X 1 dL_law_1094 rfl ?_
    refine g_if_ne X 1111 dL_law_1096 (by decide) (fun c283 => ?_) (fun c283 => ?_)
    · replace hw := hw.1 c283
      refine g_goto X 1318 dL_law_1111 (by decide) ?_
      refine g_iinc X [(4, .int (x4 + 3)), (6, .int r277), (5, .int r272), (0, .ref sb), (1, .ref (g 0 0)), (2, .ref (am 0)), (3, .ref (qa 0))] 6 dL_law_1318 rfl rfl (by decide) rfl ?_
      refine g_goto X 23 dL_law_1321 (by decide) ?_
      refine g_sub [(0, .ref sb), (1, .ref (g 0 0)), (2, .ref (am 0)), (3, .ref (qa 0)), (4, .int (x4 + 3))] [3, 4, 5, 6, 0] rfl ?_
      refine g_wide (k2 := 117 + (513 - n)) (j2 := 2344 + 6 * (513 - n)) (by omega) (by omega) ?_
      exact ih (by omega) _ _ _ _ _ _ _ _ _ _ _ _ _ hw
    · replace hw := hw.2 c283
      refine g_aload_n X 5 dL_law_1099 rfl rfl ?_
      refine g_iconst (v := 0) X rfl dL_law_1100 ?_
      refine g_lald X 116 4 dL_law_1101 rfl rfl (vp_in_nI (n := 0) (by decide) (by decide)) ?_
      refine g_iload X 0 dL_law_1102 rfl ?_
      refine g_i2l X dL_law_1104 ?_
      refine g_lcmp X dL_law_1105 ?_
      refine g_if_eq X 1111 dL_law_1106 (by decide) (fun c284 => ?_) (fun c284 => ?_)
      · replace hw := hw.1 c284
        refine g_goto X 1318 dL_law_1111 (by decide) ?_
        refine g_iinc X [(4, .int (x4 + 3)), (6, .int r277), (5, .int r272), (0, .ref sb), (1, .ref (g 0 0)), (2, .ref (am 0)), (3, .ref (qa 0))] 6 dL_law_1318 rfl rfl (by decide) rfl ?_
        refine g_goto X 23 dL_law_1321 (by decide) ?_
        refine g_sub [(0, .ref sb), (1, .ref (g 0 0)), (2, .ref (am 0)), (3, .ref (qa 0)), (4, .int (x4 + 3))] [3, 4, 5, 6, 0] rfl ?_
        refine g_wide (k2 := 117 + (513 - n)) (j2 := 2344 + 6 * (513 - n)) (by omega) (by omega) ?_
        exact ih (by omega) _ _ _ _ _ _ _ _ _ _ _ _ _ hw
      · replace hw := hw.2 c284
        refine g_iconst (v := 0) X rfl dL_law_1109 ?_
        exact hw.elim
  · replace hw := hw.2 c282
    refine g_iconst (v := 0) X rfl dL_law_1092 ?_
    exact hw.elim
set_option maxHeartbeats 20000000 in
set_option maxRecDepth 20000 in
theorem kL_arm_18 {p : Program} {l : Launch} {e : Env} {s : State} {m : MethodId} {args : Array Value} {below : List Frame} {meth : Method} {c : Code} {D : va_G} {ct : Nat → ClassId} {A : Nat → Prop} {Q : State → Prop} {sb L : Nat} {xs : Nat → Int32} {g : Nat → Nat → Nat} {am qa : Nat → Nat} (hl9 : l.stackTraces = false) (X : Cx p s m args meth c cL_law 9 RL wsL_law D (tyz ct) A s.heap ret) (XX : XL A s) (hX : va_X sb L xs s s.heap) (hbl : sb < s.heap.size) (hbA : ¬ A sb) (hend : ∀ (k j : Nat) (w : va_W) (lv : List (Nat × Value)), k ≤ 601024 → j ≤ 7293034 → GG p l e room_1 s m args below meth c D A s.heap 9 Q (w) (k) (j) lv 1325 [.int 1])  {n : Nat} (ih : n ≤ 513 → ∀ (kc : Mem) (v : Mem) (sl : Nat → Mem) (b : Mem) (r : Nat → Mem) (tx : Mem) (y : Mem) (o : Mem) (x : Mem) (w : Mem) (hs : Int64) (ou : Nat → Int64) (x4 : Int32), PL_law_23 xs L n kc v sl b r tx y o x w hs ou x4 → GG p l e room_1 s m args below meth c D A s.heap 9 Q (fl [wC ct g kc, wS ct (g 1) v, wS ct (g 2) (sl 0), wS ct (g 3) (sl 1), wV ct g b, wS ct (g 5) (r 0), wS ct (g 6) (r 1), wS ct (g 7) (r 2), wS ct (g 8) (r 3), wS ct (g 9) (r 4), wS ct (g 10) (r 5), wT ct (g 11) tx, wL ct (g 12) y, wO ct (g 13) o, wR ct (g 14) x, wM ct am w hs, wQ ct qa ou]) (117 + (513 - n)) (2344 + 6 * (513 - n)) [(0, .ref sb), (1, .ref (g 0 0)), (2, .ref (am 0)), (3, .ref (qa 0)), (4, .int x4)] 23 []) (hn9 : n + 1 ≤ 513) (kc : Mem) (v : Mem) (sl : Nat → Mem) (b : Mem) (r : Nat → Mem) (tx : Mem) (y : Mem) (o : Mem) (x : Mem) (w : Mem) (hs : Int64) (ou : Nat → Int64) (x4 : Int32) (c285 : ((xs (ix x4)) &&& 31) = 18) (hw : vp_in (x4 + 1) L ∧ vp_in (x4 + 2) L ∧ PL_least kc v x ou (xs (ix (x4 + 1))) (xs (ix (x4 + 2))) (fun r288 x290 ou291 => vp_in (x4 + 1) L ∧ vp_in (x4 + 2) L ∧ PX8_least w hs (xs (ix (x4 + 1))) (xs (ix (x4 + 2))) (fun r294 w296 => PX8_thrown w296 hs (fun r297 => ((r297 = r288) → ((¬ r288 = 0) → PL_law_23 xs L n kc v sl b r tx y o x290 w296 hs ou291 (x4 + 3)) ∧ ((r288 = 0) → (((lg_cmp (ou291 0) r294.toInt64) = 0) → PL_law_23 xs L n kc v sl b r tx y o x290 w296 hs ou291 (x4 + 3)) ∧ ((¬ (lg_cmp (ou291 0) r294.toInt64) = 0) → False))) ∧ ((¬ r297 = r288) → False))))) : GG p l e room_1 s m args below meth c D A s.heap 9 Q (fl [wC ct g kc, wS ct (g 1) v, wS ct (g 2) (sl 0), wS ct (g 3) (sl 1), wV ct g b, wS ct (g 5) (r 0), wS ct (g 6) (r 1), wS ct (g 7) (r 2), wS ct (g 8) (r 3), wS ct (g 9) (r 4), wS ct (g 10) (r 5), wT ct (g 11) tx, wL ct (g 12) y, wO ct (g 13) o, wR ct (g 14) x, wM ct am w hs, wQ ct qa ou]) (117 + (513 - (n + 1))) (2344 + 6 * (513 - (n + 1))) [(0, .ref sb), (1, .ref (g 0 0)), (2, .ref (am 0)), (3, .ref (qa 0)), (4, .int x4)] 1114 [] := by
  refine g_aload_n X 1 dL_law_1114 rfl rfl ?_
  refine g_aload_n X 0 dL_law_1115 rfl rfl ?_
  refine g_iload X 4 dL_law_1116 rfl ?_
  refine g_iconst (v := 1) X rfl dL_law_1118 ?_
  refine g_iadd X dL_law_1119 ?_
  obtain ⟨h286, hw⟩ := hw
  refine g_sld X hX hbl hbA h286 dL_law_1120 ?_
  refine g_aload_n X 0 dL_law_1121 rfl rfl ?_
  refine g_iload X 4 dL_law_1122 rfl ?_
  refine g_iconst (v := 2) X rfl dL_law_1124 ?_
  refine g_iadd X dL_law_1125 ?_
  obtain ⟨h287, hw⟩ := hw
  refine g_sld X hX hbl hbA h287 dL_law_1126 ?_
  refine g_aload_n X 3 dL_law_1127 rfl rfl ?_
  refine g_chS X XX [wC ct g kc, wS ct (g 1) v, wS ct (g 2) (sl 0), wS ct (g 3) (sl 1), wV ct g b, wS ct (g 5) (r 0), wS ct (g 6) (r 1), wS ct (g 7) (r 2), wS ct (g 8) (r 3), wS ct (g 9) (r 4), wS ct (g 10) (r 5), wT ct (g 11) tx, wL ct (g 12) y, wO ct (g 13) o, wR ct (g 14) x, wM ct am w hs, wQ ct qa ou] (fun (u289 : Mem × (Nat → Int64)) => [wC ct g kc, wS ct (g 1) v, wS ct (g 2) (sl 0), wS ct (g 3) (sl 1), wV ct g b, wS ct (g 5) (r 0), wS ct (g 6) (r 1), wS ct (g 7) (r 2), wS ct (g 8) (r 3), wS ct (g 9) (r 4), wS ct (g 10) (r 5), wT ct (g 11) tx, wL ct (g 12) y, wO ct (g 13) o, wR ct (g 14) u289.1, wM ct am w hs, wQ ct qa u289.2]) (fun (u289 : Mem × (Nat → Int64)) => fl [wC ct g kc, wS ct (g 1) v, wS ct (g 2) (sl 0), wS ct (g 3) (sl 1), wV ct g b, wS ct (g 5) (r 0), wS ct (g 6) (r 1), wS ct (g 7) (r 2), wS ct (g 8) (r 3), wS ct (g 9) (r 4), wS ct (g 10) (r 5), wT ct (g 11) tx, wL ct (g 12) y, wO ct (g 13) o, wR ct (g 14) u289.1, wM ct am w hs, wQ ct qa u289.2]) 17 [0, 1, 14, 16] [2, 3, 4, 5, 6, 7, 8, 9, 10, 11, 12, 13, 15] (kL_least l hl9 D ct g qa kc v x ou (xs (ix (x4 + 1))) (xs (ix (x4 + 2))) _ hw) (vx_cwSW 4 X.1.2.2.2.2 gL_law_L_least rfl rfl rfl (by decide +kernel) ⟨Nat.le_of_ble_eq_true rfl, Nat.le_of_ble_eq_true rfl⟩) dL_law_1128 rfl rfl (Nat.le_of_ble_eq_true rfl) ⟨by show _ ≤ 601024; omega, by show _ ≤ 7293034; omega⟩ rfl rfl rfl (by decide) (fun _ => rfl) (fun _ => lq_0_1_14_16) (fun _ => rfl) (fun _ => rfl) (fun r288 u289 hw => ?_)
  obtain ⟨x290, hx290⟩ : ∃ z : Mem, z = u289.1 := ⟨_, rfl⟩
  rw [← hx290] at hw
  rw [← hx290]
  obtain ⟨ou291, hou291⟩ : ∃ z : Nat → Int64, z = u289.2 := ⟨_, rfl⟩
  rw [← hou291] at hw
  rw [← hou291]
  refine g_istore X [(5, .int r288), (0, .ref sb), (1, .ref (g 0 0)), (2, .ref (am 0)), (3, .ref (qa 0)), (4, .int x4)] dL_law_1131 (by decide) rfl ?_
  refine g_aload_n X 3 dL_law_1133 rfl rfl ?_
  refine g_aload_n X 1 dL_law_1134 rfl rfl ?_
  refine g_iload X 5 dL_law_1135 rfl ?_
  refine g_iconst (v := 1) X rfl dL_law_1137 ?_
  refine g_iadd X dL_law_1138 ?_
  obtain ⟨h292, hw⟩ := hw
  refine g_sld X hX hbl hbA h292 dL_law_1139 ?_
  refine g_aload_n X 1 dL_law_1140 rfl rfl ?_
  refine g_iload X 5 dL_law_1141 rfl ?_
  refine g_iconst (v := 2) X rfl dL_law_1143 ?_
  refine g_iadd X dL_law_1144 ?_
  obtain ⟨h293, hw⟩ := hw
  refine g_sld X hX hbl hbA h293 dL_law_1145 ?_
  refine g_ciV X [wC ct g kc, wS ct (g 1) v, wS ct (g 2) (sl 0), wS ct (g 3) (sl 1), wV ct g b, wS ct (g 5) (r 0), wS ct (g 6) (r 1), wS ct (g 7) (r 2), wS ct (g 8) (r 3), wS ct (g 9) (r 4), wS ct (g 10) (r 5), wT ct (g 11) tx, wL ct (g 12) y, wO ct (g 13) o, wR ct (g 14) x290, wM ct am w hs, wQ ct qa ou291] (fun (u295 : Mem) => [wC ct g kc, wS ct (g 1) v, wS ct (g 2) (sl 0), wS ct (g 3) (sl 1), wV ct g b, wS ct (g 5) (r 0), wS ct (g 6) (r 1), wS ct (g 7) (r 2), wS ct (g 8) (r 3), wS ct (g 9) (r 4), wS ct (g 10) (r 5), wT ct (g 11) tx, wL ct (g 12) y, wO ct (g 13) o, wR ct (g 14) x290, wM ct am u295 hs, wQ ct qa ou291]) (fun (u295 : Mem) => fl [wC ct g kc, wS ct (g 1) v, wS ct (g 2) (sl 0), wS ct (g 3) (sl 1), wV ct g b, wS ct (g 5) (r 0), wS ct (g 6) (r 1), wS ct (g 7) (r 2), wS ct (g 8) (r 3), wS ct (g 9) (r 4), wS ct (g 10) (r 5), wT ct (g 11) tx, wL ct (g 12) y, wO ct (g 13) o, wR ct (g 14) x290, wM ct am u295 hs, wQ ct qa ou291]) 17 [15] [0, 1, 2, 3, 4, 5, 6, 7, 8, 9, 10, 11, 12, 13, 14, 16] 0 (kX8_least l D ct am w hs (xs (ix (x4 + 1))) (xs (ix (x4 + 2))) _ hw) (cwV 2 X.1.2.2.2.2 gL_law_X8_least rfl rfl rfl (by decide +kernel) ⟨Nat.le_of_ble_eq_true rfl, Nat.le_of_ble_eq_true rfl⟩) dL_law_1146 rfl rfl (Nat.le_of_ble_eq_true rfl) ⟨by show _ ≤ 601024; omega, by show _ ≤ 7293034; omega⟩ rfl rfl rfl (by decide) (fun _ => rfl) (fun _ => lq_15) (fun _ => rfl) (fun _ => rfl) rfl rfl rfl (fun r294 u295 hw => ?_)
  obtain ⟨w296, hw296⟩ : ∃ z : Mem, z = u295 := ⟨_, rfl⟩
  rw [← hw296] at hw
  rw [← hw296]
  refine g_istore X [(6, .int r294), (5, .int r288), (0, .ref sb), (1, .ref (g 0 0)), (2, .ref (am 0)), (3, .ref (qa 0)), (4, .int x4)] dL_law_1149 (by decide) rfl ?_
  refine g_aload_n X 4 dL_law_1151 rfl rfl ?_
  refine g_ciV X [wC ct g kc, wS ct (g 1) v, wS ct (g 2) (sl 0), wS ct (g 3) (sl 1), wV ct g b, wS ct (g 5) (r 0), wS ct (g 6) (r 1), wS ct (g 7) (r 2), wS ct (g 8) (r 3), wS ct (g 9) (r 4), wS ct (g 10) (r 5), wT ct (g 11) tx, wL ct (g 12) y, wO ct (g 13) o, wR ct (g 14) x290, wM ct am w296 hs, wQ ct qa ou291] (fun (_ : Unit) => [wC ct g kc, wS ct (g 1) v, wS ct (g 2) (sl 0), wS ct (g 3) (sl 1), wV ct g b, wS ct (g 5) (r 0), wS ct (g 6) (r 1), wS ct (g 7) (r 2), wS ct (g 8) (r 3), wS ct (g 9) (r 4), wS ct (g 10) (r 5), wT ct (g 11) tx, wL ct (g 12) y, wO ct (g 13) o, wR ct (g 14) x290, wM ct am w296 hs, wQ ct qa ou291]) (fun _ => fl [wC ct g kc, wS ct (g 1) v, wS ct (g 2) (sl 0), wS ct (g 3) (sl 1), wV ct g b, wS ct (g 5) (r 0), wS ct (g 6) (r 1), wS ct (g 7) (r 2), wS ct (g 8) (r 3), wS ct (g 9) (r 4), wS ct (g 10) (r 5), wT ct (g 11) tx, wL ct (g 12) y, wO ct (g 13) o, wR ct (g 14) x290, wM ct am w296 hs, wQ ct qa ou291]) 17 [15] [0, 1, 2, 3, 4, 5, 6, 7, 8, 9, 10, 11, 12, 13, 14, 16] 0 (kX8_thrown l D ct am w296 hs _ hw) (cwV 0 X.1.2.2.2.2 gL_law_X8_thrown rfl rfl rfl (by decide +kernel) ⟨Nat.le_of_ble_eq_true rfl, Nat.le_of_ble_eq_true rfl⟩) dL_law_1152 rfl rfl (Nat.le_of_ble_eq_true rfl) ⟨by show _ ≤ 601024; omega, by show _ ≤ 7293034; omega⟩ rfl rfl rfl (by decide) (fun _ => rfl) (fun _ => lq_15) (fun _ => rfl) (fun _ => rfl) rfl rfl rfl (fun r297 _ hw => ?_)
  refine g_iload X 1 dL_law_1155 rfl ?_
  refine g_icmp_eq X 1162 dL_law_1157 (by decide) (fun c299 => ?_) (fun c299 => ?_)
  · replace hw := hw.1 c299
    refine g_iload X 1 dL_law_1162 rfl ?_
    refine g_if_ne X 1179 dL_law_1164 (by decide) (fun c300 => ?_) (fun c300 => ?_)
    · replace hw := hw.1 c300
      refine g_goto X 1318 dL_law_1179 (by decide) ?_
      refine g_iinc X [(4, .int (x4 + 3)), (6, .int r294), (5, .int r288), (0, .ref sb), (1, .ref (g 0 0)), (2, .ref (am 0)), (3, .ref (qa 0))] 6 dL_law_1318 rfl rfl (by decide) rfl ?_
      refine g_goto X 23 dL_law_1321 (by decide) ?_
      refine g_sub [(0, .ref sb), (1, .ref (g 0 0)), (2, .ref (am 0)), (3, .ref (qa 0)), (4, .int (x4 + 3))] [3, 4, 5, 6, 0] rfl ?_
      refine g_wide (k2 := 117 + (513 - n)) (j2 := 2344 + 6 * (513 - n)) (by omega) (by omega) ?_
      exact ih (by omega) _ _ _ _ _ _ _ _ _ _ _ _ _ hw
    · replace hw := hw.2 c300
      refine g_aload_n X 5 dL_law_1167 rfl rfl ?_
      refine g_iconst (v := 0) X rfl dL_law_1168 ?_
      refine g_lald X 116 4 dL_law_1169 rfl rfl (vp_in_nI (n := 0) (by decide) (by decide)) ?_
      refine g_iload X 0 dL_law_1170 rfl ?_
      refine g_i2l X dL_law_1172 ?_
      refine g_lcmp X dL_law_1173 ?_
      refine g_if_eq X 1179 dL_law_1174 (by decide) (fun c301 => ?_) (fun c301 => ?_)
      · replace hw := hw.1 c301
        refine g_goto X 1318 dL_law_1179 (by decide) ?_
        refine g_iinc X [(4, .int (x4 + 3)), (6, .int r294), (5, .int r288), (0, .ref sb), (1, .ref (g 0 0)), (2, .ref (am 0)), (3, .ref (qa 0))] 6 dL_law_1318 rfl rfl (by decide) rfl ?_
        refine g_goto X 23 dL_law_1321 (by decide) ?_
        refine g_sub [(0, .ref sb), (1, .ref (g 0 0)), (2, .ref (am 0)), (3, .ref (qa 0)), (4, .int (x4 + 3))] [3, 4, 5, 6, 0] rfl ?_
        refine g_wide (k2 := 117 + (513 - n)) (j2 := 2344 + 6 * (513 - n)) (by omega) (by omega) ?_
        exact ih (by omega) _ _ _ _ _ _ _ _ _ _ _ _ _ hw
      · replace hw := hw.2 c301
        refine g_iconst (v := 0) X rfl dL_law_1177 ?_
        exact hw.elim
  · replace hw := hw.2 c299
    refine g_iconst (v := 0) X rfl dL_law_1160 ?_
    exact hw.elim
set_option maxHeartbeats 20000000 in
set_option maxRecDepth 20000 in
theorem kL_arm_19 {p : Program} {l : Launch} {e : Env} {s : State} {m : MethodId} {args : Array Value} {below : List Frame} {meth : Method} {c : Code} {D : va_G} {ct : Nat → ClassId} {A : Nat → Prop} {Q : State → Prop} {sb L : Nat} {xs : Nat → Int32} {g : Nat → Nat → Nat} {am qa : Nat → Nat} (hl9 : l.stackTraces = false) (X : Cx p s m args meth c cL_law 9 RL wsL_law D (tyz ct) A s.heap ret) (XX : XL A s) (hX : va_X sb L xs s s.heap) (hbl : sb < s.heap.size) (hbA : ¬ A sb) (hend : ∀ (k j : Nat) (w : va_W) (lv : List (Nat × Value)), k ≤ 601024 → j ≤ 7293034 → GG p l e room_1 s m args below meth c D A s.heap 9 Q (w) (k) (j) lv 1325 [.int 1])  {n : Nat} (ih : n ≤ 513 → ∀ (kc : Mem) (v : Mem) (sl : Nat → Mem) (b : Mem) (r : Nat → Mem) (tx : Mem) (y : Mem) (o : Mem) (x : Mem) (w : Mem) (hs : Int64) (ou : Nat → Int64) (x4 : Int32), PL_law_23 xs L n kc v sl b r tx y o x w hs ou x4 → GG p l e room_1 s m args below meth c D A s.heap 9 Q (fl [wC ct g kc, wS ct (g 1) v, wS ct (g 2) (sl 0), wS ct (g 3) (sl 1), wV ct g b, wS ct (g 5) (r 0), wS ct (g 6) (r 1), wS ct (g 7) (r 2), wS ct (g 8) (r 3), wS ct (g 9) (r 4), wS ct (g 10) (r 5), wT ct (g 11) tx, wL ct (g 12) y, wO ct (g 13) o, wR ct (g 14) x, wM ct am w hs, wQ ct qa ou]) (117 + (513 - n)) (2344 + 6 * (513 - n)) [(0, .ref sb), (1, .ref (g 0 0)), (2, .ref (am 0)), (3, .ref (qa 0)), (4, .int x4)] 23 []) (hn9 : n + 1 ≤ 513) (kc : Mem) (v : Mem) (sl : Nat → Mem) (b : Mem) (r : Nat → Mem) (tx : Mem) (y : Mem) (o : Mem) (x : Mem) (w : Mem) (hs : Int64) (ou : Nat → Int64) (x4 : Int32) (c302 : ((xs (ix x4)) &&& 31) = 19) (hw : PX7_bestSwap kc v y (fun r303 v305 y306 => PX8_bestSwap w hs (fun r307 w309 => ((r303 = r307) → PL_law_23 xs L n kc v305 sl b r tx y306 o x w309 hs ou (x4 + 3)) ∧ ((¬ r303 = r307) → False)))) : GG p l e room_1 s m args below meth c D A s.heap 9 Q (fl [wC ct g kc, wS ct (g 1) v, wS ct (g 2) (sl 0), wS ct (g 3) (sl 1), wV ct g b, wS ct (g 5) (r 0), wS ct (g 6) (r 1), wS ct (g 7) (r 2), wS ct (g 8) (r 3), wS ct (g 9) (r 4), wS ct (g 10) (r 5), wT ct (g 11) tx, wL ct (g 12) y, wO ct (g 13) o, wR ct (g 14) x, wM ct am w hs, wQ ct qa ou]) (117 + (513 - (n + 1))) (2344 + 6 * (513 - (n + 1))) [(0, .ref sb), (1, .ref (g 0 0)), (2, .ref (am 0)), (3, .ref (qa 0)), (4, .int x4)] 1182 [] := by
  refine g_aload_n X 1 dL_law_1182 rfl rfl ?_
  refine g_ciV X [wC ct g kc, wS ct (g 1) v, wS ct (g 2) (sl 0), wS ct (g 3) (sl 1), wV ct g b, wS ct (g 5) (r 0), wS ct (g 6) (r 1), wS ct (g 7) (r 2), wS ct (g 8) (r 3), wS ct (g 9) (r 4), wS ct (g 10) (r 5), wT ct (g 11) tx, wL ct (g 12) y, wO ct (g 13) o, wR ct (g 14) x, wM ct am w hs, wQ ct qa ou] (fun (u304 : Mem × Mem) => [wC ct g kc, wS ct (g 1) u304.1, wS ct (g 2) (sl 0), wS ct (g 3) (sl 1), wV ct g b, wS ct (g 5) (r 0), wS ct (g 6) (r 1), wS ct (g 7) (r 2), wS ct (g 8) (r 3), wS ct (g 9) (r 4), wS ct (g 10) (r 5), wT ct (g 11) tx, wL ct (g 12) u304.2, wO ct (g 13) o, wR ct (g 14) x, wM ct am w hs, wQ ct qa ou]) (fun (u304 : Mem × Mem) => fl [wC ct g kc, wS ct (g 1) u304.1, wS ct (g 2) (sl 0), wS ct (g 3) (sl 1), wV ct g b, wS ct (g 5) (r 0), wS ct (g 6) (r 1), wS ct (g 7) (r 2), wS ct (g 8) (r 3), wS ct (g 9) (r 4), wS ct (g 10) (r 5), wT ct (g 11) tx, wL ct (g 12) u304.2, wO ct (g 13) o, wR ct (g 14) x, wM ct am w hs, wQ ct qa ou]) 17 [0, 1, 12] [2, 3, 4, 5, 6, 7, 8, 9, 10, 11, 13, 14, 15, 16] 0 (kX7_bestSwap l D ct g kc v y _ hw) (cwV 0 X.1.2.2.2.2 gL_law_X7_bestSwap rfl rfl rfl (by decide +kernel) ⟨Nat.le_of_ble_eq_true rfl, Nat.le_of_ble_eq_true rfl⟩) dL_law_1183 rfl rfl (Nat.le_of_ble_eq_true rfl) ⟨by show _ ≤ 601024; omega, by show _ ≤ 7293034; omega⟩ rfl rfl rfl (by decide) (fun _ => rfl) (fun _ => lq_0_1_12) (fun _ => rfl) (fun _ => rfl) rfl rfl rfl (fun r303 u304 hw => ?_)
  obtain ⟨v305, hv305⟩ : ∃ z : Mem, z = u304.1 := ⟨_, rfl⟩
  rw [← hv305] at hw
  rw [← hv305]
  obtain ⟨y306, hy306⟩ : ∃ z : Mem, z = u304.2 := ⟨_, rfl⟩
  rw [← hy306] at hw
  rw [← hy306]
  refine g_aload_n X 2 dL_law_1186 rfl rfl ?_
  refine g_ciV X [wC ct g kc, wS ct (g 1) v305, wS ct (g 2) (sl 0), wS ct (g 3) (sl 1), wV ct g b, wS ct (g 5) (r 0), wS ct (g 6) (r 1), wS ct (g 7) (r 2), wS ct (g 8) (r 3), wS ct (g 9) (r 4), wS ct (g 10) (r 5), wT ct (g 11) tx, wL ct (g 12) y306, wO ct (g 13) o, wR ct (g 14) x, wM ct am w hs, wQ ct qa ou] (fun (u308 : Mem) => [wC ct g kc, wS ct (g 1) v305, wS ct (g 2) (sl 0), wS ct (g 3) (sl 1), wV ct g b, wS ct (g 5) (r 0), wS ct (g 6) (r 1), wS ct (g 7) (r 2), wS ct (g 8) (r 3), wS ct (g 9) (r 4), wS ct (g 10) (r 5), wT ct (g 11) tx, wL ct (g 12) y306, wO ct (g 13) o, wR ct (g 14) x, wM ct am u308 hs, wQ ct qa ou]) (fun (u308 : Mem) => fl [wC ct g kc, wS ct (g 1) v305, wS ct (g 2) (sl 0), wS ct (g 3) (sl 1), wV ct g b, wS ct (g 5) (r 0), wS ct (g 6) (r 1), wS ct (g 7) (r 2), wS ct (g 8) (r 3), wS ct (g 9) (r 4), wS ct (g 10) (r 5), wT ct (g 11) tx, wL ct (g 12) y306, wO ct (g 13) o, wR ct (g 14) x, wM ct am u308 hs, wQ ct qa ou]) 17 [15] [0, 1, 2, 3, 4, 5, 6, 7, 8, 9, 10, 11, 12, 13, 14, 16] 0 (kX8_bestSwap l D ct am w hs _ hw) (cwV 0 X.1.2.2.2.2 gL_law_X8_bestSwap rfl rfl rfl (by decide +kernel) ⟨Nat.le_of_ble_eq_true rfl, Nat.le_of_ble_eq_true rfl⟩) dL_law_1187 rfl rfl (Nat.le_of_ble_eq_true rfl) ⟨by show _ ≤ 601024; omega, by show _ ≤ 7293034; omega⟩ rfl rfl rfl (by decide) (fun _ => rfl) (fun _ => lq_15) (fun _ => rfl) (fun _ => rfl) rfl rfl rfl (fun r307 u308 hw => ?_)
  obtain ⟨w309, hw309⟩ : ∃ z : Mem, z = u308 := ⟨_, rfl⟩
  rw [← hw309] at hw
  rw [← hw309]
  refine g_icmp_eq X 1318 dL_law_1190 (by decide) (fun c310 => ?_) (fun c310 => ?_)
  · replace hw := hw.1 c310
    refine g_iinc X [(4, .int (x4 + 3)), (0, .ref sb), (1, .ref (g 0 0)), (2, .ref (am 0)), (3, .ref (qa 0))] 4 dL_law_1318 rfl rfl (by decide) rfl ?_
    refine g_goto X 23 dL_law_1321 (by decide) ?_
    refine g_sub [(0, .ref sb), (1, .ref (g 0 0)), (2, .ref (am 0)), (3, .ref (qa 0)), (4, .int (x4 + 3))] [1, 2, 3, 4, 0] rfl ?_
    refine g_wide (k2 := 117 + (513 - n)) (j2 := 2344 + 6 * (513 - n)) (by omega) (by omega) ?_
    exact ih (by omega) _ _ _ _ _ _ _ _ _ _ _ _ _ hw
  · replace hw := hw.2 c310
    refine g_iconst (v := 0) X rfl dL_law_1193 ?_
    exact hw.elim
set_option maxHeartbeats 20000000 in
set_option maxRecDepth 20000 in
theorem kL_arm_20 {p : Program} {l : Launch} {e : Env} {s : State} {m : MethodId} {args : Array Value} {below : List Frame} {meth : Method} {c : Code} {D : va_G} {ct : Nat → ClassId} {A : Nat → Prop} {Q : State → Prop} {sb L : Nat} {xs : Nat → Int32} {g : Nat → Nat → Nat} {am qa : Nat → Nat} (hl9 : l.stackTraces = false) (X : Cx p s m args meth c cL_law 9 RL wsL_law D (tyz ct) A s.heap ret) (XX : XL A s) (hX : va_X sb L xs s s.heap) (hbl : sb < s.heap.size) (hbA : ¬ A sb) (hend : ∀ (k j : Nat) (w : va_W) (lv : List (Nat × Value)), k ≤ 601024 → j ≤ 7293034 → GG p l e room_1 s m args below meth c D A s.heap 9 Q (w) (k) (j) lv 1325 [.int 1])  {n : Nat} (ih : n ≤ 513 → ∀ (kc : Mem) (v : Mem) (sl : Nat → Mem) (b : Mem) (r : Nat → Mem) (tx : Mem) (y : Mem) (o : Mem) (x : Mem) (w : Mem) (hs : Int64) (ou : Nat → Int64) (x4 : Int32), PL_law_23 xs L n kc v sl b r tx y o x w hs ou x4 → GG p l e room_1 s m args below meth c D A s.heap 9 Q (fl [wC ct g kc, wS ct (g 1) v, wS ct (g 2) (sl 0), wS ct (g 3) (sl 1), wV ct g b, wS ct (g 5) (r 0), wS ct (g 6) (r 1), wS ct (g 7) (r 2), wS ct (g 8) (r 3), wS ct (g 9) (r 4), wS ct (g 10) (r 5), wT ct (g 11) tx, wL ct (g 12) y, wO ct (g 13) o, wR ct (g 14) x, wM ct am w hs, wQ ct qa ou]) (117 + (513 - n)) (2344 + 6 * (513 - n)) [(0, .ref sb), (1, .ref (g 0 0)), (2, .ref (am 0)), (3, .ref (qa 0)), (4, .int x4)] 23 []) (hn9 : n + 1 ≤ 513) (kc : Mem) (v : Mem) (sl : Nat → Mem) (b : Mem) (r : Nat → Mem) (tx : Mem) (y : Mem) (o : Mem) (x : Mem) (w : Mem) (hs : Int64) (ou : Nat → Int64) (x4 : Int32) (c311 : ((xs (ix x4)) &&& 31) = 20) (hw : vp_in (x4 + 1) L ∧ vp_in (x4 + 2) L ∧ PL_nearness kc v ou (xs (ix (x4 + 1))) (xs (ix (x4 + 2))) (fun r314 ou316 => vp_in (x4 + 1) L ∧ vp_in (x4 + 2) L ∧ PX8_nearness w hs (xs (ix (x4 + 1))) (xs (ix (x4 + 2))) (fun r319 w321 => PX8_thrown w321 hs (fun r322 => ((r322 = r314) → ((¬ r314 = 0) → PL_law_23 xs L n kc v sl b r tx y o x w321 hs ou316 (x4 + 3)) ∧ ((r314 = 0) → (((lg_cmp (ou316 0) r319.toInt64) = 0) → PL_law_23 xs L n kc v sl b r tx y o x w321 hs ou316 (x4 + 3)) ∧ ((¬ (lg_cmp (ou316 0) r319.toInt64) = 0) → False))) ∧ ((¬ r322 = r314) → False))))) : GG p l e room_1 s m args below meth c D A s.heap 9 Q (fl [wC ct g kc, wS ct (g 1) v, wS ct (g 2) (sl 0), wS ct (g 3) (sl 1), wV ct g b, wS ct (g 5) (r 0), wS ct (g 6) (r 1), wS ct (g 7) (r 2), wS ct (g 8) (r 3), wS ct (g 9) (r 4), wS ct (g 10) (r 5), wT ct (g 11) tx, wL ct (g 12) y, wO ct (g 13) o, wR ct (g 14) x, wM ct am w hs, wQ ct qa ou]) (117 + (513 - (n + 1))) (2344 + 6 * (513 - (n + 1))) [(0, .ref sb), (1, .ref (g 0 0)), (2, .ref (am 0)), (3, .ref (qa 0)), (4, .int x4)] 1195 [] := by
  refine g_aload_n X 1 dL_law_1195 rfl rfl ?_
  refine g_aload_n X 0 dL_law_1196 rfl rfl ?_
  refine g_iload X 4 dL_law_1197 rfl ?_
  refine g_iconst (v := 1) X rfl dL_law_1199 ?_
  refine g_iadd X dL_law_1200 ?_
  obtain ⟨h312, hw⟩ := hw
  refine g_sld X hX hbl hbA h312 dL_law_1201 ?_
  refine g_aload_n X 0 dL_law_1202 rfl rfl ?_
  refine g_iload X 4 dL_law_1203 rfl ?_
  refine g_iconst (v := 2) X rfl dL_law_1205 ?_
  refine g_iadd X dL_law_1206 ?_
  obtain ⟨h313, hw⟩ := hw
  refine g_sld X hX hbl hbA h313 dL_law_1207 ?_
  refine g_aload_n X 3 dL_law_1208 rfl rfl ?_
  refine g_chS X XX [wC ct g kc, wS ct (g 1) v, wS ct (g 2) (sl 0), wS ct (g 3) (sl 1), wV ct g b, wS ct (g 5) (r 0), wS ct (g 6) (r 1), wS ct (g 7) (r 2), wS ct (g 8) (r 3), wS ct (g 9) (r 4), wS ct (g 10) (r 5), wT ct (g 11) tx, wL ct (g 12) y, wO ct (g 13) o, wR ct (g 14) x, wM ct am w hs, wQ ct qa ou] (fun (u315 : (Nat → Int64)) => [wC ct g kc, wS ct (g 1) v, wS ct (g 2) (sl 0), wS ct (g 3) (sl 1), wV ct g b, wS ct (g 5) (r 0), wS ct (g 6) (r 1), wS ct (g 7) (r 2), wS ct (g 8) (r 3), wS ct (g 9) (r 4), wS ct (g 10) (r 5), wT ct (g 11) tx, wL ct (g 12) y, wO ct (g 13) o, wR ct (g 14) x, wM ct am w hs, wQ ct qa u315]) (fun (u315 : (Nat → Int64)) => fl [wC ct g kc, wS ct (g 1) v, wS ct (g 2) (sl 0), wS ct (g 3) (sl 1), wV ct g b, wS ct (g 5) (r 0), wS ct (g 6) (r 1), wS ct (g 7) (r 2), wS ct (g 8) (r 3), wS ct (g 9) (r 4), wS ct (g 10) (r 5), wT ct (g 11) tx, wL ct (g 12) y, wO ct (g 13) o, wR ct (g 14) x, wM ct am w hs, wQ ct qa u315]) 17 [0, 1, 16] [2, 3, 4, 5, 6, 7, 8, 9, 10, 11, 12, 13, 14, 15] (kL_nearness l hl9 D ct g qa kc v ou (xs (ix (x4 + 1))) (xs (ix (x4 + 2))) _ hw) (vx_cwSW 4 X.1.2.2.2.2 gL_law_L_nearness rfl rfl rfl (by decide +kernel) ⟨Nat.le_of_ble_eq_true rfl, Nat.le_of_ble_eq_true rfl⟩) dL_law_1209 rfl rfl (Nat.le_of_ble_eq_true rfl) ⟨by show _ ≤ 601024; omega, by show _ ≤ 7293034; omega⟩ rfl rfl rfl (by decide) (fun _ => rfl) (fun _ => lq_0_1_16) (fun _ => rfl) (fun _ => rfl) (fun r314 u315 hw => ?_)
  obtain ⟨ou316, hou316⟩ : ∃ z : Nat → Int64, z = u315 := ⟨_, rfl⟩
  rw [← hou316] at hw
  rw [← hou316]
  refine g_istore X [(5, .int r314), (0, .ref sb), (1, .ref (g 0 0)), (2, .ref (am 0)), (3, .ref (qa 0)), (4, .int x4)] dL_law_1212 (by decide) rfl ?_
  refine g_aload_n X 3 dL_law_1214 rfl rfl ?_
  refine g_aload_n X 1 dL_law_1215 rfl rfl ?_
  refine g_iload X 5 dL_law_1216 rfl ?_
  refine g_iconst (v := 1) X rfl dL_law_1218 ?_
  refine g_iadd X dL_law_1219 ?_
  obtain ⟨h317, hw⟩ := hw
  refine g_sld X hX hbl hbA h317 dL_law_1220 ?_
  refine g_aload_n X 1 dL_law_1221 rfl rfl ?_
  refine g_iload X 5 dL_law_1222 rfl ?_
  refine g_iconst (v := 2) X rfl dL_law_1224 ?_
  refine g_iadd X dL_law_1225 ?_
  obtain ⟨h318, hw⟩ := hw
  refine g_sld X hX hbl hbA h318 dL_law_1226 ?_
  refine g_ciV X [wC ct g kc, wS ct (g 1) v, wS ct (g 2) (sl 0), wS ct (g 3) (sl 1), wV ct g b, wS ct (g 5) (r 0), wS ct (g 6) (r 1), wS ct (g 7) (r 2), wS ct (g 8) (r 3), wS ct (g 9) (r 4), wS ct (g 10) (r 5), wT ct (g 11) tx, wL ct (g 12) y, wO ct (g 13) o, wR ct (g 14) x, wM ct am w hs, wQ ct qa ou316] (fun (u320 : Mem) => [wC ct g kc, wS ct (g 1) v, wS ct (g 2) (sl 0), wS ct (g 3) (sl 1), wV ct g b, wS ct (g 5) (r 0), wS ct (g 6) (r 1), wS ct (g 7) (r 2), wS ct (g 8) (r 3), wS ct (g 9) (r 4), wS ct (g 10) (r 5), wT ct (g 11) tx, wL ct (g 12) y, wO ct (g 13) o, wR ct (g 14) x, wM ct am u320 hs, wQ ct qa ou316]) (fun (u320 : Mem) => fl [wC ct g kc, wS ct (g 1) v, wS ct (g 2) (sl 0), wS ct (g 3) (sl 1), wV ct g b, wS ct (g 5) (r 0), wS ct (g 6) (r 1), wS ct (g 7) (r 2), wS ct (g 8) (r 3), wS ct (g 9) (r 4), wS ct (g 10) (r 5), wT ct (g 11) tx, wL ct (g 12) y, wO ct (g 13) o, wR ct (g 14) x, wM ct am u320 hs, wQ ct qa ou316]) 17 [15] [0, 1, 2, 3, 4, 5, 6, 7, 8, 9, 10, 11, 12, 13, 14, 16] 0 (kX8_nearness l D ct am w hs (xs (ix (x4 + 1))) (xs (ix (x4 + 2))) _ hw) (cwV 2 X.1.2.2.2.2 gL_law_X8_nearness rfl rfl rfl (by decide +kernel) ⟨Nat.le_of_ble_eq_true rfl, Nat.le_of_ble_eq_true rfl⟩) dL_law_1227 rfl rfl (Nat.le_of_ble_eq_true rfl) ⟨by show _ ≤ 601024; omega, by show _ ≤ 7293034; omega⟩ rfl rfl rfl (by decide) (fun _ => rfl) (fun _ => lq_15) (fun _ => rfl) (fun _ => rfl) rfl rfl rfl (fun r319 u320 hw => ?_)
  obtain ⟨w321, hw321⟩ : ∃ z : Mem, z = u320 := ⟨_, rfl⟩
  rw [← hw321] at hw
  rw [← hw321]
  refine g_istore X [(6, .int r319), (5, .int r314), (0, .ref sb), (1, .ref (g 0 0)), (2, .ref (am 0)), (3, .ref (qa 0)), (4, .int x4)] dL_law_1230 (by decide) rfl ?_
  refine g_aload_n X 4 dL_law_1232 rfl rfl ?_
  refine g_ciV X [wC ct g kc, wS ct (g 1) v, wS ct (g 2) (sl 0), wS ct (g 3) (sl 1), wV ct g b, wS ct (g 5) (r 0), wS ct (g 6) (r 1), wS ct (g 7) (r 2), wS ct (g 8) (r 3), wS ct (g 9) (r 4), wS ct (g 10) (r 5), wT ct (g 11) tx, wL ct (g 12) y, wO ct (g 13) o, wR ct (g 14) x, wM ct am w321 hs, wQ ct qa ou316] (fun (_ : Unit) => [wC ct g kc, wS ct (g 1) v, wS ct (g 2) (sl 0), wS ct (g 3) (sl 1), wV ct g b, wS ct (g 5) (r 0), wS ct (g 6) (r 1), wS ct (g 7) (r 2), wS ct (g 8) (r 3), wS ct (g 9) (r 4), wS ct (g 10) (r 5), wT ct (g 11) tx, wL ct (g 12) y, wO ct (g 13) o, wR ct (g 14) x, wM ct am w321 hs, wQ ct qa ou316]) (fun _ => fl [wC ct g kc, wS ct (g 1) v, wS ct (g 2) (sl 0), wS ct (g 3) (sl 1), wV ct g b, wS ct (g 5) (r 0), wS ct (g 6) (r 1), wS ct (g 7) (r 2), wS ct (g 8) (r 3), wS ct (g 9) (r 4), wS ct (g 10) (r 5), wT ct (g 11) tx, wL ct (g 12) y, wO ct (g 13) o, wR ct (g 14) x, wM ct am w321 hs, wQ ct qa ou316]) 17 [15] [0, 1, 2, 3, 4, 5, 6, 7, 8, 9, 10, 11, 12, 13, 14, 16] 0 (kX8_thrown l D ct am w321 hs _ hw) (cwV 0 X.1.2.2.2.2 gL_law_X8_thrown rfl rfl rfl (by decide +kernel) ⟨Nat.le_of_ble_eq_true rfl, Nat.le_of_ble_eq_true rfl⟩) dL_law_1233 rfl rfl (Nat.le_of_ble_eq_true rfl) ⟨by show _ ≤ 601024; omega, by show _ ≤ 7293034; omega⟩ rfl rfl rfl (by decide) (fun _ => rfl) (fun _ => lq_15) (fun _ => rfl) (fun _ => rfl) rfl rfl rfl (fun r322 _ hw => ?_)
  refine g_iload X 1 dL_law_1236 rfl ?_
  refine g_icmp_eq X 1243 dL_law_1238 (by decide) (fun c324 => ?_) (fun c324 => ?_)
  · replace hw := hw.1 c324
    refine g_iload X 1 dL_law_1243 rfl ?_
    refine g_if_ne X 1260 dL_law_1245 (by decide) (fun c325 => ?_) (fun c325 => ?_)
    · replace hw := hw.1 c325
      refine g_goto X 1318 dL_law_1260 (by decide) ?_
      refine g_iinc X [(4, .int (x4 + 3)), (6, .int r319), (5, .int r314), (0, .ref sb), (1, .ref (g 0 0)), (2, .ref (am 0)), (3, .ref (qa 0))] 6 dL_law_1318 rfl rfl (by decide) rfl ?_
      refine g_goto X 23 dL_law_1321 (by decide) ?_
      refine g_sub [(0, .ref sb), (1, .ref (g 0 0)), (2, .ref (am 0)), (3, .ref (qa 0)), (4, .int (x4 + 3))] [3, 4, 5, 6, 0] rfl ?_
      refine g_wide (k2 := 117 + (513 - n)) (j2 := 2344 + 6 * (513 - n)) (by omega) (by omega) ?_
      exact ih (by omega) _ _ _ _ _ _ _ _ _ _ _ _ _ hw
    · replace hw := hw.2 c325
      refine g_aload_n X 5 dL_law_1248 rfl rfl ?_
      refine g_iconst (v := 0) X rfl dL_law_1249 ?_
      refine g_lald X 116 4 dL_law_1250 rfl rfl (vp_in_nI (n := 0) (by decide) (by decide)) ?_
      refine g_iload X 0 dL_law_1251 rfl ?_
      refine g_i2l X dL_law_1253 ?_
      refine g_lcmp X dL_law_1254 ?_
      refine g_if_eq X 1260 dL_law_1255 (by decide) (fun c326 => ?_) (fun c326 => ?_)
      · replace hw := hw.1 c326
        refine g_goto X 1318 dL_law_1260 (by decide) ?_
        refine g_iinc X [(4, .int (x4 + 3)), (6, .int r319), (5, .int r314), (0, .ref sb), (1, .ref (g 0 0)), (2, .ref (am 0)), (3, .ref (qa 0))] 6 dL_law_1318 rfl rfl (by decide) rfl ?_
        refine g_goto X 23 dL_law_1321 (by decide) ?_
        refine g_sub [(0, .ref sb), (1, .ref (g 0 0)), (2, .ref (am 0)), (3, .ref (qa 0)), (4, .int (x4 + 3))] [3, 4, 5, 6, 0] rfl ?_
        refine g_wide (k2 := 117 + (513 - n)) (j2 := 2344 + 6 * (513 - n)) (by omega) (by omega) ?_
        exact ih (by omega) _ _ _ _ _ _ _ _ _ _ _ _ _ hw
      · replace hw := hw.2 c326
        refine g_iconst (v := 0) X rfl dL_law_1258 ?_
        exact hw.elim
  · replace hw := hw.2 c324
    refine g_iconst (v := 0) X rfl dL_law_1241 ?_
    exact hw.elim
set_option maxHeartbeats 20000000 in
set_option maxRecDepth 20000 in
theorem kL_arm_21 {p : Program} {l : Launch} {e : Env} {s : State} {m : MethodId} {args : Array Value} {below : List Frame} {meth : Method} {c : Code} {D : va_G} {ct : Nat → ClassId} {A : Nat → Prop} {Q : State → Prop} {sb L : Nat} {xs : Nat → Int32} {g : Nat → Nat → Nat} {am qa : Nat → Nat} (hl9 : l.stackTraces = false) (X : Cx p s m args meth c cL_law 9 RL wsL_law D (tyz ct) A s.heap ret) (XX : XL A s) (hX : va_X sb L xs s s.heap) (hbl : sb < s.heap.size) (hbA : ¬ A sb) (hend : ∀ (k j : Nat) (w : va_W) (lv : List (Nat × Value)), k ≤ 601024 → j ≤ 7293034 → GG p l e room_1 s m args below meth c D A s.heap 9 Q (w) (k) (j) lv 1325 [.int 1])  {n : Nat} (ih : n ≤ 513 → ∀ (kc : Mem) (v : Mem) (sl : Nat → Mem) (b : Mem) (r : Nat → Mem) (tx : Mem) (y : Mem) (o : Mem) (x : Mem) (w : Mem) (hs : Int64) (ou : Nat → Int64) (x4 : Int32), PL_law_23 xs L n kc v sl b r tx y o x w hs ou x4 → GG p l e room_1 s m args below meth c D A s.heap 9 Q (fl [wC ct g kc, wS ct (g 1) v, wS ct (g 2) (sl 0), wS ct (g 3) (sl 1), wV ct g b, wS ct (g 5) (r 0), wS ct (g 6) (r 1), wS ct (g 7) (r 2), wS ct (g 8) (r 3), wS ct (g 9) (r 4), wS ct (g 10) (r 5), wT ct (g 11) tx, wL ct (g 12) y, wO ct (g 13) o, wR ct (g 14) x, wM ct am w hs, wQ ct qa ou]) (117 + (513 - n)) (2344 + 6 * (513 - n)) [(0, .ref sb), (1, .ref (g 0 0)), (2, .ref (am 0)), (3, .ref (qa 0)), (4, .int x4)] 23 []) (hn9 : n + 1 ≤ 513) (kc : Mem) (v : Mem) (sl : Nat → Mem) (b : Mem) (r : Nat → Mem) (tx : Mem) (y : Mem) (o : Mem) (x : Mem) (w : Mem) (hs : Int64) (ou : Nat → Int64) (x4 : Int32) (c327 : ((xs (ix x4)) &&& 31) = 21) (hw : PX7_straightShare kc v (fun r328 => PX8_straightShare w hs (fun r330 w332 => (((Op.cmpValue (FP.dcmp r328 r330) .l) = 0) → PL_law_23 xs L n kc v sl b r tx y o x w332 hs ou (x4 + 3)) ∧ ((¬ (Op.cmpValue (FP.dcmp r328 r330) .l) = 0) → (((Op.cmpValue (FP.dcmp r328 r328) .l) = 0) → False) ∧ ((¬ (Op.cmpValue (FP.dcmp r328 r328) .l) = 0) → ((¬ (Op.cmpValue (FP.dcmp r330 r330) .l) = 0) → PL_law_23 xs L n kc v sl b r tx y o x w332 hs ou (x4 + 3)) ∧ (((Op.cmpValue (FP.dcmp r330 r330) .l) = 0) → False)))))) : GG p l e room_1 s m args below meth c D A s.heap 9 Q (fl [wC ct g kc, wS ct (g 1) v, wS ct (g 2) (sl 0), wS ct (g 3) (sl 1), wV ct g b, wS ct (g 5) (r 0), wS ct (g 6) (r 1), wS ct (g 7) (r 2), wS ct (g 8) (r 3), wS ct (g 9) (r 4), wS ct (g 10) (r 5), wT ct (g 11) tx, wL ct (g 12) y, wO ct (g 13) o, wR ct (g 14) x, wM ct am w hs, wQ ct qa ou]) (117 + (513 - (n + 1))) (2344 + 6 * (513 - (n + 1))) [(0, .ref sb), (1, .ref (g 0 0)), (2, .ref (am 0)), (3, .ref (qa 0)), (4, .int x4)] 1263 [] := by
  refine g_aload_n X 1 dL_law_1263 rfl rfl ?_
  refine g_cdV X [wC ct g kc, wS ct (g 1) v, wS ct (g 2) (sl 0), wS ct (g 3) (sl 1), wV ct g b, wS ct (g 5) (r 0), wS ct (g 6) (r 1), wS ct (g 7) (r 2), wS ct (g 8) (r 3), wS ct (g 9) (r 4), wS ct (g 10) (r 5), wT ct (g 11) tx, wL ct (g 12) y, wO ct (g 13) o, wR ct (g 14) x, wM ct am w hs, wQ ct qa ou] (fun (_ : Unit) => [wC ct g kc, wS ct (g 1) v, wS ct (g 2) (sl 0), wS ct (g 3) (sl 1), wV ct g b, wS ct (g 5) (r 0), wS ct (g 6) (r 1), wS ct (g 7) (r 2), wS ct (g 8) (r 3), wS ct (g 9) (r 4), wS ct (g 10) (r 5), wT ct (g 11) tx, wL ct (g 12) y, wO ct (g 13) o, wR ct (g 14) x, wM ct am w hs, wQ ct qa ou]) (fun _ => fl [wC ct g kc, wS ct (g 1) v, wS ct (g 2) (sl 0), wS ct (g 3) (sl 1), wV ct g b, wS ct (g 5) (r 0), wS ct (g 6) (r 1), wS ct (g 7) (r 2), wS ct (g 8) (r 3), wS ct (g 9) (r 4), wS ct (g 10) (r 5), wT ct (g 11) tx, wL ct (g 12) y, wO ct (g 13) o, wR ct (g 14) x, wM ct am w hs, wQ ct qa ou]) 17 [0, 1] [2, 3, 4, 5, 6, 7, 8, 9, 10, 11, 12, 13, 14, 15, 16] 0 (kX7_straightShare l D ct g kc v _ hw) (cwV 0 X.1.2.2.2.2 gL_law_X7_straightShare rfl rfl rfl (by decide +kernel) ⟨Nat.le_of_ble_eq_true rfl, Nat.le_of_ble_eq_true rfl⟩) dL_law_1264 rfl rfl (Nat.le_of_ble_eq_true rfl) ⟨by show _ ≤ 601024; omega, by show _ ≤ 7293034; omega⟩ rfl rfl rfl (by decide) (fun _ => rfl) (fun _ => lq_0_1) (fun _ => rfl) (fun _ => rfl) rfl rfl rfl (fun r328 _ hw => ?_)
  refine g_dstore X [(5, .double r328), (0, .ref sb), (1, .ref (g 0 0)), (2, .ref (am 0)), (3, .ref (qa 0)), (4, .int x4)] dL_law_1267 (by decide) rfl ?_
  refine g_aload_n X 3 dL_law_1269 rfl rfl ?_
  refine g_cdV X [wC ct g kc, wS ct (g 1) v, wS ct (g 2) (sl 0), wS ct (g 3) (sl 1), wV ct g b, wS ct (g 5) (r 0), wS ct (g 6) (r 1), wS ct (g 7) (r 2), wS ct (g 8) (r 3), wS ct (g 9) (r 4), wS ct (g 10) (r 5), wT ct (g 11) tx, wL ct (g 12) y, wO ct (g 13) o, wR ct (g 14) x, wM ct am w hs, wQ ct qa ou] (fun (u331 : Mem) => [wC ct g kc, wS ct (g 1) v, wS ct (g 2) (sl 0), wS ct (g 3) (sl 1), wV ct g b, wS ct (g 5) (r 0), wS ct (g 6) (r 1), wS ct (g 7) (r 2), wS ct (g 8) (r 3), wS ct (g 9) (r 4), wS ct (g 10) (r 5), wT ct (g 11) tx, wL ct (g 12) y, wO ct (g 13) o, wR ct (g 14) x, wM ct am u331 hs, wQ ct qa ou]) (fun (u331 : Mem) => fl [wC ct g kc, wS ct (g 1) v, wS ct (g 2) (sl 0), wS ct (g 3) (sl 1), wV ct g b, wS ct (g 5) (r 0), wS ct (g 6) (r 1), wS ct (g 7) (r 2), wS ct (g 8) (r 3), wS ct (g 9) (r 4), wS ct (g 10) (r 5), wT ct (g 11) tx, wL ct (g 12) y, wO ct (g 13) o, wR ct (g 14) x, wM ct am u331 hs, wQ ct qa ou]) 17 [15] [0, 1, 2, 3, 4, 5, 6, 7, 8, 9, 10, 11, 12, 13, 14, 16] 0 (kX8_straightShare l D ct am w hs _ hw) (cwV 0 X.1.2.2.2.2 gL_law_X8_straightShare rfl rfl rfl (by decide +kernel) ⟨Nat.le_of_ble_eq_true rfl, Nat.le_of_ble_eq_true rfl⟩) dL_law_1270 rfl rfl (Nat.le_of_ble_eq_true rfl) ⟨by show _ ≤ 601024; omega, by show _ ≤ 7293034; omega⟩ rfl rfl rfl (by decide) (fun _ => rfl) (fun _ => lq_15) (fun _ => rfl) (fun _ => rfl) rfl rfl rfl (fun r330 u331 hw => ?_)
  obtain ⟨w332, hw332⟩ : ∃ z : Mem, z = u331 := ⟨_, rfl⟩
  rw [← hw332] at hw
  rw [← hw332]
  refine g_dstore X [(7, .double r330), (5, .double r328), (0, .ref sb), (1, .ref (g 0 0)), (2, .ref (am 0)), (3, .ref (qa 0)), (4, .int x4)] dL_law_1273 (by decide) rfl ?_
  refine g_dload X 1 dL_law_1275 rfl ?_
  refine g_dload X 0 dL_law_1277 rfl ?_
  refine g_dcmp X dL_law_1279 ?_
  refine g_if_eq X 1301 dL_law_1280 (by decide) (fun c333 => ?_) (fun c333 => ?_)
  · replace hw := hw.1 c333
    refine g_goto X 1318 dL_law_1301 (by decide) ?_
    refine g_iinc X [(4, .int (x4 + 3)), (7, .double r330), (5, .double r328), (0, .ref sb), (1, .ref (g 0 0)), (2, .ref (am 0)), (3, .ref (qa 0))] 6 dL_law_1318 rfl rfl (by decide) rfl ?_
    refine g_goto X 23 dL_law_1321 (by decide) ?_
    refine g_sub [(0, .ref sb), (1, .ref (g 0 0)), (2, .ref (am 0)), (3, .ref (qa 0)), (4, .int (x4 + 3))] [3, 4, 5, 6, 0] rfl ?_
    refine g_wide (k2 := 117 + (513 - n)) (j2 := 2344 + 6 * (513 - n)) (by omega) (by omega) ?_
    exact ih (by omega) _ _ _ _ _ _ _ _ _ _ _ _ _ hw
  · replace hw := hw.2 c333
    refine g_dload X 1 dL_law_1283 rfl ?_
    refine g_dload X 1 dL_law_1285 rfl ?_
    refine g_dcmp X dL_law_1287 ?_
    refine g_if_eq X 1299 dL_law_1288 (by decide) (fun c334 => ?_) (fun c334 => ?_)
    · replace hw := hw.1 c334
      refine g_iconst (v := 0) X rfl dL_law_1299 ?_
      exact hw.elim
    · replace hw := hw.2 c334
      refine g_dload X 0 dL_law_1291 rfl ?_
      refine g_dload X 0 dL_law_1293 rfl ?_
      refine g_dcmp X dL_law_1295 ?_
      refine g_if_ne X 1301 dL_law_1296 (by decide) (fun c335 => ?_) (fun c335 => ?_)
      · replace hw := hw.1 c335
        refine g_goto X 1318 dL_law_1301 (by decide) ?_
        refine g_iinc X [(4, .int (x4 + 3)), (7, .double r330), (5, .double r328), (0, .ref sb), (1, .ref (g 0 0)), (2, .ref (am 0)), (3, .ref (qa 0))] 6 dL_law_1318 rfl rfl (by decide) rfl ?_
        refine g_goto X 23 dL_law_1321 (by decide) ?_
        refine g_sub [(0, .ref sb), (1, .ref (g 0 0)), (2, .ref (am 0)), (3, .ref (qa 0)), (4, .int (x4 + 3))] [3, 4, 5, 6, 0] rfl ?_
        refine g_wide (k2 := 117 + (513 - n)) (j2 := 2344 + 6 * (513 - n)) (by omega) (by omega) ?_
        exact ih (by omega) _ _ _ _ _ _ _ _ _ _ _ _ _ hw
      · replace hw := hw.2 c335
        refine g_iconst (v := 0) X rfl dL_law_1299 ?_
        exact hw.elim
set_option maxHeartbeats 20000000 in
set_option maxRecDepth 20000 in
theorem kL_arm_22 {p : Program} {l : Launch} {e : Env} {s : State} {m : MethodId} {args : Array Value} {below : List Frame} {meth : Method} {c : Code} {D : va_G} {ct : Nat → ClassId} {A : Nat → Prop} {Q : State → Prop} {sb L : Nat} {xs : Nat → Int32} {g : Nat → Nat → Nat} {am qa : Nat → Nat} (hl9 : l.stackTraces = false) (X : Cx p s m args meth c cL_law 9 RL wsL_law D (tyz ct) A s.heap ret) (XX : XL A s) (hX : va_X sb L xs s s.heap) (hbl : sb < s.heap.size) (hbA : ¬ A sb) (hend : ∀ (k j : Nat) (w : va_W) (lv : List (Nat × Value)), k ≤ 601024 → j ≤ 7293034 → GG p l e room_1 s m args below meth c D A s.heap 9 Q (w) (k) (j) lv 1325 [.int 1])  {n : Nat} (ih : n ≤ 513 → ∀ (kc : Mem) (v : Mem) (sl : Nat → Mem) (b : Mem) (r : Nat → Mem) (tx : Mem) (y : Mem) (o : Mem) (x : Mem) (w : Mem) (hs : Int64) (ou : Nat → Int64) (x4 : Int32), PL_law_23 xs L n kc v sl b r tx y o x w hs ou x4 → GG p l e room_1 s m args below meth c D A s.heap 9 Q (fl [wC ct g kc, wS ct (g 1) v, wS ct (g 2) (sl 0), wS ct (g 3) (sl 1), wV ct g b, wS ct (g 5) (r 0), wS ct (g 6) (r 1), wS ct (g 7) (r 2), wS ct (g 8) (r 3), wS ct (g 9) (r 4), wS ct (g 10) (r 5), wT ct (g 11) tx, wL ct (g 12) y, wO ct (g 13) o, wR ct (g 14) x, wM ct am w hs, wQ ct qa ou]) (117 + (513 - n)) (2344 + 6 * (513 - n)) [(0, .ref sb), (1, .ref (g 0 0)), (2, .ref (am 0)), (3, .ref (qa 0)), (4, .int x4)] 23 []) (hn9 : n + 1 ≤ 513) (kc : Mem) (v : Mem) (sl : Nat → Mem) (b : Mem) (r : Nat → Mem) (tx : Mem) (y : Mem) (o : Mem) (x : Mem) (w : Mem) (hs : Int64) (ou : Nat → Int64) (x4 : Int32) (c336 : ((xs (ix x4)) &&& 31) = 22) (hw : PX7_digest kc v b tx y x (fun r337 v339 y340 x341 => PX8_digest w hs (fun r342 w344 hs345 => (((lg_cmp r337 r342) = 0) → PL_law_23 xs L n kc v339 sl b r tx y340 o x341 w344 hs345 ou (x4 + 3)) ∧ ((¬ (lg_cmp r337 r342) = 0) → False)))) : GG p l e room_1 s m args below meth c D A s.heap 9 Q (fl [wC ct g kc, wS ct (g 1) v, wS ct (g 2) (sl 0), wS ct (g 3) (sl 1), wV ct g b, wS ct (g 5) (r 0), wS ct (g 6) (r 1), wS ct (g 7) (r 2), wS ct (g 8) (r 3), wS ct (g 9) (r 4), wS ct (g 10) (r 5), wT ct (g 11) tx, wL ct (g 12) y, wO ct (g 13) o, wR ct (g 14) x, wM ct am w hs, wQ ct qa ou]) (117 + (513 - (n + 1))) (2344 + 6 * (513 - (n + 1))) [(0, .ref sb), (1, .ref (g 0 0)), (2, .ref (am 0)), (3, .ref (qa 0)), (4, .int x4)] 1304 [] := by
  refine g_aload_n X 1 dL_law_1304 rfl rfl ?_
  refine g_clV X [wC ct g kc, wS ct (g 1) v, wS ct (g 2) (sl 0), wS ct (g 3) (sl 1), wV ct g b, wS ct (g 5) (r 0), wS ct (g 6) (r 1), wS ct (g 7) (r 2), wS ct (g 8) (r 3), wS ct (g 9) (r 4), wS ct (g 10) (r 5), wT ct (g 11) tx, wL ct (g 12) y, wO ct (g 13) o, wR ct (g 14) x, wM ct am w hs, wQ ct qa ou] (fun (u338 : Mem × Mem × Mem) => [wC ct g kc, wS ct (g 1) u338.1, wS ct (g 2) (sl 0), wS ct (g 3) (sl 1), wV ct g b, wS ct (g 5) (r 0), wS ct (g 6) (r 1), wS ct (g 7) (r 2), wS ct (g 8) (r 3), wS ct (g 9) (r 4), wS ct (g 10) (r 5), wT ct (g 11) tx, wL ct (g 12) u338.2.1, wO ct (g 13) o, wR ct (g 14) u338.2.2, wM ct am w hs, wQ ct qa ou]) (fun (u338 : Mem × Mem × Mem) => fl [wC ct g kc, wS ct (g 1) u338.1, wS ct (g 2) (sl 0), wS ct (g 3) (sl 1), wV ct g b, wS ct (g 5) (r 0), wS ct (g 6) (r 1), wS ct (g 7) (r 2), wS ct (g 8) (r 3), wS ct (g 9) (r 4), wS ct (g 10) (r 5), wT ct (g 11) tx, wL ct (g 12) u338.2.1, wO ct (g 13) o, wR ct (g 14) u338.2.2, wM ct am w hs, wQ ct qa ou]) 17 [0, 1, 4, 11, 12, 14] [2, 3, 5, 6, 7, 8, 9, 10, 13, 15, 16] 0 (kX7_digest l D ct g kc v b tx y x _ hw) (cwV 0 X.1.2.2.2.2 gL_law_X7_digest rfl rfl rfl (by decide +kernel) ⟨Nat.le_of_ble_eq_true rfl, Nat.le_of_ble_eq_true rfl⟩) dL_law_1305 rfl rfl (Nat.le_of_ble_eq_true rfl) ⟨by show _ ≤ 601024; omega, by show _ ≤ 7293034; omega⟩ rfl rfl rfl (by decide) (fun _ => rfl) (fun _ => lq_0_1_4_11_12_14) (fun _ => rfl) (fun _ => rfl) rfl rfl rfl (fun r337 u338 hw => ?_)
  obtain ⟨v339, hv339⟩ : ∃ z : Mem, z = u338.1 := ⟨_, rfl⟩
  rw [← hv339] at hw
  rw [← hv339]
  obtain ⟨y340, hy340⟩ : ∃ z : Mem, z = u338.2.1 := ⟨_, rfl⟩
  rw [← hy340] at hw
  rw [← hy340]
  obtain ⟨x341, hx341⟩ : ∃ z : Mem, z = u338.2.2 := ⟨_, rfl⟩
  rw [← hx341] at hw
  rw [← hx341]
  refine g_aload_n X 2 dL_law_1308 rfl rfl ?_
  refine g_clV X [wC ct g kc, wS ct (g 1) v339, wS ct (g 2) (sl 0), wS ct (g 3) (sl 1), wV ct g b, wS ct (g 5) (r 0), wS ct (g 6) (r 1), wS ct (g 7) (r 2), wS ct (g 8) (r 3), wS ct (g 9) (r 4), wS ct (g 10) (r 5), wT ct (g 11) tx, wL ct (g 12) y340, wO ct (g 13) o, wR ct (g 14) x341, wM ct am w hs, wQ ct qa ou] (fun (u343 : Mem × Int64) => [wC ct g kc, wS ct (g 1) v339, wS ct (g 2) (sl 0), wS ct (g 3) (sl 1), wV ct g b, wS ct (g 5) (r 0), wS ct (g 6) (r 1), wS ct (g 7) (r 2), wS ct (g 8) (r 3), wS ct (g 9) (r 4), wS ct (g 10) (r 5), wT ct (g 11) tx, wL ct (g 12) y340, wO ct (g 13) o, wR ct (g 14) x341, wM ct am u343.1 u343.2, wQ ct qa ou]) (fun (u343 : Mem × Int64) => fl [wC ct g kc, wS ct (g 1) v339, wS ct (g 2) (sl 0), wS ct (g 3) (sl 1), wV ct g b, wS ct (g 5) (r 0), wS ct (g 6) (r 1), wS ct (g 7) (r 2), wS ct (g 8) (r 3), wS ct (g 9) (r 4), wS ct (g 10) (r 5), wT ct (g 11) tx, wL ct (g 12) y340, wO ct (g 13) o, wR ct (g 14) x341, wM ct am u343.1 u343.2, wQ ct qa ou]) 17 [15] [0, 1, 2, 3, 4, 5, 6, 7, 8, 9, 10, 11, 12, 13, 14, 16] 0 (kX8_digest l D ct am w hs _ hw) (cwV 0 X.1.2.2.2.2 gL_law_X8_digest rfl rfl rfl (by decide +kernel) ⟨Nat.le_of_ble_eq_true rfl, Nat.le_of_ble_eq_true rfl⟩) dL_law_1309 rfl rfl (Nat.le_of_ble_eq_true rfl) ⟨by show _ ≤ 601024; omega, by show _ ≤ 7293034; omega⟩ rfl rfl rfl (by decide) (fun _ => rfl) (fun _ => lq_15) (fun _ => rfl) (fun _ => rfl) rfl rfl rfl (fun r342 u343 hw => ?_)
  obtain ⟨w344, hw344⟩ : ∃ z : Mem, z = u343.1 := ⟨_, rfl⟩
  rw [← hw344] at hw
  rw [← hw344]
  obtain ⟨hs345, hhs345⟩ : ∃ z : Int64, z = u343.2 := ⟨_, rfl⟩
  rw [← hhs345] at hw
  rw [← hhs345]
  refine g_lcmp X dL_law_1312 ?_
  refine g_if_eq X 1318 dL_law_1313 (by decide) (fun c346 => ?_) (fun c346 => ?_)
  · replace hw := hw.1 c346
    refine g_iinc X [(4, .int (x4 + 3)), (0, .ref sb), (1, .ref (g 0 0)), (2, .ref (am 0)), (3, .ref (qa 0))] 4 dL_law_1318 rfl rfl (by decide) rfl ?_
    refine g_goto X 23 dL_law_1321 (by decide) ?_
    refine g_sub [(0, .ref sb), (1, .ref (g 0 0)), (2, .ref (am 0)), (3, .ref (qa 0)), (4, .int (x4 + 3))] [1, 2, 3, 4, 0] rfl ?_
    refine g_wide (k2 := 117 + (513 - n)) (j2 := 2344 + 6 * (513 - n)) (by omega) (by omega) ?_
    exact ih (by omega) _ _ _ _ _ _ _ _ _ _ _ _ _ hw
  · replace hw := hw.2 c346
    refine g_iconst (v := 0) X rfl dL_law_1316 ?_
    exact hw.elim
